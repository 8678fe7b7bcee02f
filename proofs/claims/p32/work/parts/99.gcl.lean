set_option maxHeartbeats 8000000 in
theorem zne_lineRead_o29 {ro : Nat → List Int32} (η : zE) (hp : sP wl_ne zTr zPne_lineRead [] η) (hpp : pPne_lineRead [] η) : ∀ x1 : Int, x1 = η 0 (Int.toNat 8) → zok 0 x1 → (x1 = 1) → ∀ x2 : Int, x2 = η 0 (Int.toNat 9) → zok 0 x2 → (x2 ≤ 6) → ∀ x3 : Int, x3 = η 0 (Int.toNat 9) → zok 0 x3 → (5 < x3) → ∀ (x4 : Int) (η1 : zE), ((gC2 wl_ne [(nat_lit 0, zPne_wrong, zOne_wrong, zMne_wrong), (nat_lit 1, zPne_isSign, zOne_isSign, zMne_isSign), (nat_lit 2, zPne_token1, zOne_token1, zMne_token1), (nat_lit 3, zPne_grooveLine, zOne_grooveLine, zMne_grooveLine), (nat_lit 4, zPne_scratLine, zOne_scratLine, zMne_scratLine), (nat_lit 5, zPne_guestLine, zOne_guestLine, zMne_guestLine), (nat_lit 6, zPne_onceLine0, zOne_onceLine0, zMne_onceLine0), (nat_lit 7, zPne_onceLine1, zOne_onceLine1, zMne_onceLine1), (nat_lit 8, zPne_onceLine2, zOne_onceLine2, zMne_onceLine2), (nat_lit 9, zPne_sumRead, zOne_sumRead, zMne_sumRead)] pCne_lineRead qCne_lineRead) 2).2 [] η x4 η1 → ∀ x5 : Int, x5 = η1 0 (Int.toNat 8) → zok 0 x5 → (x5 = 1) → ∀ x6 : Int, x6 = η1 0 (Int.toNat 9) → zok 0 x6 → (7 ≤ x6) → ∀ x7 : Int, x7 = η1 0 (Int.toNat 9) → zok 0 x7 → (x7 ≤ 9) → ∀ x8 : Int, x8 = η1 0 (Int.toNat 9) → zok 0 x8 → ∀ x9 : Int, x9 = zd 0 1 3 x8 → ∀ x10 : Int, x10 = zd 0 2 x9 7 → ∀ x11 : Int, x11 = η1 16 (Int.toNat x10) → zok 1 x11 → (x11 = 0) → ∀ η2 : zE, η2 = zup η1 16 (Int.toNat x10) 1 → ∀ (x12 : Int) (η3 : zE), ((gC2 wl_ne [(nat_lit 0, zPne_wrong, zOne_wrong, zMne_wrong), (nat_lit 1, zPne_isSign, zOne_isSign, zMne_isSign), (nat_lit 2, zPne_token1, zOne_token1, zMne_token1), (nat_lit 3, zPne_grooveLine, zOne_grooveLine, zMne_grooveLine), (nat_lit 4, zPne_scratLine, zOne_scratLine, zMne_scratLine), (nat_lit 5, zPne_guestLine, zOne_guestLine, zMne_guestLine), (nat_lit 6, zPne_onceLine0, zOne_onceLine0, zMne_onceLine0), (nat_lit 7, zPne_onceLine1, zOne_onceLine1, zMne_onceLine1), (nat_lit 8, zPne_onceLine2, zOne_onceLine2, zMne_onceLine2), (nat_lit 9, zPne_sumRead, zOne_sumRead, zMne_sumRead)] pCne_lineRead qCne_lineRead) 2).2 [] η2 x12 η3 → ∀ x13 : Int, x13 = η3 0 (Int.toNat 19) → zok 0 x13 → ∀ η4 : zE, η4 = zup η3 17 (Int.toNat x10) x13 → ∀ (x14 : Int) (η5 : zE), ((gC2 wl_ne [(nat_lit 0, zPne_wrong, zOne_wrong, zMne_wrong), (nat_lit 1, zPne_isSign, zOne_isSign, zMne_isSign), (nat_lit 2, zPne_token1, zOne_token1, zMne_token1), (nat_lit 3, zPne_grooveLine, zOne_grooveLine, zMne_grooveLine), (nat_lit 4, zPne_scratLine, zOne_scratLine, zMne_scratLine), (nat_lit 5, zPne_guestLine, zOne_guestLine, zMne_guestLine), (nat_lit 6, zPne_onceLine0, zOne_onceLine0, zMne_onceLine0), (nat_lit 7, zPne_onceLine1, zOne_onceLine1, zMne_onceLine1), (nat_lit 8, zPne_onceLine2, zOne_onceLine2, zMne_onceLine2), (nat_lit 9, zPne_sumRead, zOne_sumRead, zMne_sumRead)] pCne_lineRead qCne_lineRead) 9).2 [] η4 x14 η5 → ∀ x15 : Int, x15 = η5 0 (Int.toNat 19) → zok 0 x15 → ∀ η6 : zE, η6 = zup η5 18 (Int.toNat x10) x15 → (¬ x14 = 0) → ∀ (x16 : Int) (η7 : zE), ((gC2 wl_ne [(nat_lit 0, zPne_wrong, zOne_wrong, zMne_wrong), (nat_lit 1, zPne_isSign, zOne_isSign, zMne_isSign), (nat_lit 2, zPne_token1, zOne_token1, zMne_token1), (nat_lit 3, zPne_grooveLine, zOne_grooveLine, zMne_grooveLine), (nat_lit 4, zPne_scratLine, zOne_scratLine, zMne_scratLine), (nat_lit 5, zPne_guestLine, zOne_guestLine, zMne_guestLine), (nat_lit 6, zPne_onceLine0, zOne_onceLine0, zMne_onceLine0), (nat_lit 7, zPne_onceLine1, zOne_onceLine1, zMne_onceLine1), (nat_lit 8, zPne_onceLine2, zOne_onceLine2, zMne_onceLine2), (nat_lit 9, zPne_sumRead, zOne_sumRead, zMne_sumRead)] pCne_lineRead qCne_lineRead) 1).2 [59] η6 x16 η7 → (x16 = 0) → ∀ (x17 : Int) (η8 : zE), ((gC2 wl_ne [(nat_lit 0, zPne_wrong, zOne_wrong, zMne_wrong), (nat_lit 1, zPne_isSign, zOne_isSign, zMne_isSign), (nat_lit 2, zPne_token1, zOne_token1, zMne_token1), (nat_lit 3, zPne_grooveLine, zOne_grooveLine, zMne_grooveLine), (nat_lit 4, zPne_scratLine, zOne_scratLine, zMne_scratLine), (nat_lit 5, zPne_guestLine, zOne_guestLine, zMne_guestLine), (nat_lit 6, zPne_onceLine0, zOne_onceLine0, zMne_onceLine0), (nat_lit 7, zPne_onceLine1, zOne_onceLine1, zMne_onceLine1), (nat_lit 8, zPne_onceLine2, zOne_onceLine2, zMne_onceLine2), (nat_lit 9, zPne_sumRead, zOne_sumRead, zMne_sumRead)] pCne_lineRead qCne_lineRead) 0).2 [1] η7 x17 η8 → (fun (_ : Nat) (y : Int) (η' : zE) => pQne_lineRead [] η y η') 0 x17 η8 := by
  intro x1 e1 r1 c1 x2 e2 r2 c2 x3 e3 r3 c3 x4 η1 h4 x5 e5 r5 c4 x6 e6 r6 c5 x7 e7 r7 c6 x8 e8 r8 x9 e9 x10 e10 x11 e11 r11 c7 η2 eη2 x12 η3 h12 x13 e13 r13 η4 eη4 x14 η5 h14 x15 e15 r15 η6 eη6 c8 x16 η7 h16 c9 x17 η8 h17
  have y4 : fQne_token1 [] η x4 η1 := h4.2.2
  have k4 : sQ wl_ne zTr zOne_token1 zMne_token1 [] η x4 η1 ∧ oQne_token1 [] η x4 η1 := ⟨h4.1, h4.2.1⟩
  have y12 : fQne_token1 [] η2 x12 η3 := h12.2.2
  have k12 : sQ wl_ne zTr zOne_token1 zMne_token1 [] η2 x12 η3 ∧ oQne_token1 [] η2 x12 η3 := ⟨h12.1, h12.2.1⟩
  have y14 : fQne_sumRead [] η4 x14 η5 := h14.2.2
  have k14 : sQ wl_ne zTr zOne_sumRead zMne_sumRead [] η4 x14 η5 ∧ oQne_sumRead [] η4 x14 η5 := ⟨h14.1, h14.2.1⟩
  have y16 : fQne_isSign [59] η6 x16 η7 := h16.2.2
  have k16 : sQ wl_ne zTr zOne_isSign zMne_isSign [59] η6 x16 η7 ∧ oQne_isSign [59] η6 x16 η7 := ⟨h16.1, h16.2.1⟩
  have y17 : fQne_wrong [1] η7 x17 η8 := h17.2.2
  have k17 : sQ wl_ne zTr zOne_wrong zMne_wrong [1] η7 x17 η8 ∧ oQne_wrong [1] η7 x17 η8 := ⟨h17.1, h17.2.1⟩
  refine yj_a ?_ ?_
  · replace e9 := zEq_i e9
    replace e10 := zEq_i e10
    have y4 : fQne_token1 [] η x4 η1 := h4.2.2
    have k4 : sQ wl_ne zTr zOne_token1 zMne_token1 [] η x4 η1 ∧ oQne_token1 [] η x4 η1 := ⟨h4.1, h4.2.1⟩
    have y12 : fQne_token1 [] η2 x12 η3 := h12.2.2
    have k12 : sQ wl_ne zTr zOne_token1 zMne_token1 [] η2 x12 η3 ∧ oQne_token1 [] η2 x12 η3 := ⟨h12.1, h12.2.1⟩
    have y14 : fQne_sumRead [] η4 x14 η5 := h14.2.2
    have k14 : sQ wl_ne zTr zOne_sumRead zMne_sumRead [] η4 x14 η5 ∧ oQne_sumRead [] η4 x14 η5 := ⟨h14.1, h14.2.1⟩
    have y16 : fQne_isSign [59] η6 x16 η7 := h16.2.2
    have k16 : sQ wl_ne zTr zOne_isSign zMne_isSign [59] η6 x16 η7 ∧ oQne_isSign [59] η6 x16 η7 := ⟨h16.1, h16.2.1⟩
    have y17 : fQne_wrong [1] η7 x17 η8 := h17.2.2
    have k17 : sQ wl_ne zTr zOne_wrong zMne_wrong [1] η7 x17 η8 ∧ oQne_wrong [1] η7 x17 η8 := ⟨h17.1, h17.2.1⟩
    have w0_0_8 : (0 : Int) ≤ η 0 8 ∧ η 0 8 ≤ 6 := wf_ok (a := 8) (b := 8) (z := (0, 6)) hp.1 (by decide +kernel) (Nat.le_refl _) (Nat.le_refl _)
    replace e1 : x1 = η 0 8 := e1
    replace e2 : x2 = η 0 9 := e2
    replace r2 : -2147483648 ≤ x2 ∧ x2 ≤ 2147483647 := r2
    replace e3 : x3 = η 0 9 := e3
    replace r3 : -2147483648 ≤ x3 ∧ x3 ≤ 2147483647 := r3
    have w0_0_7 : (0 : Int) ≤ η 0 7 ∧ η 0 7 ≤ 700 := wf_ok (a := 7) (b := 7) (z := (0, 700)) hp.1 (by decide +kernel) (Nat.le_refl _) (Nat.le_refl _)
    have c0_0_7 : η 0 7 = η 0 7 := rfl
    have w0_0_6 : (0 : Int) ≤ η 0 6 ∧ η 0 6 ≤ 700 := wf_ok (a := 6) (b := 6) (z := (0, 700)) hp.1 (by decide +kernel) (Nat.le_refl _) (Nat.le_refl _)
    have c0_0_6 : η 0 6 = η 0 6 := rfl
    have c0_0_8 : η 0 8 = η 0 8 := rfl
    have w0_0_19 : (0 : Int) ≤ η 0 19 ∧ η 0 19 ≤ 64 := wf_ok (a := 19) (b := 19) (z := (0, 64)) hp.1 (by decide +kernel) (Nat.le_refl _) (Nat.le_refl _)
    have c0_0_19 : η 0 19 = η 0 19 := rfl
    have w0_0_44 : (0 : Int) ≤ η 0 44 ∧ η 0 44 ≤ 64 := wf_ok (a := 44) (b := 44) (z := (0, 64)) hp.1 (by decide +kernel) (Nat.le_refl _) (Nat.le_refl _)
    have c0_0_44 : η 0 44 = η 0 44 := rfl
    have bx4 : (0 : Int) ≤ x4 ∧ x4 ≤ 0 := k4.1.2.1
    have w1_0_7 : (0 : Int) ≤ η1 0 7 ∧ η1 0 7 ≤ 700 := wf_ok (a := 7) (b := 7) (z := (0, 700)) k4.1.1 (by decide +kernel) (Nat.le_refl _) (Nat.le_refl _)
    have d1_0_7 : η1 0 7 = η1 0 7 := rfl
    have v7 : zEq (η1 0 6) (η 0 6) := (k4.1.2.2.2.1 0 6 (by decide +kernel)).trans rfl
    have d1_0_6 : η1 0 6 = η 0 6 := v7
    have w1_0_8 : (0 : Int) ≤ η1 0 8 ∧ η1 0 8 ≤ 6 := wf_ok (a := 8) (b := 8) (z := (0, 6)) k4.1.1 (by decide +kernel) (Nat.le_refl _) (Nat.le_refl _)
    have d1_0_8 : η1 0 8 = η1 0 8 := rfl
    have v9 : zEq (η1 0 19) (η 0 19) := (k4.1.2.2.2.1 0 19 (by decide +kernel)).trans rfl
    have d1_0_19 : η1 0 19 = η 0 19 := v9
    have v10 : zEq (η1 0 44) (η 0 44) := (k4.1.2.2.2.1 0 44 (by decide +kernel)).trans rfl
    have d1_0_44 : η1 0 44 = η 0 44 := v10
    replace e5 : x5 = η1 0 8 := e5
    replace e6 : x6 = η1 0 9 := e6
    replace r6 : -2147483648 ≤ x6 ∧ x6 ≤ 2147483647 := r6
    replace e7 : x7 = η1 0 9 := e7
    replace r7 : -2147483648 ≤ x7 ∧ x7 ≤ 2147483647 := r7
    replace e8 : x8 = η1 0 9 := e8
    replace r8 : -2147483648 ≤ x8 ∧ x8 ≤ 2147483647 := r8
    first
    | replace e9 : x9 = 3 + x8 := zd_a2 (zEq_o e9) (by clear e9; exact ⟨by omega, by omega⟩)
    | clear e9
    first
    | replace e10 : x10 = x9 - 7 := zd_s2 (zEq_o e10) (by clear e10; exact ⟨by omega, by omega⟩)
    | clear e10
    have v13 : zEq (η1 16 (Int.toNat x10)) (η 16 (Int.toNat x10)) := (k4.1.2.2.2.1 16 _ (zinr_not (by decide +kernel))).trans rfl
    replace e11 : x11 = η 16 (Int.toNat x10) := e11.trans v13
    replace r11 : 0 ≤ x11 ∧ x11 ≤ 1 := r11
    have v14 : zEq (η2 0 7) (η1 0 7) := by rw [eη2]; exact (zup_ne (fun e _ => absurd e (by decide))).trans rfl
    have c2_0_7 : η2 0 7 = η1 0 7 := v14
    have v15 : zEq (η2 0 6) (η 0 6) := by rw [eη2]; exact (zup_ne (fun e _ => absurd e (by decide))).trans v7
    have c2_0_6 : η2 0 6 = η 0 6 := v15
    have v16 : zEq (η2 0 8) (η1 0 8) := by rw [eη2]; exact (zup_ne (fun e _ => absurd e (by decide))).trans rfl
    have c2_0_8 : η2 0 8 = η1 0 8 := v16
    have v17 : zEq (η2 0 19) (η 0 19) := by rw [eη2]; exact (zup_ne (fun e _ => absurd e (by decide))).trans v9
    have c2_0_19 : η2 0 19 = η 0 19 := v17
    have v18 : zEq (η2 0 44) (η 0 44) := by rw [eη2]; exact (zup_ne (fun e _ => absurd e (by decide))).trans v10
    have c2_0_44 : η2 0 44 = η 0 44 := v18
    have bx12 : (0 : Int) ≤ x12 ∧ x12 ≤ 0 := k12.1.2.1
    have w3_0_7 : (0 : Int) ≤ η3 0 7 ∧ η3 0 7 ≤ 700 := wf_ok (a := 7) (b := 7) (z := (0, 700)) k12.1.1 (by decide +kernel) (Nat.le_refl _) (Nat.le_refl _)
    have d3_0_7 : η3 0 7 = η3 0 7 := rfl
    have v20 : zEq (η3 0 6) (η 0 6) := (k12.1.2.2.2.1 0 6 (by decide +kernel)).trans v15
    have d3_0_6 : η3 0 6 = η 0 6 := v20
    have w3_0_8 : (0 : Int) ≤ η3 0 8 ∧ η3 0 8 ≤ 6 := wf_ok (a := 8) (b := 8) (z := (0, 6)) k12.1.1 (by decide +kernel) (Nat.le_refl _) (Nat.le_refl _)
    have d3_0_8 : η3 0 8 = η3 0 8 := rfl
    have v22 : zEq (η3 0 19) (η 0 19) := (k12.1.2.2.2.1 0 19 (by decide +kernel)).trans v17
    have d3_0_19 : η3 0 19 = η 0 19 := v22
    have v23 : zEq (η3 0 44) (η 0 44) := (k12.1.2.2.2.1 0 44 (by decide +kernel)).trans v18
    have d3_0_44 : η3 0 44 = η 0 44 := v23
    replace e13 : x13 = η 0 19 := e13.trans v22
    have v24 : zEq (η4 0 7) (η3 0 7) := by rw [eη4]; exact (zup_ne (fun e _ => absurd e (by decide))).trans rfl
    have c4_0_7 : η4 0 7 = η3 0 7 := v24
    have v25 : zEq (η4 0 6) (η 0 6) := by rw [eη4]; exact (zup_ne (fun e _ => absurd e (by decide))).trans v20
    have c4_0_6 : η4 0 6 = η 0 6 := v25
    have v26 : zEq (η4 0 8) (η3 0 8) := by rw [eη4]; exact (zup_ne (fun e _ => absurd e (by decide))).trans rfl
    have c4_0_8 : η4 0 8 = η3 0 8 := v26
    have v27 : zEq (η4 0 19) (η 0 19) := by rw [eη4]; exact (zup_ne (fun e _ => absurd e (by decide))).trans v22
    have c4_0_19 : η4 0 19 = η 0 19 := v27
    have v28 : zEq (η4 0 44) (η 0 44) := by rw [eη4]; exact (zup_ne (fun e _ => absurd e (by decide))).trans v23
    have c4_0_44 : η4 0 44 = η 0 44 := v28
    have bx14 : (0 : Int) ≤ x14 ∧ x14 ≤ 1 := k14.1.2.1
    have w5_0_7 : (0 : Int) ≤ η5 0 7 ∧ η5 0 7 ≤ 700 := wf_ok (a := 7) (b := 7) (z := (0, 700)) k14.1.1 (by decide +kernel) (Nat.le_refl _) (Nat.le_refl _)
    have d5_0_7 : η5 0 7 = η5 0 7 := rfl
    have v30 : zEq (η5 0 6) (η 0 6) := (k14.1.2.2.2.1 0 6 (by decide +kernel)).trans v25
    have d5_0_6 : η5 0 6 = η 0 6 := v30
    have w5_0_8 : (0 : Int) ≤ η5 0 8 ∧ η5 0 8 ≤ 6 := wf_ok (a := 8) (b := 8) (z := (0, 6)) k14.1.1 (by decide +kernel) (Nat.le_refl _) (Nat.le_refl _)
    have d5_0_8 : η5 0 8 = η5 0 8 := rfl
    have w5_0_19 : (0 : Int) ≤ η5 0 19 ∧ η5 0 19 ≤ 64 := wf_ok (a := 19) (b := 19) (z := (0, 64)) k14.1.1 (by decide +kernel) (Nat.le_refl _) (Nat.le_refl _)
    have d5_0_19 : η5 0 19 = η5 0 19 := rfl
    have w5_0_44 : (0 : Int) ≤ η5 0 44 ∧ η5 0 44 ≤ 64 := wf_ok (a := 44) (b := 44) (z := (0, 64)) k14.1.1 (by decide +kernel) (Nat.le_refl _) (Nat.le_refl _)
    have d5_0_44 : η5 0 44 = η5 0 44 := rfl
    replace e15 : x15 = η5 0 19 := e15
    have v34 : zEq (η6 0 7) (η5 0 7) := by rw [eη6]; exact (zup_ne (fun e _ => absurd e (by decide))).trans rfl
    have c6_0_7 : η6 0 7 = η5 0 7 := v34
    have v35 : zEq (η6 0 6) (η 0 6) := by rw [eη6]; exact (zup_ne (fun e _ => absurd e (by decide))).trans v30
    have c6_0_6 : η6 0 6 = η 0 6 := v35
    have v36 : zEq (η6 0 8) (η5 0 8) := by rw [eη6]; exact (zup_ne (fun e _ => absurd e (by decide))).trans rfl
    have c6_0_8 : η6 0 8 = η5 0 8 := v36
    have v37 : zEq (η6 0 19) (η5 0 19) := by rw [eη6]; exact (zup_ne (fun e _ => absurd e (by decide))).trans rfl
    have c6_0_19 : η6 0 19 = η5 0 19 := v37
    have v38 : zEq (η6 0 44) (η5 0 44) := by rw [eη6]; exact (zup_ne (fun e _ => absurd e (by decide))).trans rfl
    have c6_0_44 : η6 0 44 = η5 0 44 := v38
    have bx16 : (0 : Int) ≤ x16 ∧ x16 ≤ 1 := k16.1.2.1
    have v39 : zEq (η7 0 7) (η5 0 7) := (k16.1.2.2.2.1 0 7 (by decide +kernel)).trans v34
    have d7_0_7 : η7 0 7 = η5 0 7 := v39
    have v40 : zEq (η7 0 6) (η 0 6) := (k16.1.2.2.2.1 0 6 (by decide +kernel)).trans v35
    have d7_0_6 : η7 0 6 = η 0 6 := v40
    have v41 : zEq (η7 0 8) (η5 0 8) := (k16.1.2.2.2.1 0 8 (by decide +kernel)).trans v36
    have d7_0_8 : η7 0 8 = η5 0 8 := v41
    have v42 : zEq (η7 0 19) (η5 0 19) := (k16.1.2.2.2.1 0 19 (by decide +kernel)).trans v37
    have d7_0_19 : η7 0 19 = η5 0 19 := v42
    have v43 : zEq (η7 0 44) (η5 0 44) := (k16.1.2.2.2.1 0 44 (by decide +kernel)).trans v38
    have d7_0_44 : η7 0 44 = η5 0 44 := v43
    have c7_0_7 : η7 0 7 = η5 0 7 := v39
    have c7_0_6 : η7 0 6 = η 0 6 := v40
    have c7_0_8 : η7 0 8 = η5 0 8 := v41
    have c7_0_19 : η7 0 19 = η5 0 19 := v42
    have c7_0_44 : η7 0 44 = η5 0 44 := v43
    have bx17 : (0 : Int) ≤ x17 ∧ x17 ≤ 0 := k17.1.2.1
    have v44 : zEq (η8 0 7) (η5 0 7) := (k17.1.2.2.2.1 0 7 (by decide +kernel)).trans v39
    have d8_0_7 : η8 0 7 = η5 0 7 := v44
    have v45 : zEq (η8 0 6) (η 0 6) := (k17.1.2.2.2.1 0 6 (by decide +kernel)).trans v40
    have d8_0_6 : η8 0 6 = η 0 6 := v45
    have v46 : zEq (η8 0 8) (η5 0 8) := (k17.1.2.2.2.1 0 8 (by decide +kernel)).trans v41
    have d8_0_8 : η8 0 8 = η5 0 8 := v46
    have v47 : zEq (η8 0 19) (η5 0 19) := (k17.1.2.2.2.1 0 19 (by decide +kernel)).trans v42
    have d8_0_19 : η8 0 19 = η5 0 19 := v47
    have v48 : zEq (η8 0 44) (η5 0 44) := (k17.1.2.2.2.1 0 44 (by decide +kernel)).trans v43
    have d8_0_44 : η8 0 44 = η5 0 44 := v48
    have fr16_0 : ∀ j, η 16 j = η 16 j := fun _ => rfl
    have v49 : ∀ j, η1 16 j = η 16 j := fun j => k4.1.2.2.2.1 16 _ (zinr_not (by decide +kernel))
    have fr16_1 : ∀ j, η1 16 j = η 16 j := v49
    have fr16_2 : ∀ j, η2 16 j = η2 16 j := fun _ => rfl
    have v51 : ∀ j, η3 16 j = η2 16 j := fun j => k12.1.2.2.2.1 16 _ (zinr_not (by decide +kernel))
    have fr16_3 : ∀ j, η3 16 j = η2 16 j := v51
    have v52 : ∀ j, η4 16 j = η2 16 j := fun j => by rw [eη4]; exact (zup_ne (fun e _ => absurd e (by decide))).trans (v51 j)
    have fr16_4 : ∀ j, η4 16 j = η2 16 j := v52
    have v53 : ∀ j, η5 16 j = η2 16 j := fun j => (k14.1.2.2.2.1 16 _ (zinr_not (by decide +kernel))).trans (v52 j)
    have fr16_5 : ∀ j, η5 16 j = η2 16 j := v53
    have v54 : ∀ j, η6 16 j = η2 16 j := fun j => by rw [eη6]; exact (zup_ne (fun e _ => absurd e (by decide))).trans (v53 j)
    have fr16_6 : ∀ j, η6 16 j = η2 16 j := v54
    have v55 : ∀ j, η7 16 j = η2 16 j := fun j => (k16.1.2.2.2.1 16 _ (zinr_not (by decide +kernel))).trans (v54 j)
    have fr16_7 : ∀ j, η7 16 j = η2 16 j := v55
    have v56 : ∀ j, η8 16 j = η2 16 j := fun j => (k17.1.2.2.2.1 16 _ (zinr_not (by decide +kernel))).trans (v55 j)
    have fr16_8 : ∀ j, η8 16 j = η2 16 j := v56
    have fr18_0 : ∀ j, η 18 j = η 18 j := fun _ => rfl
    have v57 : ∀ j, η1 18 j = η 18 j := fun j => k4.1.2.2.2.1 18 _ (zinr_not (by decide +kernel))
    have fr18_1 : ∀ j, η1 18 j = η 18 j := v57
    have v58 : ∀ j, η2 18 j = η 18 j := fun j => by rw [eη2]; exact (zup_ne (fun e _ => absurd e (by decide))).trans (v57 j)
    have fr18_2 : ∀ j, η2 18 j = η 18 j := v58
    have v59 : ∀ j, η3 18 j = η 18 j := fun j => (k12.1.2.2.2.1 18 _ (zinr_not (by decide +kernel))).trans (v58 j)
    have fr18_3 : ∀ j, η3 18 j = η 18 j := v59
    have v60 : ∀ j, η4 18 j = η 18 j := fun j => by rw [eη4]; exact (zup_ne (fun e _ => absurd e (by decide))).trans (v59 j)
    have fr18_4 : ∀ j, η4 18 j = η 18 j := v60
    have v61 : ∀ j, η5 18 j = η 18 j := fun j => (k14.1.2.2.2.1 18 _ (zinr_not (by decide +kernel))).trans (v60 j)
    have fr18_5 : ∀ j, η5 18 j = η 18 j := v61
    have fr18_6 : ∀ j, η6 18 j = η6 18 j := fun _ => rfl
    have v63 : ∀ j, η7 18 j = η6 18 j := fun j => k16.1.2.2.2.1 18 _ (zinr_not (by decide +kernel))
    have fr18_7 : ∀ j, η7 18 j = η6 18 j := v63
    have v64 : ∀ j, η8 18 j = η6 18 j := fun j => (k17.1.2.2.2.1 18 _ (zinr_not (by decide +kernel))).trans (v63 j)
    have fr18_8 : ∀ j, η8 18 j = η6 18 j := v64
    have f0_7 : η8 0 7 = η5 0 7 := v44
    have f0_6 : η8 0 6 = η 0 6 := v45
    have f0_8 : η8 0 8 = η5 0 8 := v46
    have f0_19 : η8 0 19 = η5 0 19 := v47
    have f0_44 : η8 0 44 = η5 0 44 := v48
    have qt4 : ¬ η 0 8 = 0 → 10 * (η1 0 6 - η1 0 7) + η1 0 8 < 10 * (η 0 6 - η 0 7) + η 0 8 := k4.2.2
    have P1 : PL_n 6 η1 := zGk_fm2 plk_n (hpp.2) k4.1.2.2.2.1 (by decide +kernel)
    have I2 : G1_n η2 := by rw [eη2]; exact zGk_up g1k_n (k4.2.1) (by decide +kernel)
    have qt12 : ¬ η2 0 8 = 0 → 10 * (η3 0 6 - η3 0 7) + η3 0 8 < 10 * (η2 0 6 - η2 0 7) + η2 0 8 := k12.2.2
    have I4 : G1_n η4 := by rw [eη4]; exact zGk_up g1k_n (k12.2.1) (by decide +kernel)
    have qm14 : ¬ x14 = 0 → 10 * (η5 0 6 - η5 0 7) + η5 0 8 ≤ 10 * (η4 0 6 - η4 0 7) + η4 0 8 := fun w => (k14.2.2 w).2.2
    have Z6 : G0_l η6 := by rw [eη6]; exact zGk_up g0k_l (k14.2.1) (by decide +kernel)
    have pa6 : ∀ j, ¬ j = Int.toNat x10 → η6 16 j = η 16 j := fun j hj => by rw [fr16_6, eη2, zup_ne (fun _ e => hj e), fr16_1]
    have pb6 : ∀ j, ¬ j = Int.toNat x10 → η6 18 j = η 18 j := fun j hj => by rw [eη6, zup_ne (fun _ e => hj e), fr18_5]
    have sc6 := k14.2.2 (by omega)
    have s16 : η5 0 19 = η5 0 44 := sc6.1
    have s26 : 1 ≤ η5 0 19 := sc6.2.1
    have J6 : G_n η6 := ⟨⟨Z6, show η6 0 19 = η6 0 44 by apply Int.le_antisymm <;> omega⟩, pl_2 (k := Int.toNat x10) hpp.2 pa6 pb6 (by rw [eη6, zup_eq]; omega)⟩
    have qs16 : ¬ x16 = 0 → η6 0 8 = 4 := k16.2.2
    exact ⟨k17.2.1.1, pl_d (k17.2.2) (by decide), fun w => absurd (show (x17 : Int) = 0 by apply Int.le_antisymm <;> omega) w⟩
  · have e1 : x1 = η 0 8 := e1
    have e2 : x2 = η 0 9 := e2
    have e3 : x3 = η 0 9 := e3
    have f3 : x2 = x3 := e2.trans e3.symm
    subst f3
    have b4 : η1 = (yq_tok η) := y4
    have e5 : x5 = η1 0 8 := e5
    have e6 : x6 = η1 0 9 := e6
    have e7 : x7 = η1 0 9 := e7
    have f7 : x6 = x7 := e6.trans e7.symm
    subst f7
    have e8 : x8 = η1 0 9 := e8
    have f8 : x6 = x8 := e6.trans e8.symm
    subst f8
    have e9 : x9 = zd 0 1 3 x6 := e9
    have e10 : x10 = zd 0 2 x9 7 := e10
    have e11 : x11 = η1 16 (Int.toNat x10) := e11
    have eη2 : η2 = zup η1 16 (Int.toNat x10) 1 := eη2
    have b12 : η3 = (yq_tok η2) := y12
    have e13 : x13 = η3 0 19 := e13
    have eη4 : η4 = zup η3 17 (Int.toNat x10) x13 := eη4
    obtain ⟨a14, b14⟩ : x14 = (yq_sum η4).1 ∧ η5 = (yq_sum η4).2 := y14
    have e15 : x15 = η5 0 19 := e15
    have eη6 : η6 = zup η5 18 (Int.toNat x10) x15 := eη6
    obtain ⟨a16, b16⟩ : x16 = (yq_isS 59 η6) ∧ η6 = η7 := ⟨y16.1, y16.2.symm⟩
    subst b16
    obtain ⟨a17, b17⟩ : x17 = 0 ∧ η8 = (yq_wr 1 η6) := y17
    show x17 = (yq_lnr η).1 ∧ η8 = (yq_lnr η).2
    simp only [yq_lnr, yq_le, yq_law, yq_lw1, yq_lw2, yq_no, ← e1, ← e2, ← b4, ← e5, ← e6, ← e9, ← e10, ← e11, ← eη2, ← b12, ← e13, ← eη4, ← a14, ← b14, ← e15, ← eη6, ← a16, ← b17, a17]
    all_goals clear e9 e10
    all_goals (repeat (first | rw [if_pos (by omega)] | rw [if_neg (by omega)]))
    all_goals exact ⟨rfl, rfl⟩
set_option maxHeartbeats 8000000 in
theorem zne_lineRead_o30 {ro : Nat → List Int32} (η : zE) (hp : sP wl_ne zTr zPne_lineRead [] η) (hpp : pPne_lineRead [] η) : ∀ x1 : Int, x1 = η 0 (Int.toNat 8) → zok 0 x1 → (x1 = 1) → ∀ x2 : Int, x2 = η 0 (Int.toNat 9) → zok 0 x2 → (x2 ≤ 6) → ∀ x3 : Int, x3 = η 0 (Int.toNat 9) → zok 0 x3 → (5 < x3) → ∀ (x4 : Int) (η1 : zE), ((gC2 wl_ne [(nat_lit 0, zPne_wrong, zOne_wrong, zMne_wrong), (nat_lit 1, zPne_isSign, zOne_isSign, zMne_isSign), (nat_lit 2, zPne_token1, zOne_token1, zMne_token1), (nat_lit 3, zPne_grooveLine, zOne_grooveLine, zMne_grooveLine), (nat_lit 4, zPne_scratLine, zOne_scratLine, zMne_scratLine), (nat_lit 5, zPne_guestLine, zOne_guestLine, zMne_guestLine), (nat_lit 6, zPne_onceLine0, zOne_onceLine0, zMne_onceLine0), (nat_lit 7, zPne_onceLine1, zOne_onceLine1, zMne_onceLine1), (nat_lit 8, zPne_onceLine2, zOne_onceLine2, zMne_onceLine2), (nat_lit 9, zPne_sumRead, zOne_sumRead, zMne_sumRead)] pCne_lineRead qCne_lineRead) 2).2 [] η x4 η1 → ∀ x5 : Int, x5 = η1 0 (Int.toNat 8) → zok 0 x5 → (x5 = 1) → ∀ x6 : Int, x6 = η1 0 (Int.toNat 9) → zok 0 x6 → (7 ≤ x6) → ∀ x7 : Int, x7 = η1 0 (Int.toNat 9) → zok 0 x7 → (x7 ≤ 9) → ∀ x8 : Int, x8 = η1 0 (Int.toNat 9) → zok 0 x8 → ∀ x9 : Int, x9 = zd 0 1 3 x8 → ∀ x10 : Int, x10 = zd 0 2 x9 7 → ∀ x11 : Int, x11 = η1 16 (Int.toNat x10) → zok 1 x11 → (x11 = 0) → ∀ η2 : zE, η2 = zup η1 16 (Int.toNat x10) 1 → ∀ (x12 : Int) (η3 : zE), ((gC2 wl_ne [(nat_lit 0, zPne_wrong, zOne_wrong, zMne_wrong), (nat_lit 1, zPne_isSign, zOne_isSign, zMne_isSign), (nat_lit 2, zPne_token1, zOne_token1, zMne_token1), (nat_lit 3, zPne_grooveLine, zOne_grooveLine, zMne_grooveLine), (nat_lit 4, zPne_scratLine, zOne_scratLine, zMne_scratLine), (nat_lit 5, zPne_guestLine, zOne_guestLine, zMne_guestLine), (nat_lit 6, zPne_onceLine0, zOne_onceLine0, zMne_onceLine0), (nat_lit 7, zPne_onceLine1, zOne_onceLine1, zMne_onceLine1), (nat_lit 8, zPne_onceLine2, zOne_onceLine2, zMne_onceLine2), (nat_lit 9, zPne_sumRead, zOne_sumRead, zMne_sumRead)] pCne_lineRead qCne_lineRead) 2).2 [] η2 x12 η3 → ∀ x13 : Int, x13 = η3 0 (Int.toNat 19) → zok 0 x13 → ∀ η4 : zE, η4 = zup η3 17 (Int.toNat x10) x13 → ∀ (x14 : Int) (η5 : zE), ((gC2 wl_ne [(nat_lit 0, zPne_wrong, zOne_wrong, zMne_wrong), (nat_lit 1, zPne_isSign, zOne_isSign, zMne_isSign), (nat_lit 2, zPne_token1, zOne_token1, zMne_token1), (nat_lit 3, zPne_grooveLine, zOne_grooveLine, zMne_grooveLine), (nat_lit 4, zPne_scratLine, zOne_scratLine, zMne_scratLine), (nat_lit 5, zPne_guestLine, zOne_guestLine, zMne_guestLine), (nat_lit 6, zPne_onceLine0, zOne_onceLine0, zMne_onceLine0), (nat_lit 7, zPne_onceLine1, zOne_onceLine1, zMne_onceLine1), (nat_lit 8, zPne_onceLine2, zOne_onceLine2, zMne_onceLine2), (nat_lit 9, zPne_sumRead, zOne_sumRead, zMne_sumRead)] pCne_lineRead qCne_lineRead) 9).2 [] η4 x14 η5 → ∀ x15 : Int, x15 = η5 0 (Int.toNat 19) → zok 0 x15 → ∀ η6 : zE, η6 = zup η5 18 (Int.toNat x10) x15 → (x14 = 0) → (fun (_ : Nat) (y : Int) (η' : zE) => pQne_lineRead [] η y η') 0 0 η6 := by
  intro x1 e1 r1 c1 x2 e2 r2 c2 x3 e3 r3 c3 x4 η1 h4 x5 e5 r5 c4 x6 e6 r6 c5 x7 e7 r7 c6 x8 e8 r8 x9 e9 x10 e10 x11 e11 r11 c7 η2 eη2 x12 η3 h12 x13 e13 r13 η4 eη4 x14 η5 h14 x15 e15 r15 η6 eη6 c8
  have y4 : fQne_token1 [] η x4 η1 := h4.2.2
  have k4 : sQ wl_ne zTr zOne_token1 zMne_token1 [] η x4 η1 ∧ oQne_token1 [] η x4 η1 := ⟨h4.1, h4.2.1⟩
  have y12 : fQne_token1 [] η2 x12 η3 := h12.2.2
  have k12 : sQ wl_ne zTr zOne_token1 zMne_token1 [] η2 x12 η3 ∧ oQne_token1 [] η2 x12 η3 := ⟨h12.1, h12.2.1⟩
  have y14 : fQne_sumRead [] η4 x14 η5 := h14.2.2
  have k14 : sQ wl_ne zTr zOne_sumRead zMne_sumRead [] η4 x14 η5 ∧ oQne_sumRead [] η4 x14 η5 := ⟨h14.1, h14.2.1⟩
  refine yj_a ?_ ?_
  · replace e9 := zEq_i e9
    replace e10 := zEq_i e10
    have y4 : fQne_token1 [] η x4 η1 := h4.2.2
    have k4 : sQ wl_ne zTr zOne_token1 zMne_token1 [] η x4 η1 ∧ oQne_token1 [] η x4 η1 := ⟨h4.1, h4.2.1⟩
    have y12 : fQne_token1 [] η2 x12 η3 := h12.2.2
    have k12 : sQ wl_ne zTr zOne_token1 zMne_token1 [] η2 x12 η3 ∧ oQne_token1 [] η2 x12 η3 := ⟨h12.1, h12.2.1⟩
    have y14 : fQne_sumRead [] η4 x14 η5 := h14.2.2
    have k14 : sQ wl_ne zTr zOne_sumRead zMne_sumRead [] η4 x14 η5 ∧ oQne_sumRead [] η4 x14 η5 := ⟨h14.1, h14.2.1⟩
    have w0_0_8 : (0 : Int) ≤ η 0 8 ∧ η 0 8 ≤ 6 := wf_ok (a := 8) (b := 8) (z := (0, 6)) hp.1 (by decide +kernel) (Nat.le_refl _) (Nat.le_refl _)
    replace e1 : x1 = η 0 8 := e1
    replace e2 : x2 = η 0 9 := e2
    replace r2 : -2147483648 ≤ x2 ∧ x2 ≤ 2147483647 := r2
    replace e3 : x3 = η 0 9 := e3
    replace r3 : -2147483648 ≤ x3 ∧ x3 ≤ 2147483647 := r3
    have w0_0_7 : (0 : Int) ≤ η 0 7 ∧ η 0 7 ≤ 700 := wf_ok (a := 7) (b := 7) (z := (0, 700)) hp.1 (by decide +kernel) (Nat.le_refl _) (Nat.le_refl _)
    have c0_0_7 : η 0 7 = η 0 7 := rfl
    have w0_0_6 : (0 : Int) ≤ η 0 6 ∧ η 0 6 ≤ 700 := wf_ok (a := 6) (b := 6) (z := (0, 700)) hp.1 (by decide +kernel) (Nat.le_refl _) (Nat.le_refl _)
    have c0_0_6 : η 0 6 = η 0 6 := rfl
    have c0_0_8 : η 0 8 = η 0 8 := rfl
    have w0_0_19 : (0 : Int) ≤ η 0 19 ∧ η 0 19 ≤ 64 := wf_ok (a := 19) (b := 19) (z := (0, 64)) hp.1 (by decide +kernel) (Nat.le_refl _) (Nat.le_refl _)
    have c0_0_19 : η 0 19 = η 0 19 := rfl
    have w0_0_44 : (0 : Int) ≤ η 0 44 ∧ η 0 44 ≤ 64 := wf_ok (a := 44) (b := 44) (z := (0, 64)) hp.1 (by decide +kernel) (Nat.le_refl _) (Nat.le_refl _)
    have c0_0_44 : η 0 44 = η 0 44 := rfl
    have bx4 : (0 : Int) ≤ x4 ∧ x4 ≤ 0 := k4.1.2.1
    have w1_0_7 : (0 : Int) ≤ η1 0 7 ∧ η1 0 7 ≤ 700 := wf_ok (a := 7) (b := 7) (z := (0, 700)) k4.1.1 (by decide +kernel) (Nat.le_refl _) (Nat.le_refl _)
    have d1_0_7 : η1 0 7 = η1 0 7 := rfl
    have v7 : zEq (η1 0 6) (η 0 6) := (k4.1.2.2.2.1 0 6 (by decide +kernel)).trans rfl
    have d1_0_6 : η1 0 6 = η 0 6 := v7
    have w1_0_8 : (0 : Int) ≤ η1 0 8 ∧ η1 0 8 ≤ 6 := wf_ok (a := 8) (b := 8) (z := (0, 6)) k4.1.1 (by decide +kernel) (Nat.le_refl _) (Nat.le_refl _)
    have d1_0_8 : η1 0 8 = η1 0 8 := rfl
    have v9 : zEq (η1 0 19) (η 0 19) := (k4.1.2.2.2.1 0 19 (by decide +kernel)).trans rfl
    have d1_0_19 : η1 0 19 = η 0 19 := v9
    have v10 : zEq (η1 0 44) (η 0 44) := (k4.1.2.2.2.1 0 44 (by decide +kernel)).trans rfl
    have d1_0_44 : η1 0 44 = η 0 44 := v10
    replace e5 : x5 = η1 0 8 := e5
    replace e6 : x6 = η1 0 9 := e6
    replace r6 : -2147483648 ≤ x6 ∧ x6 ≤ 2147483647 := r6
    replace e7 : x7 = η1 0 9 := e7
    replace r7 : -2147483648 ≤ x7 ∧ x7 ≤ 2147483647 := r7
    replace e8 : x8 = η1 0 9 := e8
    replace r8 : -2147483648 ≤ x8 ∧ x8 ≤ 2147483647 := r8
    first
    | replace e9 : x9 = 3 + x8 := zd_a2 (zEq_o e9) (by clear e9; exact ⟨by omega, by omega⟩)
    | clear e9
    first
    | replace e10 : x10 = x9 - 7 := zd_s2 (zEq_o e10) (by clear e10; exact ⟨by omega, by omega⟩)
    | clear e10
    have v13 : zEq (η1 16 (Int.toNat x10)) (η 16 (Int.toNat x10)) := (k4.1.2.2.2.1 16 _ (zinr_not (by decide +kernel))).trans rfl
    replace e11 : x11 = η 16 (Int.toNat x10) := e11.trans v13
    replace r11 : 0 ≤ x11 ∧ x11 ≤ 1 := r11
    have v14 : zEq (η2 0 7) (η1 0 7) := by rw [eη2]; exact (zup_ne (fun e _ => absurd e (by decide))).trans rfl
    have c2_0_7 : η2 0 7 = η1 0 7 := v14
    have v15 : zEq (η2 0 6) (η 0 6) := by rw [eη2]; exact (zup_ne (fun e _ => absurd e (by decide))).trans v7
    have c2_0_6 : η2 0 6 = η 0 6 := v15
    have v16 : zEq (η2 0 8) (η1 0 8) := by rw [eη2]; exact (zup_ne (fun e _ => absurd e (by decide))).trans rfl
    have c2_0_8 : η2 0 8 = η1 0 8 := v16
    have v17 : zEq (η2 0 19) (η 0 19) := by rw [eη2]; exact (zup_ne (fun e _ => absurd e (by decide))).trans v9
    have c2_0_19 : η2 0 19 = η 0 19 := v17
    have v18 : zEq (η2 0 44) (η 0 44) := by rw [eη2]; exact (zup_ne (fun e _ => absurd e (by decide))).trans v10
    have c2_0_44 : η2 0 44 = η 0 44 := v18
    have bx12 : (0 : Int) ≤ x12 ∧ x12 ≤ 0 := k12.1.2.1
    have w3_0_7 : (0 : Int) ≤ η3 0 7 ∧ η3 0 7 ≤ 700 := wf_ok (a := 7) (b := 7) (z := (0, 700)) k12.1.1 (by decide +kernel) (Nat.le_refl _) (Nat.le_refl _)
    have d3_0_7 : η3 0 7 = η3 0 7 := rfl
    have v20 : zEq (η3 0 6) (η 0 6) := (k12.1.2.2.2.1 0 6 (by decide +kernel)).trans v15
    have d3_0_6 : η3 0 6 = η 0 6 := v20
    have w3_0_8 : (0 : Int) ≤ η3 0 8 ∧ η3 0 8 ≤ 6 := wf_ok (a := 8) (b := 8) (z := (0, 6)) k12.1.1 (by decide +kernel) (Nat.le_refl _) (Nat.le_refl _)
    have d3_0_8 : η3 0 8 = η3 0 8 := rfl
    have v22 : zEq (η3 0 19) (η 0 19) := (k12.1.2.2.2.1 0 19 (by decide +kernel)).trans v17
    have d3_0_19 : η3 0 19 = η 0 19 := v22
    have v23 : zEq (η3 0 44) (η 0 44) := (k12.1.2.2.2.1 0 44 (by decide +kernel)).trans v18
    have d3_0_44 : η3 0 44 = η 0 44 := v23
    replace e13 : x13 = η 0 19 := e13.trans v22
    have v24 : zEq (η4 0 7) (η3 0 7) := by rw [eη4]; exact (zup_ne (fun e _ => absurd e (by decide))).trans rfl
    have c4_0_7 : η4 0 7 = η3 0 7 := v24
    have v25 : zEq (η4 0 6) (η 0 6) := by rw [eη4]; exact (zup_ne (fun e _ => absurd e (by decide))).trans v20
    have c4_0_6 : η4 0 6 = η 0 6 := v25
    have v26 : zEq (η4 0 8) (η3 0 8) := by rw [eη4]; exact (zup_ne (fun e _ => absurd e (by decide))).trans rfl
    have c4_0_8 : η4 0 8 = η3 0 8 := v26
    have v27 : zEq (η4 0 19) (η 0 19) := by rw [eη4]; exact (zup_ne (fun e _ => absurd e (by decide))).trans v22
    have c4_0_19 : η4 0 19 = η 0 19 := v27
    have v28 : zEq (η4 0 44) (η 0 44) := by rw [eη4]; exact (zup_ne (fun e _ => absurd e (by decide))).trans v23
    have c4_0_44 : η4 0 44 = η 0 44 := v28
    have bx14 : (0 : Int) ≤ x14 ∧ x14 ≤ 1 := k14.1.2.1
    have w5_0_7 : (0 : Int) ≤ η5 0 7 ∧ η5 0 7 ≤ 700 := wf_ok (a := 7) (b := 7) (z := (0, 700)) k14.1.1 (by decide +kernel) (Nat.le_refl _) (Nat.le_refl _)
    have d5_0_7 : η5 0 7 = η5 0 7 := rfl
    have v30 : zEq (η5 0 6) (η 0 6) := (k14.1.2.2.2.1 0 6 (by decide +kernel)).trans v25
    have d5_0_6 : η5 0 6 = η 0 6 := v30
    have w5_0_8 : (0 : Int) ≤ η5 0 8 ∧ η5 0 8 ≤ 6 := wf_ok (a := 8) (b := 8) (z := (0, 6)) k14.1.1 (by decide +kernel) (Nat.le_refl _) (Nat.le_refl _)
    have d5_0_8 : η5 0 8 = η5 0 8 := rfl
    have w5_0_19 : (0 : Int) ≤ η5 0 19 ∧ η5 0 19 ≤ 64 := wf_ok (a := 19) (b := 19) (z := (0, 64)) k14.1.1 (by decide +kernel) (Nat.le_refl _) (Nat.le_refl _)
    have d5_0_19 : η5 0 19 = η5 0 19 := rfl
    have w5_0_44 : (0 : Int) ≤ η5 0 44 ∧ η5 0 44 ≤ 64 := wf_ok (a := 44) (b := 44) (z := (0, 64)) k14.1.1 (by decide +kernel) (Nat.le_refl _) (Nat.le_refl _)
    have d5_0_44 : η5 0 44 = η5 0 44 := rfl
    replace e15 : x15 = η5 0 19 := e15
    have fr16_0 : ∀ j, η 16 j = η 16 j := fun _ => rfl
    have v34 : ∀ j, η1 16 j = η 16 j := fun j => k4.1.2.2.2.1 16 _ (zinr_not (by decide +kernel))
    have fr16_1 : ∀ j, η1 16 j = η 16 j := v34
    have fr16_2 : ∀ j, η2 16 j = η2 16 j := fun _ => rfl
    have v36 : ∀ j, η3 16 j = η2 16 j := fun j => k12.1.2.2.2.1 16 _ (zinr_not (by decide +kernel))
    have fr16_3 : ∀ j, η3 16 j = η2 16 j := v36
    have v37 : ∀ j, η4 16 j = η2 16 j := fun j => by rw [eη4]; exact (zup_ne (fun e _ => absurd e (by decide))).trans (v36 j)
    have fr16_4 : ∀ j, η4 16 j = η2 16 j := v37
    have v38 : ∀ j, η5 16 j = η2 16 j := fun j => (k14.1.2.2.2.1 16 _ (zinr_not (by decide +kernel))).trans (v37 j)
    have fr16_5 : ∀ j, η5 16 j = η2 16 j := v38
    have v39 : ∀ j, η6 16 j = η2 16 j := fun j => by rw [eη6]; exact (zup_ne (fun e _ => absurd e (by decide))).trans (v38 j)
    have fr16_6 : ∀ j, η6 16 j = η2 16 j := v39
    have fr18_0 : ∀ j, η 18 j = η 18 j := fun _ => rfl
    have v40 : ∀ j, η1 18 j = η 18 j := fun j => k4.1.2.2.2.1 18 _ (zinr_not (by decide +kernel))
    have fr18_1 : ∀ j, η1 18 j = η 18 j := v40
    have v41 : ∀ j, η2 18 j = η 18 j := fun j => by rw [eη2]; exact (zup_ne (fun e _ => absurd e (by decide))).trans (v40 j)
    have fr18_2 : ∀ j, η2 18 j = η 18 j := v41
    have v42 : ∀ j, η3 18 j = η 18 j := fun j => (k12.1.2.2.2.1 18 _ (zinr_not (by decide +kernel))).trans (v41 j)
    have fr18_3 : ∀ j, η3 18 j = η 18 j := v42
    have v43 : ∀ j, η4 18 j = η 18 j := fun j => by rw [eη4]; exact (zup_ne (fun e _ => absurd e (by decide))).trans (v42 j)
    have fr18_4 : ∀ j, η4 18 j = η 18 j := v43
    have v44 : ∀ j, η5 18 j = η 18 j := fun j => (k14.1.2.2.2.1 18 _ (zinr_not (by decide +kernel))).trans (v43 j)
    have fr18_5 : ∀ j, η5 18 j = η 18 j := v44
    have fr18_6 : ∀ j, η6 18 j = η6 18 j := fun _ => rfl
    have v46 : zEq (η6 0 7) (η5 0 7) := by rw [eη6]; exact (zup_ne (fun e _ => absurd e (by decide))).trans rfl
    have f0_7 : η6 0 7 = η5 0 7 := v46
    have v47 : zEq (η6 0 6) (η 0 6) := by rw [eη6]; exact (zup_ne (fun e _ => absurd e (by decide))).trans v30
    have f0_6 : η6 0 6 = η 0 6 := v47
    have v48 : zEq (η6 0 8) (η5 0 8) := by rw [eη6]; exact (zup_ne (fun e _ => absurd e (by decide))).trans rfl
    have f0_8 : η6 0 8 = η5 0 8 := v48
    have v49 : zEq (η6 0 19) (η5 0 19) := by rw [eη6]; exact (zup_ne (fun e _ => absurd e (by decide))).trans rfl
    have f0_19 : η6 0 19 = η5 0 19 := v49
    have v50 : zEq (η6 0 44) (η5 0 44) := by rw [eη6]; exact (zup_ne (fun e _ => absurd e (by decide))).trans rfl
    have f0_44 : η6 0 44 = η5 0 44 := v50
    have qt4 : ¬ η 0 8 = 0 → 10 * (η1 0 6 - η1 0 7) + η1 0 8 < 10 * (η 0 6 - η 0 7) + η 0 8 := k4.2.2
    have P1 : PL_n 6 η1 := zGk_fm2 plk_n (hpp.2) k4.1.2.2.2.1 (by decide +kernel)
    have I2 : G1_n η2 := by rw [eη2]; exact zGk_up g1k_n (k4.2.1) (by decide +kernel)
    have qt12 : ¬ η2 0 8 = 0 → 10 * (η3 0 6 - η3 0 7) + η3 0 8 < 10 * (η2 0 6 - η2 0 7) + η2 0 8 := k12.2.2
    have I4 : G1_n η4 := by rw [eη4]; exact zGk_up g1k_n (k12.2.1) (by decide +kernel)
    have qm14 : ¬ x14 = 0 → 10 * (η5 0 6 - η5 0 7) + η5 0 8 ≤ 10 * (η4 0 6 - η4 0 7) + η4 0 8 := fun w => (k14.2.2 w).2.2
    have Z6 : G0_l η6 := by rw [eη6]; exact zGk_up g0k_l (k14.2.1) (by decide +kernel)
    have pa6 : ∀ j, ¬ j = Int.toNat x10 → η6 16 j = η 16 j := fun j hj => by rw [fr16_6, eη2, zup_ne (fun _ e => hj e), fr16_1]
    have pb6 : ∀ j, ¬ j = Int.toNat x10 → η6 18 j = η 18 j := fun j hj => by rw [eη6, zup_ne (fun _ e => hj e), fr18_5]
    exact ⟨Z6, pl_1 (k := Int.toNat x10) hpp.2 pa6 pb6 (by omega), fun w => absurd (show (0 : Int) = 0 by apply Int.le_antisymm <;> omega) w⟩
  · have e1 : x1 = η 0 8 := e1
    have e2 : x2 = η 0 9 := e2
    have e3 : x3 = η 0 9 := e3
    have f3 : x2 = x3 := e2.trans e3.symm
    subst f3
    have b4 : η1 = (yq_tok η) := y4
    have e5 : x5 = η1 0 8 := e5
    have e6 : x6 = η1 0 9 := e6
    have e7 : x7 = η1 0 9 := e7
    have f7 : x6 = x7 := e6.trans e7.symm
    subst f7
    have e8 : x8 = η1 0 9 := e8
    have f8 : x6 = x8 := e6.trans e8.symm
    subst f8
    have e9 : x9 = zd 0 1 3 x6 := e9
    have e10 : x10 = zd 0 2 x9 7 := e10
    have e11 : x11 = η1 16 (Int.toNat x10) := e11
    have eη2 : η2 = zup η1 16 (Int.toNat x10) 1 := eη2
    have b12 : η3 = (yq_tok η2) := y12
    have e13 : x13 = η3 0 19 := e13
    have eη4 : η4 = zup η3 17 (Int.toNat x10) x13 := eη4
    obtain ⟨a14, b14⟩ : x14 = (yq_sum η4).1 ∧ η5 = (yq_sum η4).2 := y14
    have e15 : x15 = η5 0 19 := e15
    have eη6 : η6 = zup η5 18 (Int.toNat x10) x15 := eη6
    show 0 = (yq_lnr η).1 ∧ η6 = (yq_lnr η).2
    simp only [yq_lnr, yq_le, yq_law, yq_lw1, yq_lw2, yq_no, ← e1, ← e2, ← b4, ← e5, ← e6, ← e9, ← e10, ← e11, ← eη2, ← b12, ← e13, ← eη4, ← a14, ← b14, ← e15, ← eη6]
    all_goals clear e9 e10
    all_goals (repeat (first | rw [if_pos (by omega)] | rw [if_neg (by omega)]))
    all_goals exact ⟨rfl, rfl⟩
set_option maxHeartbeats 8000000 in
theorem zne_lineRead_o31 {ro : Nat → List Int32} (η : zE) (hp : sP wl_ne zTr zPne_lineRead [] η) (hpp : pPne_lineRead [] η) : ∀ x1 : Int, x1 = η 0 (Int.toNat 8) → zok 0 x1 → (x1 = 1) → ∀ x2 : Int, x2 = η 0 (Int.toNat 9) → zok 0 x2 → (x2 ≤ 6) → ∀ x3 : Int, x3 = η 0 (Int.toNat 9) → zok 0 x3 → (5 < x3) → ∀ (x4 : Int) (η1 : zE), ((gC2 wl_ne [(nat_lit 0, zPne_wrong, zOne_wrong, zMne_wrong), (nat_lit 1, zPne_isSign, zOne_isSign, zMne_isSign), (nat_lit 2, zPne_token1, zOne_token1, zMne_token1), (nat_lit 3, zPne_grooveLine, zOne_grooveLine, zMne_grooveLine), (nat_lit 4, zPne_scratLine, zOne_scratLine, zMne_scratLine), (nat_lit 5, zPne_guestLine, zOne_guestLine, zMne_guestLine), (nat_lit 6, zPne_onceLine0, zOne_onceLine0, zMne_onceLine0), (nat_lit 7, zPne_onceLine1, zOne_onceLine1, zMne_onceLine1), (nat_lit 8, zPne_onceLine2, zOne_onceLine2, zMne_onceLine2), (nat_lit 9, zPne_sumRead, zOne_sumRead, zMne_sumRead)] pCne_lineRead qCne_lineRead) 2).2 [] η x4 η1 → ∀ x5 : Int, x5 = η1 0 (Int.toNat 8) → zok 0 x5 → (x5 = 1) → ∀ x6 : Int, x6 = η1 0 (Int.toNat 9) → zok 0 x6 → (7 ≤ x6) → ∀ x7 : Int, x7 = η1 0 (Int.toNat 9) → zok 0 x7 → (x7 ≤ 9) → ∀ x8 : Int, x8 = η1 0 (Int.toNat 9) → zok 0 x8 → ∀ x9 : Int, x9 = zd 0 1 3 x8 → ∀ x10 : Int, x10 = zd 0 2 x9 7 → ∀ x11 : Int, x11 = η1 16 (Int.toNat x10) → zok 1 x11 → (¬ x11 = 0) → ((gC2 wl_ne [(nat_lit 0, zPne_wrong, zOne_wrong, zMne_wrong), (nat_lit 1, zPne_isSign, zOne_isSign, zMne_isSign), (nat_lit 2, zPne_token1, zOne_token1, zMne_token1), (nat_lit 3, zPne_grooveLine, zOne_grooveLine, zMne_grooveLine), (nat_lit 4, zPne_scratLine, zOne_scratLine, zMne_scratLine), (nat_lit 5, zPne_guestLine, zOne_guestLine, zMne_guestLine), (nat_lit 6, zPne_onceLine0, zOne_onceLine0, zMne_onceLine0), (nat_lit 7, zPne_onceLine1, zOne_onceLine1, zMne_onceLine1), (nat_lit 8, zPne_onceLine2, zOne_onceLine2, zMne_onceLine2), (nat_lit 9, zPne_sumRead, zOne_sumRead, zMne_sumRead)] pCne_lineRead qCne_lineRead) 0).1 [3] η1 := by
  intro x1 e1 r1 c1 x2 e2 r2 c2 x3 e3 r3 c3 x4 η1 h4 x5 e5 r5 c4 x6 e6 r6 c5 x7 e7 r7 c6 x8 e8 r8 x9 e9 x10 e10 x11 e11 r11 c7
  replace e9 := zEq_i e9
  replace e10 := zEq_i e10
  have y4 : fQne_token1 [] η x4 η1 := h4.2.2
  have k4 : sQ wl_ne zTr zOne_token1 zMne_token1 [] η x4 η1 ∧ oQne_token1 [] η x4 η1 := ⟨h4.1, h4.2.1⟩
  have w0_0_8 : (0 : Int) ≤ η 0 8 ∧ η 0 8 ≤ 6 := wf_ok (a := 8) (b := 8) (z := (0, 6)) hp.1 (by decide +kernel) (Nat.le_refl _) (Nat.le_refl _)
  replace e1 : x1 = η 0 8 := e1
  replace e2 : x2 = η 0 9 := e2
  replace r2 : -2147483648 ≤ x2 ∧ x2 ≤ 2147483647 := r2
  replace e3 : x3 = η 0 9 := e3
  replace r3 : -2147483648 ≤ x3 ∧ x3 ≤ 2147483647 := r3
  have w0_0_7 : (0 : Int) ≤ η 0 7 ∧ η 0 7 ≤ 700 := wf_ok (a := 7) (b := 7) (z := (0, 700)) hp.1 (by decide +kernel) (Nat.le_refl _) (Nat.le_refl _)
  have c0_0_7 : η 0 7 = η 0 7 := rfl
  have w0_0_6 : (0 : Int) ≤ η 0 6 ∧ η 0 6 ≤ 700 := wf_ok (a := 6) (b := 6) (z := (0, 700)) hp.1 (by decide +kernel) (Nat.le_refl _) (Nat.le_refl _)
  have c0_0_6 : η 0 6 = η 0 6 := rfl
  have c0_0_8 : η 0 8 = η 0 8 := rfl
  have w0_0_19 : (0 : Int) ≤ η 0 19 ∧ η 0 19 ≤ 64 := wf_ok (a := 19) (b := 19) (z := (0, 64)) hp.1 (by decide +kernel) (Nat.le_refl _) (Nat.le_refl _)
  have c0_0_19 : η 0 19 = η 0 19 := rfl
  have w0_0_44 : (0 : Int) ≤ η 0 44 ∧ η 0 44 ≤ 64 := wf_ok (a := 44) (b := 44) (z := (0, 64)) hp.1 (by decide +kernel) (Nat.le_refl _) (Nat.le_refl _)
  have c0_0_44 : η 0 44 = η 0 44 := rfl
  have bx4 : (0 : Int) ≤ x4 ∧ x4 ≤ 0 := k4.1.2.1
  have w1_0_7 : (0 : Int) ≤ η1 0 7 ∧ η1 0 7 ≤ 700 := wf_ok (a := 7) (b := 7) (z := (0, 700)) k4.1.1 (by decide +kernel) (Nat.le_refl _) (Nat.le_refl _)
  have d1_0_7 : η1 0 7 = η1 0 7 := rfl
  have v7 : zEq (η1 0 6) (η 0 6) := (k4.1.2.2.2.1 0 6 (by decide +kernel)).trans rfl
  have d1_0_6 : η1 0 6 = η 0 6 := v7
  have w1_0_8 : (0 : Int) ≤ η1 0 8 ∧ η1 0 8 ≤ 6 := wf_ok (a := 8) (b := 8) (z := (0, 6)) k4.1.1 (by decide +kernel) (Nat.le_refl _) (Nat.le_refl _)
  have d1_0_8 : η1 0 8 = η1 0 8 := rfl
  have v9 : zEq (η1 0 19) (η 0 19) := (k4.1.2.2.2.1 0 19 (by decide +kernel)).trans rfl
  have d1_0_19 : η1 0 19 = η 0 19 := v9
  have v10 : zEq (η1 0 44) (η 0 44) := (k4.1.2.2.2.1 0 44 (by decide +kernel)).trans rfl
  have d1_0_44 : η1 0 44 = η 0 44 := v10
  replace e5 : x5 = η1 0 8 := e5
  replace e6 : x6 = η1 0 9 := e6
  replace r6 : -2147483648 ≤ x6 ∧ x6 ≤ 2147483647 := r6
  replace e7 : x7 = η1 0 9 := e7
  replace r7 : -2147483648 ≤ x7 ∧ x7 ≤ 2147483647 := r7
  replace e8 : x8 = η1 0 9 := e8
  replace r8 : -2147483648 ≤ x8 ∧ x8 ≤ 2147483647 := r8
  first
  | replace e9 : x9 = 3 + x8 := zd_a2 (zEq_o e9) (by clear e9; exact ⟨by omega, by omega⟩)
  | clear e9
  first
  | replace e10 : x10 = x9 - 7 := zd_s2 (zEq_o e10) (by clear e10; exact ⟨by omega, by omega⟩)
  | clear e10
  have v13 : zEq (η1 16 (Int.toNat x10)) (η 16 (Int.toNat x10)) := (k4.1.2.2.2.1 16 _ (zinr_not (by decide +kernel))).trans rfl
  replace e11 : x11 = η 16 (Int.toNat x10) := e11.trans v13
  replace r11 : 0 ≤ x11 ∧ x11 ≤ 1 := r11
  have fr16_0 : ∀ j, η 16 j = η 16 j := fun _ => rfl
  have v14 : ∀ j, η1 16 j = η 16 j := fun j => k4.1.2.2.2.1 16 _ (zinr_not (by decide +kernel))
  have fr16_1 : ∀ j, η1 16 j = η 16 j := v14
  have fr18_0 : ∀ j, η 18 j = η 18 j := fun _ => rfl
  have v15 : ∀ j, η1 18 j = η 18 j := fun j => k4.1.2.2.2.1 18 _ (zinr_not (by decide +kernel))
  have fr18_1 : ∀ j, η1 18 j = η 18 j := v15
  have f0_7 : η1 0 7 = η1 0 7 := rfl
  have f0_6 : η1 0 6 = η 0 6 := v7
  have f0_8 : η1 0 8 = η1 0 8 := rfl
  have f0_19 : η1 0 19 = η 0 19 := v9
  have f0_44 : η1 0 44 = η 0 44 := v10
  have qt4 : ¬ η 0 8 = 0 → 10 * (η1 0 6 - η1 0 7) + η1 0 8 < 10 * (η 0 6 - η 0 7) + η 0 8 := k4.2.2
  have P1 : PL_n 6 η1 := zGk_fm2 plk_n (hpp.2) k4.1.2.2.2.1 (by decide +kernel)
  exact ⟨k4.2.1, P1⟩
set_option maxHeartbeats 8000000 in
theorem zne_lineRead_o32 {ro : Nat → List Int32} (η : zE) (hp : sP wl_ne zTr zPne_lineRead [] η) (hpp : pPne_lineRead [] η) : ∀ x1 : Int, x1 = η 0 (Int.toNat 8) → zok 0 x1 → (x1 = 1) → ∀ x2 : Int, x2 = η 0 (Int.toNat 9) → zok 0 x2 → (x2 ≤ 6) → ∀ x3 : Int, x3 = η 0 (Int.toNat 9) → zok 0 x3 → (5 < x3) → ∀ (x4 : Int) (η1 : zE), ((gC2 wl_ne [(nat_lit 0, zPne_wrong, zOne_wrong, zMne_wrong), (nat_lit 1, zPne_isSign, zOne_isSign, zMne_isSign), (nat_lit 2, zPne_token1, zOne_token1, zMne_token1), (nat_lit 3, zPne_grooveLine, zOne_grooveLine, zMne_grooveLine), (nat_lit 4, zPne_scratLine, zOne_scratLine, zMne_scratLine), (nat_lit 5, zPne_guestLine, zOne_guestLine, zMne_guestLine), (nat_lit 6, zPne_onceLine0, zOne_onceLine0, zMne_onceLine0), (nat_lit 7, zPne_onceLine1, zOne_onceLine1, zMne_onceLine1), (nat_lit 8, zPne_onceLine2, zOne_onceLine2, zMne_onceLine2), (nat_lit 9, zPne_sumRead, zOne_sumRead, zMne_sumRead)] pCne_lineRead qCne_lineRead) 2).2 [] η x4 η1 → ∀ x5 : Int, x5 = η1 0 (Int.toNat 8) → zok 0 x5 → (x5 = 1) → ∀ x6 : Int, x6 = η1 0 (Int.toNat 9) → zok 0 x6 → (7 ≤ x6) → ∀ x7 : Int, x7 = η1 0 (Int.toNat 9) → zok 0 x7 → (x7 ≤ 9) → ∀ x8 : Int, x8 = η1 0 (Int.toNat 9) → zok 0 x8 → ∀ x9 : Int, x9 = zd 0 1 3 x8 → ∀ x10 : Int, x10 = zd 0 2 x9 7 → ∀ x11 : Int, x11 = η1 16 (Int.toNat x10) → zok 1 x11 → (¬ x11 = 0) → ∀ (x12 : Int) (η2 : zE), ((gC2 wl_ne [(nat_lit 0, zPne_wrong, zOne_wrong, zMne_wrong), (nat_lit 1, zPne_isSign, zOne_isSign, zMne_isSign), (nat_lit 2, zPne_token1, zOne_token1, zMne_token1), (nat_lit 3, zPne_grooveLine, zOne_grooveLine, zMne_grooveLine), (nat_lit 4, zPne_scratLine, zOne_scratLine, zMne_scratLine), (nat_lit 5, zPne_guestLine, zOne_guestLine, zMne_guestLine), (nat_lit 6, zPne_onceLine0, zOne_onceLine0, zMne_onceLine0), (nat_lit 7, zPne_onceLine1, zOne_onceLine1, zMne_onceLine1), (nat_lit 8, zPne_onceLine2, zOne_onceLine2, zMne_onceLine2), (nat_lit 9, zPne_sumRead, zOne_sumRead, zMne_sumRead)] pCne_lineRead qCne_lineRead) 0).2 [3] η1 x12 η2 → (fun (_ : Nat) (y : Int) (η' : zE) => pQne_lineRead [] η y η') 0 x12 η2 := by
  intro x1 e1 r1 c1 x2 e2 r2 c2 x3 e3 r3 c3 x4 η1 h4 x5 e5 r5 c4 x6 e6 r6 c5 x7 e7 r7 c6 x8 e8 r8 x9 e9 x10 e10 x11 e11 r11 c7 x12 η2 h12
  have y4 : fQne_token1 [] η x4 η1 := h4.2.2
  have k4 : sQ wl_ne zTr zOne_token1 zMne_token1 [] η x4 η1 ∧ oQne_token1 [] η x4 η1 := ⟨h4.1, h4.2.1⟩
  have y12 : fQne_wrong [3] η1 x12 η2 := h12.2.2
  have k12 : sQ wl_ne zTr zOne_wrong zMne_wrong [3] η1 x12 η2 ∧ oQne_wrong [3] η1 x12 η2 := ⟨h12.1, h12.2.1⟩
  refine yj_a ?_ ?_
  · replace e9 := zEq_i e9
    replace e10 := zEq_i e10
    have y4 : fQne_token1 [] η x4 η1 := h4.2.2
    have k4 : sQ wl_ne zTr zOne_token1 zMne_token1 [] η x4 η1 ∧ oQne_token1 [] η x4 η1 := ⟨h4.1, h4.2.1⟩
    have y12 : fQne_wrong [3] η1 x12 η2 := h12.2.2
    have k12 : sQ wl_ne zTr zOne_wrong zMne_wrong [3] η1 x12 η2 ∧ oQne_wrong [3] η1 x12 η2 := ⟨h12.1, h12.2.1⟩
    have w0_0_8 : (0 : Int) ≤ η 0 8 ∧ η 0 8 ≤ 6 := wf_ok (a := 8) (b := 8) (z := (0, 6)) hp.1 (by decide +kernel) (Nat.le_refl _) (Nat.le_refl _)
    replace e1 : x1 = η 0 8 := e1
    replace e2 : x2 = η 0 9 := e2
    replace r2 : -2147483648 ≤ x2 ∧ x2 ≤ 2147483647 := r2
    replace e3 : x3 = η 0 9 := e3
    replace r3 : -2147483648 ≤ x3 ∧ x3 ≤ 2147483647 := r3
    have w0_0_7 : (0 : Int) ≤ η 0 7 ∧ η 0 7 ≤ 700 := wf_ok (a := 7) (b := 7) (z := (0, 700)) hp.1 (by decide +kernel) (Nat.le_refl _) (Nat.le_refl _)
    have c0_0_7 : η 0 7 = η 0 7 := rfl
    have w0_0_6 : (0 : Int) ≤ η 0 6 ∧ η 0 6 ≤ 700 := wf_ok (a := 6) (b := 6) (z := (0, 700)) hp.1 (by decide +kernel) (Nat.le_refl _) (Nat.le_refl _)
    have c0_0_6 : η 0 6 = η 0 6 := rfl
    have c0_0_8 : η 0 8 = η 0 8 := rfl
    have w0_0_19 : (0 : Int) ≤ η 0 19 ∧ η 0 19 ≤ 64 := wf_ok (a := 19) (b := 19) (z := (0, 64)) hp.1 (by decide +kernel) (Nat.le_refl _) (Nat.le_refl _)
    have c0_0_19 : η 0 19 = η 0 19 := rfl
    have w0_0_44 : (0 : Int) ≤ η 0 44 ∧ η 0 44 ≤ 64 := wf_ok (a := 44) (b := 44) (z := (0, 64)) hp.1 (by decide +kernel) (Nat.le_refl _) (Nat.le_refl _)
    have c0_0_44 : η 0 44 = η 0 44 := rfl
    have bx4 : (0 : Int) ≤ x4 ∧ x4 ≤ 0 := k4.1.2.1
    have w1_0_7 : (0 : Int) ≤ η1 0 7 ∧ η1 0 7 ≤ 700 := wf_ok (a := 7) (b := 7) (z := (0, 700)) k4.1.1 (by decide +kernel) (Nat.le_refl _) (Nat.le_refl _)
    have d1_0_7 : η1 0 7 = η1 0 7 := rfl
    have v7 : zEq (η1 0 6) (η 0 6) := (k4.1.2.2.2.1 0 6 (by decide +kernel)).trans rfl
    have d1_0_6 : η1 0 6 = η 0 6 := v7
    have w1_0_8 : (0 : Int) ≤ η1 0 8 ∧ η1 0 8 ≤ 6 := wf_ok (a := 8) (b := 8) (z := (0, 6)) k4.1.1 (by decide +kernel) (Nat.le_refl _) (Nat.le_refl _)
    have d1_0_8 : η1 0 8 = η1 0 8 := rfl
    have v9 : zEq (η1 0 19) (η 0 19) := (k4.1.2.2.2.1 0 19 (by decide +kernel)).trans rfl
    have d1_0_19 : η1 0 19 = η 0 19 := v9
    have v10 : zEq (η1 0 44) (η 0 44) := (k4.1.2.2.2.1 0 44 (by decide +kernel)).trans rfl
    have d1_0_44 : η1 0 44 = η 0 44 := v10
    replace e5 : x5 = η1 0 8 := e5
    replace e6 : x6 = η1 0 9 := e6
    replace r6 : -2147483648 ≤ x6 ∧ x6 ≤ 2147483647 := r6
    replace e7 : x7 = η1 0 9 := e7
    replace r7 : -2147483648 ≤ x7 ∧ x7 ≤ 2147483647 := r7
    replace e8 : x8 = η1 0 9 := e8
    replace r8 : -2147483648 ≤ x8 ∧ x8 ≤ 2147483647 := r8
    first
    | replace e9 : x9 = 3 + x8 := zd_a2 (zEq_o e9) (by clear e9; exact ⟨by omega, by omega⟩)
    | clear e9
    first
    | replace e10 : x10 = x9 - 7 := zd_s2 (zEq_o e10) (by clear e10; exact ⟨by omega, by omega⟩)
    | clear e10
    have v13 : zEq (η1 16 (Int.toNat x10)) (η 16 (Int.toNat x10)) := (k4.1.2.2.2.1 16 _ (zinr_not (by decide +kernel))).trans rfl
    replace e11 : x11 = η 16 (Int.toNat x10) := e11.trans v13
    replace r11 : 0 ≤ x11 ∧ x11 ≤ 1 := r11
    have c1_0_7 : η1 0 7 = η1 0 7 := rfl
    have c1_0_6 : η1 0 6 = η 0 6 := v7
    have c1_0_8 : η1 0 8 = η1 0 8 := rfl
    have c1_0_19 : η1 0 19 = η 0 19 := v9
    have c1_0_44 : η1 0 44 = η 0 44 := v10
    have bx12 : (0 : Int) ≤ x12 ∧ x12 ≤ 0 := k12.1.2.1
    have v14 : zEq (η2 0 7) (η1 0 7) := (k12.1.2.2.2.1 0 7 (by decide +kernel)).trans rfl
    have d2_0_7 : η2 0 7 = η1 0 7 := v14
    have v15 : zEq (η2 0 6) (η 0 6) := (k12.1.2.2.2.1 0 6 (by decide +kernel)).trans v7
    have d2_0_6 : η2 0 6 = η 0 6 := v15
    have v16 : zEq (η2 0 8) (η1 0 8) := (k12.1.2.2.2.1 0 8 (by decide +kernel)).trans rfl
    have d2_0_8 : η2 0 8 = η1 0 8 := v16
    have v17 : zEq (η2 0 19) (η 0 19) := (k12.1.2.2.2.1 0 19 (by decide +kernel)).trans v9
    have d2_0_19 : η2 0 19 = η 0 19 := v17
    have v18 : zEq (η2 0 44) (η 0 44) := (k12.1.2.2.2.1 0 44 (by decide +kernel)).trans v10
    have d2_0_44 : η2 0 44 = η 0 44 := v18
    have fr16_0 : ∀ j, η 16 j = η 16 j := fun _ => rfl
    have v19 : ∀ j, η1 16 j = η 16 j := fun j => k4.1.2.2.2.1 16 _ (zinr_not (by decide +kernel))
    have fr16_1 : ∀ j, η1 16 j = η 16 j := v19
    have v20 : ∀ j, η2 16 j = η 16 j := fun j => (k12.1.2.2.2.1 16 _ (zinr_not (by decide +kernel))).trans (v19 j)
    have fr16_2 : ∀ j, η2 16 j = η 16 j := v20
    have fr18_0 : ∀ j, η 18 j = η 18 j := fun _ => rfl
    have v21 : ∀ j, η1 18 j = η 18 j := fun j => k4.1.2.2.2.1 18 _ (zinr_not (by decide +kernel))
    have fr18_1 : ∀ j, η1 18 j = η 18 j := v21
    have v22 : ∀ j, η2 18 j = η 18 j := fun j => (k12.1.2.2.2.1 18 _ (zinr_not (by decide +kernel))).trans (v21 j)
    have fr18_2 : ∀ j, η2 18 j = η 18 j := v22
    have f0_7 : η2 0 7 = η1 0 7 := v14
    have f0_6 : η2 0 6 = η 0 6 := v15
    have f0_8 : η2 0 8 = η1 0 8 := v16
    have f0_19 : η2 0 19 = η 0 19 := v17
    have f0_44 : η2 0 44 = η 0 44 := v18
    have qt4 : ¬ η 0 8 = 0 → 10 * (η1 0 6 - η1 0 7) + η1 0 8 < 10 * (η 0 6 - η 0 7) + η 0 8 := k4.2.2
    have P1 : PL_n 6 η1 := zGk_fm2 plk_n (hpp.2) k4.1.2.2.2.1 (by decide +kernel)
    exact ⟨k12.2.1.1, pl_d (k12.2.2) (by decide), fun w => absurd (show (x12 : Int) = 0 by apply Int.le_antisymm <;> omega) w⟩
  · have e1 : x1 = η 0 8 := e1
    have e2 : x2 = η 0 9 := e2
    have e3 : x3 = η 0 9 := e3
    have f3 : x2 = x3 := e2.trans e3.symm
    subst f3
    have b4 : η1 = (yq_tok η) := y4
    have e5 : x5 = η1 0 8 := e5
    have e6 : x6 = η1 0 9 := e6
    have e7 : x7 = η1 0 9 := e7
    have f7 : x6 = x7 := e6.trans e7.symm
    subst f7
    have e8 : x8 = η1 0 9 := e8
    have f8 : x6 = x8 := e6.trans e8.symm
    subst f8
    have e9 : x9 = zd 0 1 3 x6 := e9
    have e10 : x10 = zd 0 2 x9 7 := e10
    have e11 : x11 = η1 16 (Int.toNat x10) := e11
    obtain ⟨a12, b12⟩ : x12 = 0 ∧ η2 = (yq_wr 3 η1) := y12
    show x12 = (yq_lnr η).1 ∧ η2 = (yq_lnr η).2
    simp only [yq_lnr, yq_le, yq_law, yq_lw1, yq_lw2, yq_no, ← e1, ← e2, ← b4, ← e5, ← e6, ← e9, ← e10, ← e11, ← b12, a12]
    all_goals clear e9 e10
    all_goals (repeat (first | rw [if_pos (by omega)] | rw [if_neg (by omega)]))
    all_goals exact ⟨rfl, rfl⟩
set_option maxHeartbeats 8000000 in
theorem zne_lineRead_o33 {ro : Nat → List Int32} (η : zE) (hp : sP wl_ne zTr zPne_lineRead [] η) (hpp : pPne_lineRead [] η) : ∀ x1 : Int, x1 = η 0 (Int.toNat 8) → zok 0 x1 → (x1 = 1) → ∀ x2 : Int, x2 = η 0 (Int.toNat 9) → zok 0 x2 → (x2 ≤ 6) → ∀ x3 : Int, x3 = η 0 (Int.toNat 9) → zok 0 x3 → (5 < x3) → ∀ (x4 : Int) (η1 : zE), ((gC2 wl_ne [(nat_lit 0, zPne_wrong, zOne_wrong, zMne_wrong), (nat_lit 1, zPne_isSign, zOne_isSign, zMne_isSign), (nat_lit 2, zPne_token1, zOne_token1, zMne_token1), (nat_lit 3, zPne_grooveLine, zOne_grooveLine, zMne_grooveLine), (nat_lit 4, zPne_scratLine, zOne_scratLine, zMne_scratLine), (nat_lit 5, zPne_guestLine, zOne_guestLine, zMne_guestLine), (nat_lit 6, zPne_onceLine0, zOne_onceLine0, zMne_onceLine0), (nat_lit 7, zPne_onceLine1, zOne_onceLine1, zMne_onceLine1), (nat_lit 8, zPne_onceLine2, zOne_onceLine2, zMne_onceLine2), (nat_lit 9, zPne_sumRead, zOne_sumRead, zMne_sumRead)] pCne_lineRead qCne_lineRead) 2).2 [] η x4 η1 → ∀ x5 : Int, x5 = η1 0 (Int.toNat 8) → zok 0 x5 → (x5 = 1) → ∀ x6 : Int, x6 = η1 0 (Int.toNat 9) → zok 0 x6 → (7 ≤ x6) → ∀ x7 : Int, x7 = η1 0 (Int.toNat 9) → zok 0 x7 → (9 < x7) → ((gC2 wl_ne [(nat_lit 0, zPne_wrong, zOne_wrong, zMne_wrong), (nat_lit 1, zPne_isSign, zOne_isSign, zMne_isSign), (nat_lit 2, zPne_token1, zOne_token1, zMne_token1), (nat_lit 3, zPne_grooveLine, zOne_grooveLine, zMne_grooveLine), (nat_lit 4, zPne_scratLine, zOne_scratLine, zMne_scratLine), (nat_lit 5, zPne_guestLine, zOne_guestLine, zMne_guestLine), (nat_lit 6, zPne_onceLine0, zOne_onceLine0, zMne_onceLine0), (nat_lit 7, zPne_onceLine1, zOne_onceLine1, zMne_onceLine1), (nat_lit 8, zPne_onceLine2, zOne_onceLine2, zMne_onceLine2), (nat_lit 9, zPne_sumRead, zOne_sumRead, zMne_sumRead)] pCne_lineRead qCne_lineRead) 0).1 [1] η1 := by
  intro x1 e1 r1 c1 x2 e2 r2 c2 x3 e3 r3 c3 x4 η1 h4 x5 e5 r5 c4 x6 e6 r6 c5 x7 e7 r7 c6
  have y4 : fQne_token1 [] η x4 η1 := h4.2.2
  have k4 : sQ wl_ne zTr zOne_token1 zMne_token1 [] η x4 η1 ∧ oQne_token1 [] η x4 η1 := ⟨h4.1, h4.2.1⟩
  have w0_0_8 : (0 : Int) ≤ η 0 8 ∧ η 0 8 ≤ 6 := wf_ok (a := 8) (b := 8) (z := (0, 6)) hp.1 (by decide +kernel) (Nat.le_refl _) (Nat.le_refl _)
  replace e1 : x1 = η 0 8 := e1
  replace e2 : x2 = η 0 9 := e2
  replace r2 : -2147483648 ≤ x2 ∧ x2 ≤ 2147483647 := r2
  replace e3 : x3 = η 0 9 := e3
  replace r3 : -2147483648 ≤ x3 ∧ x3 ≤ 2147483647 := r3
  have w0_0_7 : (0 : Int) ≤ η 0 7 ∧ η 0 7 ≤ 700 := wf_ok (a := 7) (b := 7) (z := (0, 700)) hp.1 (by decide +kernel) (Nat.le_refl _) (Nat.le_refl _)
  have c0_0_7 : η 0 7 = η 0 7 := rfl
  have w0_0_6 : (0 : Int) ≤ η 0 6 ∧ η 0 6 ≤ 700 := wf_ok (a := 6) (b := 6) (z := (0, 700)) hp.1 (by decide +kernel) (Nat.le_refl _) (Nat.le_refl _)
  have c0_0_6 : η 0 6 = η 0 6 := rfl
  have c0_0_8 : η 0 8 = η 0 8 := rfl
  have w0_0_19 : (0 : Int) ≤ η 0 19 ∧ η 0 19 ≤ 64 := wf_ok (a := 19) (b := 19) (z := (0, 64)) hp.1 (by decide +kernel) (Nat.le_refl _) (Nat.le_refl _)
  have c0_0_19 : η 0 19 = η 0 19 := rfl
  have w0_0_44 : (0 : Int) ≤ η 0 44 ∧ η 0 44 ≤ 64 := wf_ok (a := 44) (b := 44) (z := (0, 64)) hp.1 (by decide +kernel) (Nat.le_refl _) (Nat.le_refl _)
  have c0_0_44 : η 0 44 = η 0 44 := rfl
  have bx4 : (0 : Int) ≤ x4 ∧ x4 ≤ 0 := k4.1.2.1
  have w1_0_7 : (0 : Int) ≤ η1 0 7 ∧ η1 0 7 ≤ 700 := wf_ok (a := 7) (b := 7) (z := (0, 700)) k4.1.1 (by decide +kernel) (Nat.le_refl _) (Nat.le_refl _)
  have d1_0_7 : η1 0 7 = η1 0 7 := rfl
  have v7 : zEq (η1 0 6) (η 0 6) := (k4.1.2.2.2.1 0 6 (by decide +kernel)).trans rfl
  have d1_0_6 : η1 0 6 = η 0 6 := v7
  have w1_0_8 : (0 : Int) ≤ η1 0 8 ∧ η1 0 8 ≤ 6 := wf_ok (a := 8) (b := 8) (z := (0, 6)) k4.1.1 (by decide +kernel) (Nat.le_refl _) (Nat.le_refl _)
  have d1_0_8 : η1 0 8 = η1 0 8 := rfl
  have v9 : zEq (η1 0 19) (η 0 19) := (k4.1.2.2.2.1 0 19 (by decide +kernel)).trans rfl
  have d1_0_19 : η1 0 19 = η 0 19 := v9
  have v10 : zEq (η1 0 44) (η 0 44) := (k4.1.2.2.2.1 0 44 (by decide +kernel)).trans rfl
  have d1_0_44 : η1 0 44 = η 0 44 := v10
  replace e5 : x5 = η1 0 8 := e5
  replace e6 : x6 = η1 0 9 := e6
  replace r6 : -2147483648 ≤ x6 ∧ x6 ≤ 2147483647 := r6
  replace e7 : x7 = η1 0 9 := e7
  replace r7 : -2147483648 ≤ x7 ∧ x7 ≤ 2147483647 := r7
  have fr16_0 : ∀ j, η 16 j = η 16 j := fun _ => rfl
  have v12 : ∀ j, η1 16 j = η 16 j := fun j => k4.1.2.2.2.1 16 _ (zinr_not (by decide +kernel))
  have fr16_1 : ∀ j, η1 16 j = η 16 j := v12
  have fr18_0 : ∀ j, η 18 j = η 18 j := fun _ => rfl
  have v13 : ∀ j, η1 18 j = η 18 j := fun j => k4.1.2.2.2.1 18 _ (zinr_not (by decide +kernel))
  have fr18_1 : ∀ j, η1 18 j = η 18 j := v13
  have f0_7 : η1 0 7 = η1 0 7 := rfl
  have f0_6 : η1 0 6 = η 0 6 := v7
  have f0_8 : η1 0 8 = η1 0 8 := rfl
  have f0_19 : η1 0 19 = η 0 19 := v9
  have f0_44 : η1 0 44 = η 0 44 := v10
  have qt4 : ¬ η 0 8 = 0 → 10 * (η1 0 6 - η1 0 7) + η1 0 8 < 10 * (η 0 6 - η 0 7) + η 0 8 := k4.2.2
  have P1 : PL_n 6 η1 := zGk_fm2 plk_n (hpp.2) k4.1.2.2.2.1 (by decide +kernel)
  exact ⟨k4.2.1, P1⟩
set_option maxHeartbeats 8000000 in
theorem zne_lineRead_o34 {ro : Nat → List Int32} (η : zE) (hp : sP wl_ne zTr zPne_lineRead [] η) (hpp : pPne_lineRead [] η) : ∀ x1 : Int, x1 = η 0 (Int.toNat 8) → zok 0 x1 → (x1 = 1) → ∀ x2 : Int, x2 = η 0 (Int.toNat 9) → zok 0 x2 → (x2 ≤ 6) → ∀ x3 : Int, x3 = η 0 (Int.toNat 9) → zok 0 x3 → (5 < x3) → ∀ (x4 : Int) (η1 : zE), ((gC2 wl_ne [(nat_lit 0, zPne_wrong, zOne_wrong, zMne_wrong), (nat_lit 1, zPne_isSign, zOne_isSign, zMne_isSign), (nat_lit 2, zPne_token1, zOne_token1, zMne_token1), (nat_lit 3, zPne_grooveLine, zOne_grooveLine, zMne_grooveLine), (nat_lit 4, zPne_scratLine, zOne_scratLine, zMne_scratLine), (nat_lit 5, zPne_guestLine, zOne_guestLine, zMne_guestLine), (nat_lit 6, zPne_onceLine0, zOne_onceLine0, zMne_onceLine0), (nat_lit 7, zPne_onceLine1, zOne_onceLine1, zMne_onceLine1), (nat_lit 8, zPne_onceLine2, zOne_onceLine2, zMne_onceLine2), (nat_lit 9, zPne_sumRead, zOne_sumRead, zMne_sumRead)] pCne_lineRead qCne_lineRead) 2).2 [] η x4 η1 → ∀ x5 : Int, x5 = η1 0 (Int.toNat 8) → zok 0 x5 → (x5 = 1) → ∀ x6 : Int, x6 = η1 0 (Int.toNat 9) → zok 0 x6 → (7 ≤ x6) → ∀ x7 : Int, x7 = η1 0 (Int.toNat 9) → zok 0 x7 → (9 < x7) → ∀ (x8 : Int) (η2 : zE), ((gC2 wl_ne [(nat_lit 0, zPne_wrong, zOne_wrong, zMne_wrong), (nat_lit 1, zPne_isSign, zOne_isSign, zMne_isSign), (nat_lit 2, zPne_token1, zOne_token1, zMne_token1), (nat_lit 3, zPne_grooveLine, zOne_grooveLine, zMne_grooveLine), (nat_lit 4, zPne_scratLine, zOne_scratLine, zMne_scratLine), (nat_lit 5, zPne_guestLine, zOne_guestLine, zMne_guestLine), (nat_lit 6, zPne_onceLine0, zOne_onceLine0, zMne_onceLine0), (nat_lit 7, zPne_onceLine1, zOne_onceLine1, zMne_onceLine1), (nat_lit 8, zPne_onceLine2, zOne_onceLine2, zMne_onceLine2), (nat_lit 9, zPne_sumRead, zOne_sumRead, zMne_sumRead)] pCne_lineRead qCne_lineRead) 0).2 [1] η1 x8 η2 → (fun (_ : Nat) (y : Int) (η' : zE) => pQne_lineRead [] η y η') 0 x8 η2 := by
  intro x1 e1 r1 c1 x2 e2 r2 c2 x3 e3 r3 c3 x4 η1 h4 x5 e5 r5 c4 x6 e6 r6 c5 x7 e7 r7 c6 x8 η2 h8
  have y4 : fQne_token1 [] η x4 η1 := h4.2.2
  have k4 : sQ wl_ne zTr zOne_token1 zMne_token1 [] η x4 η1 ∧ oQne_token1 [] η x4 η1 := ⟨h4.1, h4.2.1⟩
  have y8 : fQne_wrong [1] η1 x8 η2 := h8.2.2
  have k8 : sQ wl_ne zTr zOne_wrong zMne_wrong [1] η1 x8 η2 ∧ oQne_wrong [1] η1 x8 η2 := ⟨h8.1, h8.2.1⟩
  refine yj_a ?_ ?_
  · have y4 : fQne_token1 [] η x4 η1 := h4.2.2
    have k4 : sQ wl_ne zTr zOne_token1 zMne_token1 [] η x4 η1 ∧ oQne_token1 [] η x4 η1 := ⟨h4.1, h4.2.1⟩
    have y8 : fQne_wrong [1] η1 x8 η2 := h8.2.2
    have k8 : sQ wl_ne zTr zOne_wrong zMne_wrong [1] η1 x8 η2 ∧ oQne_wrong [1] η1 x8 η2 := ⟨h8.1, h8.2.1⟩
    have w0_0_8 : (0 : Int) ≤ η 0 8 ∧ η 0 8 ≤ 6 := wf_ok (a := 8) (b := 8) (z := (0, 6)) hp.1 (by decide +kernel) (Nat.le_refl _) (Nat.le_refl _)
    replace e1 : x1 = η 0 8 := e1
    replace e2 : x2 = η 0 9 := e2
    replace r2 : -2147483648 ≤ x2 ∧ x2 ≤ 2147483647 := r2
    replace e3 : x3 = η 0 9 := e3
    replace r3 : -2147483648 ≤ x3 ∧ x3 ≤ 2147483647 := r3
    have w0_0_7 : (0 : Int) ≤ η 0 7 ∧ η 0 7 ≤ 700 := wf_ok (a := 7) (b := 7) (z := (0, 700)) hp.1 (by decide +kernel) (Nat.le_refl _) (Nat.le_refl _)
    have c0_0_7 : η 0 7 = η 0 7 := rfl
    have w0_0_6 : (0 : Int) ≤ η 0 6 ∧ η 0 6 ≤ 700 := wf_ok (a := 6) (b := 6) (z := (0, 700)) hp.1 (by decide +kernel) (Nat.le_refl _) (Nat.le_refl _)
    have c0_0_6 : η 0 6 = η 0 6 := rfl
    have c0_0_8 : η 0 8 = η 0 8 := rfl
    have w0_0_19 : (0 : Int) ≤ η 0 19 ∧ η 0 19 ≤ 64 := wf_ok (a := 19) (b := 19) (z := (0, 64)) hp.1 (by decide +kernel) (Nat.le_refl _) (Nat.le_refl _)
    have c0_0_19 : η 0 19 = η 0 19 := rfl
    have w0_0_44 : (0 : Int) ≤ η 0 44 ∧ η 0 44 ≤ 64 := wf_ok (a := 44) (b := 44) (z := (0, 64)) hp.1 (by decide +kernel) (Nat.le_refl _) (Nat.le_refl _)
    have c0_0_44 : η 0 44 = η 0 44 := rfl
    have bx4 : (0 : Int) ≤ x4 ∧ x4 ≤ 0 := k4.1.2.1
    have w1_0_7 : (0 : Int) ≤ η1 0 7 ∧ η1 0 7 ≤ 700 := wf_ok (a := 7) (b := 7) (z := (0, 700)) k4.1.1 (by decide +kernel) (Nat.le_refl _) (Nat.le_refl _)
    have d1_0_7 : η1 0 7 = η1 0 7 := rfl
    have v7 : zEq (η1 0 6) (η 0 6) := (k4.1.2.2.2.1 0 6 (by decide +kernel)).trans rfl
    have d1_0_6 : η1 0 6 = η 0 6 := v7
    have w1_0_8 : (0 : Int) ≤ η1 0 8 ∧ η1 0 8 ≤ 6 := wf_ok (a := 8) (b := 8) (z := (0, 6)) k4.1.1 (by decide +kernel) (Nat.le_refl _) (Nat.le_refl _)
    have d1_0_8 : η1 0 8 = η1 0 8 := rfl
    have v9 : zEq (η1 0 19) (η 0 19) := (k4.1.2.2.2.1 0 19 (by decide +kernel)).trans rfl
    have d1_0_19 : η1 0 19 = η 0 19 := v9
    have v10 : zEq (η1 0 44) (η 0 44) := (k4.1.2.2.2.1 0 44 (by decide +kernel)).trans rfl
    have d1_0_44 : η1 0 44 = η 0 44 := v10
    replace e5 : x5 = η1 0 8 := e5
    replace e6 : x6 = η1 0 9 := e6
    replace r6 : -2147483648 ≤ x6 ∧ x6 ≤ 2147483647 := r6
    replace e7 : x7 = η1 0 9 := e7
    replace r7 : -2147483648 ≤ x7 ∧ x7 ≤ 2147483647 := r7
    have c1_0_7 : η1 0 7 = η1 0 7 := rfl
    have c1_0_6 : η1 0 6 = η 0 6 := v7
    have c1_0_8 : η1 0 8 = η1 0 8 := rfl
    have c1_0_19 : η1 0 19 = η 0 19 := v9
    have c1_0_44 : η1 0 44 = η 0 44 := v10
    have bx8 : (0 : Int) ≤ x8 ∧ x8 ≤ 0 := k8.1.2.1
    have v12 : zEq (η2 0 7) (η1 0 7) := (k8.1.2.2.2.1 0 7 (by decide +kernel)).trans rfl
    have d2_0_7 : η2 0 7 = η1 0 7 := v12
    have v13 : zEq (η2 0 6) (η 0 6) := (k8.1.2.2.2.1 0 6 (by decide +kernel)).trans v7
    have d2_0_6 : η2 0 6 = η 0 6 := v13
    have v14 : zEq (η2 0 8) (η1 0 8) := (k8.1.2.2.2.1 0 8 (by decide +kernel)).trans rfl
    have d2_0_8 : η2 0 8 = η1 0 8 := v14
    have v15 : zEq (η2 0 19) (η 0 19) := (k8.1.2.2.2.1 0 19 (by decide +kernel)).trans v9
    have d2_0_19 : η2 0 19 = η 0 19 := v15
    have v16 : zEq (η2 0 44) (η 0 44) := (k8.1.2.2.2.1 0 44 (by decide +kernel)).trans v10
    have d2_0_44 : η2 0 44 = η 0 44 := v16
    have fr16_0 : ∀ j, η 16 j = η 16 j := fun _ => rfl
    have v17 : ∀ j, η1 16 j = η 16 j := fun j => k4.1.2.2.2.1 16 _ (zinr_not (by decide +kernel))
    have fr16_1 : ∀ j, η1 16 j = η 16 j := v17
    have v18 : ∀ j, η2 16 j = η 16 j := fun j => (k8.1.2.2.2.1 16 _ (zinr_not (by decide +kernel))).trans (v17 j)
    have fr16_2 : ∀ j, η2 16 j = η 16 j := v18
    have fr18_0 : ∀ j, η 18 j = η 18 j := fun _ => rfl
    have v19 : ∀ j, η1 18 j = η 18 j := fun j => k4.1.2.2.2.1 18 _ (zinr_not (by decide +kernel))
    have fr18_1 : ∀ j, η1 18 j = η 18 j := v19
    have v20 : ∀ j, η2 18 j = η 18 j := fun j => (k8.1.2.2.2.1 18 _ (zinr_not (by decide +kernel))).trans (v19 j)
    have fr18_2 : ∀ j, η2 18 j = η 18 j := v20
    have f0_7 : η2 0 7 = η1 0 7 := v12
    have f0_6 : η2 0 6 = η 0 6 := v13
    have f0_8 : η2 0 8 = η1 0 8 := v14
    have f0_19 : η2 0 19 = η 0 19 := v15
    have f0_44 : η2 0 44 = η 0 44 := v16
    have qt4 : ¬ η 0 8 = 0 → 10 * (η1 0 6 - η1 0 7) + η1 0 8 < 10 * (η 0 6 - η 0 7) + η 0 8 := k4.2.2
    have P1 : PL_n 6 η1 := zGk_fm2 plk_n (hpp.2) k4.1.2.2.2.1 (by decide +kernel)
    exact ⟨k8.2.1.1, pl_d (k8.2.2) (by decide), fun w => absurd (show (x8 : Int) = 0 by apply Int.le_antisymm <;> omega) w⟩
  · have e1 : x1 = η 0 8 := e1
    have e2 : x2 = η 0 9 := e2
    have e3 : x3 = η 0 9 := e3
    have f3 : x2 = x3 := e2.trans e3.symm
    subst f3
    have b4 : η1 = (yq_tok η) := y4
    have e5 : x5 = η1 0 8 := e5
    have e6 : x6 = η1 0 9 := e6
    have e7 : x7 = η1 0 9 := e7
    have f7 : x6 = x7 := e6.trans e7.symm
    subst f7
    obtain ⟨a8, b8⟩ : x8 = 0 ∧ η2 = (yq_wr 1 η1) := y8
    show x8 = (yq_lnr η).1 ∧ η2 = (yq_lnr η).2
    simp only [yq_lnr, yq_le, yq_law, yq_lw1, yq_lw2, yq_no, ← e1, ← e2, ← b4, ← e5, ← e6, ← b8, a8]
    all_goals (repeat (first | rw [if_pos (by omega)] | rw [if_neg (by omega)]))
    all_goals exact ⟨rfl, rfl⟩
set_option maxHeartbeats 8000000 in
theorem zne_lineRead_o35 {ro : Nat → List Int32} (η : zE) (hp : sP wl_ne zTr zPne_lineRead [] η) (hpp : pPne_lineRead [] η) : ∀ x1 : Int, x1 = η 0 (Int.toNat 8) → zok 0 x1 → (x1 = 1) → ∀ x2 : Int, x2 = η 0 (Int.toNat 9) → zok 0 x2 → (x2 ≤ 6) → ∀ x3 : Int, x3 = η 0 (Int.toNat 9) → zok 0 x3 → (x3 = 0) → ((gC2 wl_ne [(nat_lit 0, zPne_wrong, zOne_wrong, zMne_wrong), (nat_lit 1, zPne_isSign, zOne_isSign, zMne_isSign), (nat_lit 2, zPne_token1, zOne_token1, zMne_token1), (nat_lit 3, zPne_grooveLine, zOne_grooveLine, zMne_grooveLine), (nat_lit 4, zPne_scratLine, zOne_scratLine, zMne_scratLine), (nat_lit 5, zPne_guestLine, zOne_guestLine, zMne_guestLine), (nat_lit 6, zPne_onceLine0, zOne_onceLine0, zMne_onceLine0), (nat_lit 7, zPne_onceLine1, zOne_onceLine1, zMne_onceLine1), (nat_lit 8, zPne_onceLine2, zOne_onceLine2, zMne_onceLine2), (nat_lit 9, zPne_sumRead, zOne_sumRead, zMne_sumRead)] pCne_lineRead qCne_lineRead) 3).1 [] η := by
  intro x1 e1 r1 c1 x2 e2 r2 c2 x3 e3 r3 c3
  have w0_0_8 : (0 : Int) ≤ η 0 8 ∧ η 0 8 ≤ 6 := wf_ok (a := 8) (b := 8) (z := (0, 6)) hp.1 (by decide +kernel) (Nat.le_refl _) (Nat.le_refl _)
  replace e1 : x1 = η 0 8 := e1
  replace e2 : x2 = η 0 9 := e2
  replace r2 : -2147483648 ≤ x2 ∧ x2 ≤ 2147483647 := r2
  replace e3 : x3 = η 0 9 := e3
  replace r3 : -2147483648 ≤ x3 ∧ x3 ≤ 2147483647 := r3
  have fr16_0 : ∀ j, η 16 j = η 16 j := fun _ => rfl
  have fr18_0 : ∀ j, η 18 j = η 18 j := fun _ => rfl
  have w0_0_7 : (0 : Int) ≤ η 0 7 ∧ η 0 7 ≤ 700 := wf_ok (a := 7) (b := 7) (z := (0, 700)) hp.1 (by decide +kernel) (Nat.le_refl _) (Nat.le_refl _)
  have f0_7 : η 0 7 = η 0 7 := rfl
  have w0_0_6 : (0 : Int) ≤ η 0 6 ∧ η 0 6 ≤ 700 := wf_ok (a := 6) (b := 6) (z := (0, 700)) hp.1 (by decide +kernel) (Nat.le_refl _) (Nat.le_refl _)
  have f0_6 : η 0 6 = η 0 6 := rfl
  have f0_8 : η 0 8 = η 0 8 := rfl
  have w0_0_19 : (0 : Int) ≤ η 0 19 ∧ η 0 19 ≤ 64 := wf_ok (a := 19) (b := 19) (z := (0, 64)) hp.1 (by decide +kernel) (Nat.le_refl _) (Nat.le_refl _)
  have f0_19 : η 0 19 = η 0 19 := rfl
  have w0_0_44 : (0 : Int) ≤ η 0 44 ∧ η 0 44 ≤ 64 := wf_ok (a := 44) (b := 44) (z := (0, 64)) hp.1 (by decide +kernel) (Nat.le_refl _) (Nat.le_refl _)
  have f0_44 : η 0 44 = η 0 44 := rfl
  exact ⟨⟨hpp.1, hpp.2⟩, show ¬ η 0 8 = 0 by omega⟩
set_option maxHeartbeats 8000000 in
theorem zne_lineRead_o36 {ro : Nat → List Int32} (η : zE) (hp : sP wl_ne zTr zPne_lineRead [] η) (hpp : pPne_lineRead [] η) : ∀ x1 : Int, x1 = η 0 (Int.toNat 8) → zok 0 x1 → (x1 = 1) → ∀ x2 : Int, x2 = η 0 (Int.toNat 9) → zok 0 x2 → (x2 ≤ 6) → ∀ x3 : Int, x3 = η 0 (Int.toNat 9) → zok 0 x3 → (x3 = 0) → ∀ (x4 : Int) (η1 : zE), ((gC2 wl_ne [(nat_lit 0, zPne_wrong, zOne_wrong, zMne_wrong), (nat_lit 1, zPne_isSign, zOne_isSign, zMne_isSign), (nat_lit 2, zPne_token1, zOne_token1, zMne_token1), (nat_lit 3, zPne_grooveLine, zOne_grooveLine, zMne_grooveLine), (nat_lit 4, zPne_scratLine, zOne_scratLine, zMne_scratLine), (nat_lit 5, zPne_guestLine, zOne_guestLine, zMne_guestLine), (nat_lit 6, zPne_onceLine0, zOne_onceLine0, zMne_onceLine0), (nat_lit 7, zPne_onceLine1, zOne_onceLine1, zMne_onceLine1), (nat_lit 8, zPne_onceLine2, zOne_onceLine2, zMne_onceLine2), (nat_lit 9, zPne_sumRead, zOne_sumRead, zMne_sumRead)] pCne_lineRead qCne_lineRead) 3).2 [] η x4 η1 → (¬ x4 = 0) → ((gC2 wl_ne [(nat_lit 0, zPne_wrong, zOne_wrong, zMne_wrong), (nat_lit 1, zPne_isSign, zOne_isSign, zMne_isSign), (nat_lit 2, zPne_token1, zOne_token1, zMne_token1), (nat_lit 3, zPne_grooveLine, zOne_grooveLine, zMne_grooveLine), (nat_lit 4, zPne_scratLine, zOne_scratLine, zMne_scratLine), (nat_lit 5, zPne_guestLine, zOne_guestLine, zMne_guestLine), (nat_lit 6, zPne_onceLine0, zOne_onceLine0, zMne_onceLine0), (nat_lit 7, zPne_onceLine1, zOne_onceLine1, zMne_onceLine1), (nat_lit 8, zPne_onceLine2, zOne_onceLine2, zMne_onceLine2), (nat_lit 9, zPne_sumRead, zOne_sumRead, zMne_sumRead)] pCne_lineRead qCne_lineRead) 1).1 [59] η1 := by
  intro x1 e1 r1 c1 x2 e2 r2 c2 x3 e3 r3 c3 x4 η1 h4 c4
  have y4 : fQne_grooveLine [] η x4 η1 := h4.2.2
  have k4 : sQ wl_ne zTr zOne_grooveLine zMne_grooveLine [] η x4 η1 ∧ oQne_grooveLine [] η x4 η1 := ⟨h4.1, h4.2.1⟩
  have w0_0_8 : (0 : Int) ≤ η 0 8 ∧ η 0 8 ≤ 6 := wf_ok (a := 8) (b := 8) (z := (0, 6)) hp.1 (by decide +kernel) (Nat.le_refl _) (Nat.le_refl _)
  replace e1 : x1 = η 0 8 := e1
  replace e2 : x2 = η 0 9 := e2
  replace r2 : -2147483648 ≤ x2 ∧ x2 ≤ 2147483647 := r2
  replace e3 : x3 = η 0 9 := e3
  replace r3 : -2147483648 ≤ x3 ∧ x3 ≤ 2147483647 := r3
  have w0_0_7 : (0 : Int) ≤ η 0 7 ∧ η 0 7 ≤ 700 := wf_ok (a := 7) (b := 7) (z := (0, 700)) hp.1 (by decide +kernel) (Nat.le_refl _) (Nat.le_refl _)
  have c0_0_7 : η 0 7 = η 0 7 := rfl
  have w0_0_6 : (0 : Int) ≤ η 0 6 ∧ η 0 6 ≤ 700 := wf_ok (a := 6) (b := 6) (z := (0, 700)) hp.1 (by decide +kernel) (Nat.le_refl _) (Nat.le_refl _)
  have c0_0_6 : η 0 6 = η 0 6 := rfl
  have c0_0_8 : η 0 8 = η 0 8 := rfl
  have w0_0_19 : (0 : Int) ≤ η 0 19 ∧ η 0 19 ≤ 64 := wf_ok (a := 19) (b := 19) (z := (0, 64)) hp.1 (by decide +kernel) (Nat.le_refl _) (Nat.le_refl _)
  have c0_0_19 : η 0 19 = η 0 19 := rfl
  have w0_0_44 : (0 : Int) ≤ η 0 44 ∧ η 0 44 ≤ 64 := wf_ok (a := 44) (b := 44) (z := (0, 64)) hp.1 (by decide +kernel) (Nat.le_refl _) (Nat.le_refl _)
  have c0_0_44 : η 0 44 = η 0 44 := rfl
  have bx4 : (0 : Int) ≤ x4 ∧ x4 ≤ 1 := k4.1.2.1
  have w1_0_7 : (0 : Int) ≤ η1 0 7 ∧ η1 0 7 ≤ 700 := wf_ok (a := 7) (b := 7) (z := (0, 700)) k4.1.1 (by decide +kernel) (Nat.le_refl _) (Nat.le_refl _)
  have d1_0_7 : η1 0 7 = η1 0 7 := rfl
  have v7 : zEq (η1 0 6) (η 0 6) := (k4.1.2.2.2.1 0 6 (by decide +kernel)).trans rfl
  have d1_0_6 : η1 0 6 = η 0 6 := v7
  have w1_0_8 : (0 : Int) ≤ η1 0 8 ∧ η1 0 8 ≤ 6 := wf_ok (a := 8) (b := 8) (z := (0, 6)) k4.1.1 (by decide +kernel) (Nat.le_refl _) (Nat.le_refl _)
  have d1_0_8 : η1 0 8 = η1 0 8 := rfl
  have v9 : zEq (η1 0 19) (η 0 19) := (k4.1.2.2.2.1 0 19 (by decide +kernel)).trans rfl
  have d1_0_19 : η1 0 19 = η 0 19 := v9
  have v10 : zEq (η1 0 44) (η 0 44) := (k4.1.2.2.2.1 0 44 (by decide +kernel)).trans rfl
  have d1_0_44 : η1 0 44 = η 0 44 := v10
  have fr16_0 : ∀ j, η 16 j = η 16 j := fun _ => rfl
  have v11 : ∀ j, η1 16 j = η 16 j := fun j => k4.1.2.2.2.1 16 _ (zinr_not (by decide +kernel))
  have fr16_1 : ∀ j, η1 16 j = η 16 j := v11
  have fr18_0 : ∀ j, η 18 j = η 18 j := fun _ => rfl
  have v12 : ∀ j, η1 18 j = η 18 j := fun j => k4.1.2.2.2.1 18 _ (zinr_not (by decide +kernel))
  have fr18_1 : ∀ j, η1 18 j = η 18 j := v12
  have f0_7 : η1 0 7 = η1 0 7 := rfl
  have f0_6 : η1 0 6 = η 0 6 := v7
  have f0_8 : η1 0 8 = η1 0 8 := rfl
  have f0_19 : η1 0 19 = η 0 19 := v9
  have f0_44 : η1 0 44 = η 0 44 := v10
  have qn4 : ¬ x4 = 0 → 10 * (η1 0 6 - η1 0 7) + η1 0 8 < 10 * (η 0 6 - η 0 7) + η 0 8 := k4.2.2
  exact ⟨k4.2.1.1, k4.2.1.2⟩
set_option maxHeartbeats 8000000 in
theorem zne_lineRead_o37 {ro : Nat → List Int32} (η : zE) (hp : sP wl_ne zTr zPne_lineRead [] η) (hpp : pPne_lineRead [] η) : ∀ x1 : Int, x1 = η 0 (Int.toNat 8) → zok 0 x1 → (x1 = 1) → ∀ x2 : Int, x2 = η 0 (Int.toNat 9) → zok 0 x2 → (x2 ≤ 6) → ∀ x3 : Int, x3 = η 0 (Int.toNat 9) → zok 0 x3 → (x3 = 0) → ∀ (x4 : Int) (η1 : zE), ((gC2 wl_ne [(nat_lit 0, zPne_wrong, zOne_wrong, zMne_wrong), (nat_lit 1, zPne_isSign, zOne_isSign, zMne_isSign), (nat_lit 2, zPne_token1, zOne_token1, zMne_token1), (nat_lit 3, zPne_grooveLine, zOne_grooveLine, zMne_grooveLine), (nat_lit 4, zPne_scratLine, zOne_scratLine, zMne_scratLine), (nat_lit 5, zPne_guestLine, zOne_guestLine, zMne_guestLine), (nat_lit 6, zPne_onceLine0, zOne_onceLine0, zMne_onceLine0), (nat_lit 7, zPne_onceLine1, zOne_onceLine1, zMne_onceLine1), (nat_lit 8, zPne_onceLine2, zOne_onceLine2, zMne_onceLine2), (nat_lit 9, zPne_sumRead, zOne_sumRead, zMne_sumRead)] pCne_lineRead qCne_lineRead) 3).2 [] η x4 η1 → (¬ x4 = 0) → ∀ (x5 : Int) (η2 : zE), ((gC2 wl_ne [(nat_lit 0, zPne_wrong, zOne_wrong, zMne_wrong), (nat_lit 1, zPne_isSign, zOne_isSign, zMne_isSign), (nat_lit 2, zPne_token1, zOne_token1, zMne_token1), (nat_lit 3, zPne_grooveLine, zOne_grooveLine, zMne_grooveLine), (nat_lit 4, zPne_scratLine, zOne_scratLine, zMne_scratLine), (nat_lit 5, zPne_guestLine, zOne_guestLine, zMne_guestLine), (nat_lit 6, zPne_onceLine0, zOne_onceLine0, zMne_onceLine0), (nat_lit 7, zPne_onceLine1, zOne_onceLine1, zMne_onceLine1), (nat_lit 8, zPne_onceLine2, zOne_onceLine2, zMne_onceLine2), (nat_lit 9, zPne_sumRead, zOne_sumRead, zMne_sumRead)] pCne_lineRead qCne_lineRead) 1).2 [59] η1 x5 η2 → (¬ x5 = 0) → ((gC2 wl_ne [(nat_lit 0, zPne_wrong, zOne_wrong, zMne_wrong), (nat_lit 1, zPne_isSign, zOne_isSign, zMne_isSign), (nat_lit 2, zPne_token1, zOne_token1, zMne_token1), (nat_lit 3, zPne_grooveLine, zOne_grooveLine, zMne_grooveLine), (nat_lit 4, zPne_scratLine, zOne_scratLine, zMne_scratLine), (nat_lit 5, zPne_guestLine, zOne_guestLine, zMne_guestLine), (nat_lit 6, zPne_onceLine0, zOne_onceLine0, zMne_onceLine0), (nat_lit 7, zPne_onceLine1, zOne_onceLine1, zMne_onceLine1), (nat_lit 8, zPne_onceLine2, zOne_onceLine2, zMne_onceLine2), (nat_lit 9, zPne_sumRead, zOne_sumRead, zMne_sumRead)] pCne_lineRead qCne_lineRead) 2).1 [] η2 := by
  intro x1 e1 r1 c1 x2 e2 r2 c2 x3 e3 r3 c3 x4 η1 h4 c4 x5 η2 h5 c5
  have y4 : fQne_grooveLine [] η x4 η1 := h4.2.2
  have k4 : sQ wl_ne zTr zOne_grooveLine zMne_grooveLine [] η x4 η1 ∧ oQne_grooveLine [] η x4 η1 := ⟨h4.1, h4.2.1⟩
  have y5 : fQne_isSign [59] η1 x5 η2 := h5.2.2
  have k5 : sQ wl_ne zTr zOne_isSign zMne_isSign [59] η1 x5 η2 ∧ oQne_isSign [59] η1 x5 η2 := ⟨h5.1, h5.2.1⟩
  have w0_0_8 : (0 : Int) ≤ η 0 8 ∧ η 0 8 ≤ 6 := wf_ok (a := 8) (b := 8) (z := (0, 6)) hp.1 (by decide +kernel) (Nat.le_refl _) (Nat.le_refl _)
  replace e1 : x1 = η 0 8 := e1
  replace e2 : x2 = η 0 9 := e2
  replace r2 : -2147483648 ≤ x2 ∧ x2 ≤ 2147483647 := r2
  replace e3 : x3 = η 0 9 := e3
  replace r3 : -2147483648 ≤ x3 ∧ x3 ≤ 2147483647 := r3
  have w0_0_7 : (0 : Int) ≤ η 0 7 ∧ η 0 7 ≤ 700 := wf_ok (a := 7) (b := 7) (z := (0, 700)) hp.1 (by decide +kernel) (Nat.le_refl _) (Nat.le_refl _)
  have c0_0_7 : η 0 7 = η 0 7 := rfl
  have w0_0_6 : (0 : Int) ≤ η 0 6 ∧ η 0 6 ≤ 700 := wf_ok (a := 6) (b := 6) (z := (0, 700)) hp.1 (by decide +kernel) (Nat.le_refl _) (Nat.le_refl _)
  have c0_0_6 : η 0 6 = η 0 6 := rfl
  have c0_0_8 : η 0 8 = η 0 8 := rfl
  have w0_0_19 : (0 : Int) ≤ η 0 19 ∧ η 0 19 ≤ 64 := wf_ok (a := 19) (b := 19) (z := (0, 64)) hp.1 (by decide +kernel) (Nat.le_refl _) (Nat.le_refl _)
  have c0_0_19 : η 0 19 = η 0 19 := rfl
  have w0_0_44 : (0 : Int) ≤ η 0 44 ∧ η 0 44 ≤ 64 := wf_ok (a := 44) (b := 44) (z := (0, 64)) hp.1 (by decide +kernel) (Nat.le_refl _) (Nat.le_refl _)
  have c0_0_44 : η 0 44 = η 0 44 := rfl
  have bx4 : (0 : Int) ≤ x4 ∧ x4 ≤ 1 := k4.1.2.1
  have w1_0_7 : (0 : Int) ≤ η1 0 7 ∧ η1 0 7 ≤ 700 := wf_ok (a := 7) (b := 7) (z := (0, 700)) k4.1.1 (by decide +kernel) (Nat.le_refl _) (Nat.le_refl _)
  have d1_0_7 : η1 0 7 = η1 0 7 := rfl
  have v7 : zEq (η1 0 6) (η 0 6) := (k4.1.2.2.2.1 0 6 (by decide +kernel)).trans rfl
  have d1_0_6 : η1 0 6 = η 0 6 := v7
  have w1_0_8 : (0 : Int) ≤ η1 0 8 ∧ η1 0 8 ≤ 6 := wf_ok (a := 8) (b := 8) (z := (0, 6)) k4.1.1 (by decide +kernel) (Nat.le_refl _) (Nat.le_refl _)
  have d1_0_8 : η1 0 8 = η1 0 8 := rfl
  have v9 : zEq (η1 0 19) (η 0 19) := (k4.1.2.2.2.1 0 19 (by decide +kernel)).trans rfl
  have d1_0_19 : η1 0 19 = η 0 19 := v9
  have v10 : zEq (η1 0 44) (η 0 44) := (k4.1.2.2.2.1 0 44 (by decide +kernel)).trans rfl
  have d1_0_44 : η1 0 44 = η 0 44 := v10
  have c1_0_7 : η1 0 7 = η1 0 7 := rfl
  have c1_0_6 : η1 0 6 = η 0 6 := v7
  have c1_0_8 : η1 0 8 = η1 0 8 := rfl
  have c1_0_19 : η1 0 19 = η 0 19 := v9
  have c1_0_44 : η1 0 44 = η 0 44 := v10
  have bx5 : (0 : Int) ≤ x5 ∧ x5 ≤ 1 := k5.1.2.1
  have v11 : zEq (η2 0 7) (η1 0 7) := (k5.1.2.2.2.1 0 7 (by decide +kernel)).trans rfl
  have d2_0_7 : η2 0 7 = η1 0 7 := v11
  have v12 : zEq (η2 0 6) (η 0 6) := (k5.1.2.2.2.1 0 6 (by decide +kernel)).trans v7
  have d2_0_6 : η2 0 6 = η 0 6 := v12
  have v13 : zEq (η2 0 8) (η1 0 8) := (k5.1.2.2.2.1 0 8 (by decide +kernel)).trans rfl
  have d2_0_8 : η2 0 8 = η1 0 8 := v13
  have v14 : zEq (η2 0 19) (η 0 19) := (k5.1.2.2.2.1 0 19 (by decide +kernel)).trans v9
  have d2_0_19 : η2 0 19 = η 0 19 := v14
  have v15 : zEq (η2 0 44) (η 0 44) := (k5.1.2.2.2.1 0 44 (by decide +kernel)).trans v10
  have d2_0_44 : η2 0 44 = η 0 44 := v15
  have fr16_0 : ∀ j, η 16 j = η 16 j := fun _ => rfl
  have v16 : ∀ j, η1 16 j = η 16 j := fun j => k4.1.2.2.2.1 16 _ (zinr_not (by decide +kernel))
  have fr16_1 : ∀ j, η1 16 j = η 16 j := v16
  have v17 : ∀ j, η2 16 j = η 16 j := fun j => (k5.1.2.2.2.1 16 _ (zinr_not (by decide +kernel))).trans (v16 j)
  have fr16_2 : ∀ j, η2 16 j = η 16 j := v17
  have fr18_0 : ∀ j, η 18 j = η 18 j := fun _ => rfl
  have v18 : ∀ j, η1 18 j = η 18 j := fun j => k4.1.2.2.2.1 18 _ (zinr_not (by decide +kernel))
  have fr18_1 : ∀ j, η1 18 j = η 18 j := v18
  have v19 : ∀ j, η2 18 j = η 18 j := fun j => (k5.1.2.2.2.1 18 _ (zinr_not (by decide +kernel))).trans (v18 j)
  have fr18_2 : ∀ j, η2 18 j = η 18 j := v19
  have f0_7 : η2 0 7 = η1 0 7 := v11
  have f0_6 : η2 0 6 = η 0 6 := v12
  have f0_8 : η2 0 8 = η1 0 8 := v13
  have f0_19 : η2 0 19 = η 0 19 := v14
  have f0_44 : η2 0 44 = η 0 44 := v15
  have qn4 : ¬ x4 = 0 → 10 * (η1 0 6 - η1 0 7) + η1 0 8 < 10 * (η 0 6 - η 0 7) + η 0 8 := k4.2.2
  have qs5 : ¬ x5 = 0 → η1 0 8 = 4 := k5.2.2
  exact k5.2.1.1
set_option maxHeartbeats 8000000 in
theorem zne_lineRead_o38 {ro : Nat → List Int32} (η : zE) (hp : sP wl_ne zTr zPne_lineRead [] η) (hpp : pPne_lineRead [] η) : ∀ x1 : Int, x1 = η 0 (Int.toNat 8) → zok 0 x1 → (x1 = 1) → ∀ x2 : Int, x2 = η 0 (Int.toNat 9) → zok 0 x2 → (x2 ≤ 6) → ∀ x3 : Int, x3 = η 0 (Int.toNat 9) → zok 0 x3 → (x3 = 0) → ∀ (x4 : Int) (η1 : zE), ((gC2 wl_ne [(nat_lit 0, zPne_wrong, zOne_wrong, zMne_wrong), (nat_lit 1, zPne_isSign, zOne_isSign, zMne_isSign), (nat_lit 2, zPne_token1, zOne_token1, zMne_token1), (nat_lit 3, zPne_grooveLine, zOne_grooveLine, zMne_grooveLine), (nat_lit 4, zPne_scratLine, zOne_scratLine, zMne_scratLine), (nat_lit 5, zPne_guestLine, zOne_guestLine, zMne_guestLine), (nat_lit 6, zPne_onceLine0, zOne_onceLine0, zMne_onceLine0), (nat_lit 7, zPne_onceLine1, zOne_onceLine1, zMne_onceLine1), (nat_lit 8, zPne_onceLine2, zOne_onceLine2, zMne_onceLine2), (nat_lit 9, zPne_sumRead, zOne_sumRead, zMne_sumRead)] pCne_lineRead qCne_lineRead) 3).2 [] η x4 η1 → (¬ x4 = 0) → ∀ (x5 : Int) (η2 : zE), ((gC2 wl_ne [(nat_lit 0, zPne_wrong, zOne_wrong, zMne_wrong), (nat_lit 1, zPne_isSign, zOne_isSign, zMne_isSign), (nat_lit 2, zPne_token1, zOne_token1, zMne_token1), (nat_lit 3, zPne_grooveLine, zOne_grooveLine, zMne_grooveLine), (nat_lit 4, zPne_scratLine, zOne_scratLine, zMne_scratLine), (nat_lit 5, zPne_guestLine, zOne_guestLine, zMne_guestLine), (nat_lit 6, zPne_onceLine0, zOne_onceLine0, zMne_onceLine0), (nat_lit 7, zPne_onceLine1, zOne_onceLine1, zMne_onceLine1), (nat_lit 8, zPne_onceLine2, zOne_onceLine2, zMne_onceLine2), (nat_lit 9, zPne_sumRead, zOne_sumRead, zMne_sumRead)] pCne_lineRead qCne_lineRead) 1).2 [59] η1 x5 η2 → (¬ x5 = 0) → ∀ (x6 : Int) (η3 : zE), ((gC2 wl_ne [(nat_lit 0, zPne_wrong, zOne_wrong, zMne_wrong), (nat_lit 1, zPne_isSign, zOne_isSign, zMne_isSign), (nat_lit 2, zPne_token1, zOne_token1, zMne_token1), (nat_lit 3, zPne_grooveLine, zOne_grooveLine, zMne_grooveLine), (nat_lit 4, zPne_scratLine, zOne_scratLine, zMne_scratLine), (nat_lit 5, zPne_guestLine, zOne_guestLine, zMne_guestLine), (nat_lit 6, zPne_onceLine0, zOne_onceLine0, zMne_onceLine0), (nat_lit 7, zPne_onceLine1, zOne_onceLine1, zMne_onceLine1), (nat_lit 8, zPne_onceLine2, zOne_onceLine2, zMne_onceLine2), (nat_lit 9, zPne_sumRead, zOne_sumRead, zMne_sumRead)] pCne_lineRead qCne_lineRead) 2).2 [] η2 x6 η3 → (fun (_ : Nat) (y : Int) (η' : zE) => pQne_lineRead [] η y η') 0 1 η3 := by
  intro x1 e1 r1 c1 x2 e2 r2 c2 x3 e3 r3 c3 x4 η1 h4 c4 x5 η2 h5 c5 x6 η3 h6
  have y4 : fQne_grooveLine [] η x4 η1 := h4.2.2
  have k4 : sQ wl_ne zTr zOne_grooveLine zMne_grooveLine [] η x4 η1 ∧ oQne_grooveLine [] η x4 η1 := ⟨h4.1, h4.2.1⟩
  have y5 : fQne_isSign [59] η1 x5 η2 := h5.2.2
  have k5 : sQ wl_ne zTr zOne_isSign zMne_isSign [59] η1 x5 η2 ∧ oQne_isSign [59] η1 x5 η2 := ⟨h5.1, h5.2.1⟩
  have y6 : fQne_token1 [] η2 x6 η3 := h6.2.2
  have k6 : sQ wl_ne zTr zOne_token1 zMne_token1 [] η2 x6 η3 ∧ oQne_token1 [] η2 x6 η3 := ⟨h6.1, h6.2.1⟩
  refine yj_a ?_ ?_
  · have y4 : fQne_grooveLine [] η x4 η1 := h4.2.2
    have k4 : sQ wl_ne zTr zOne_grooveLine zMne_grooveLine [] η x4 η1 ∧ oQne_grooveLine [] η x4 η1 := ⟨h4.1, h4.2.1⟩
    have y5 : fQne_isSign [59] η1 x5 η2 := h5.2.2
    have k5 : sQ wl_ne zTr zOne_isSign zMne_isSign [59] η1 x5 η2 ∧ oQne_isSign [59] η1 x5 η2 := ⟨h5.1, h5.2.1⟩
    have y6 : fQne_token1 [] η2 x6 η3 := h6.2.2
    have k6 : sQ wl_ne zTr zOne_token1 zMne_token1 [] η2 x6 η3 ∧ oQne_token1 [] η2 x6 η3 := ⟨h6.1, h6.2.1⟩
    have w0_0_8 : (0 : Int) ≤ η 0 8 ∧ η 0 8 ≤ 6 := wf_ok (a := 8) (b := 8) (z := (0, 6)) hp.1 (by decide +kernel) (Nat.le_refl _) (Nat.le_refl _)
    replace e1 : x1 = η 0 8 := e1
    replace e2 : x2 = η 0 9 := e2
    replace r2 : -2147483648 ≤ x2 ∧ x2 ≤ 2147483647 := r2
    replace e3 : x3 = η 0 9 := e3
    replace r3 : -2147483648 ≤ x3 ∧ x3 ≤ 2147483647 := r3
    have w0_0_7 : (0 : Int) ≤ η 0 7 ∧ η 0 7 ≤ 700 := wf_ok (a := 7) (b := 7) (z := (0, 700)) hp.1 (by decide +kernel) (Nat.le_refl _) (Nat.le_refl _)
    have c0_0_7 : η 0 7 = η 0 7 := rfl
    have w0_0_6 : (0 : Int) ≤ η 0 6 ∧ η 0 6 ≤ 700 := wf_ok (a := 6) (b := 6) (z := (0, 700)) hp.1 (by decide +kernel) (Nat.le_refl _) (Nat.le_refl _)
    have c0_0_6 : η 0 6 = η 0 6 := rfl
    have c0_0_8 : η 0 8 = η 0 8 := rfl
    have w0_0_19 : (0 : Int) ≤ η 0 19 ∧ η 0 19 ≤ 64 := wf_ok (a := 19) (b := 19) (z := (0, 64)) hp.1 (by decide +kernel) (Nat.le_refl _) (Nat.le_refl _)
    have c0_0_19 : η 0 19 = η 0 19 := rfl
    have w0_0_44 : (0 : Int) ≤ η 0 44 ∧ η 0 44 ≤ 64 := wf_ok (a := 44) (b := 44) (z := (0, 64)) hp.1 (by decide +kernel) (Nat.le_refl _) (Nat.le_refl _)
    have c0_0_44 : η 0 44 = η 0 44 := rfl
    have bx4 : (0 : Int) ≤ x4 ∧ x4 ≤ 1 := k4.1.2.1
    have w1_0_7 : (0 : Int) ≤ η1 0 7 ∧ η1 0 7 ≤ 700 := wf_ok (a := 7) (b := 7) (z := (0, 700)) k4.1.1 (by decide +kernel) (Nat.le_refl _) (Nat.le_refl _)
    have d1_0_7 : η1 0 7 = η1 0 7 := rfl
    have v7 : zEq (η1 0 6) (η 0 6) := (k4.1.2.2.2.1 0 6 (by decide +kernel)).trans rfl
    have d1_0_6 : η1 0 6 = η 0 6 := v7
    have w1_0_8 : (0 : Int) ≤ η1 0 8 ∧ η1 0 8 ≤ 6 := wf_ok (a := 8) (b := 8) (z := (0, 6)) k4.1.1 (by decide +kernel) (Nat.le_refl _) (Nat.le_refl _)
    have d1_0_8 : η1 0 8 = η1 0 8 := rfl
    have v9 : zEq (η1 0 19) (η 0 19) := (k4.1.2.2.2.1 0 19 (by decide +kernel)).trans rfl
    have d1_0_19 : η1 0 19 = η 0 19 := v9
    have v10 : zEq (η1 0 44) (η 0 44) := (k4.1.2.2.2.1 0 44 (by decide +kernel)).trans rfl
    have d1_0_44 : η1 0 44 = η 0 44 := v10
    have c1_0_7 : η1 0 7 = η1 0 7 := rfl
    have c1_0_6 : η1 0 6 = η 0 6 := v7
    have c1_0_8 : η1 0 8 = η1 0 8 := rfl
    have c1_0_19 : η1 0 19 = η 0 19 := v9
    have c1_0_44 : η1 0 44 = η 0 44 := v10
    have bx5 : (0 : Int) ≤ x5 ∧ x5 ≤ 1 := k5.1.2.1
    have v11 : zEq (η2 0 7) (η1 0 7) := (k5.1.2.2.2.1 0 7 (by decide +kernel)).trans rfl
    have d2_0_7 : η2 0 7 = η1 0 7 := v11
    have v12 : zEq (η2 0 6) (η 0 6) := (k5.1.2.2.2.1 0 6 (by decide +kernel)).trans v7
    have d2_0_6 : η2 0 6 = η 0 6 := v12
    have v13 : zEq (η2 0 8) (η1 0 8) := (k5.1.2.2.2.1 0 8 (by decide +kernel)).trans rfl
    have d2_0_8 : η2 0 8 = η1 0 8 := v13
    have v14 : zEq (η2 0 19) (η 0 19) := (k5.1.2.2.2.1 0 19 (by decide +kernel)).trans v9
    have d2_0_19 : η2 0 19 = η 0 19 := v14
    have v15 : zEq (η2 0 44) (η 0 44) := (k5.1.2.2.2.1 0 44 (by decide +kernel)).trans v10
    have d2_0_44 : η2 0 44 = η 0 44 := v15
    have c2_0_7 : η2 0 7 = η1 0 7 := v11
    have c2_0_6 : η2 0 6 = η 0 6 := v12
    have c2_0_8 : η2 0 8 = η1 0 8 := v13
    have c2_0_19 : η2 0 19 = η 0 19 := v14
    have c2_0_44 : η2 0 44 = η 0 44 := v15
    have bx6 : (0 : Int) ≤ x6 ∧ x6 ≤ 0 := k6.1.2.1
    have w3_0_7 : (0 : Int) ≤ η3 0 7 ∧ η3 0 7 ≤ 700 := wf_ok (a := 7) (b := 7) (z := (0, 700)) k6.1.1 (by decide +kernel) (Nat.le_refl _) (Nat.le_refl _)
    have d3_0_7 : η3 0 7 = η3 0 7 := rfl
    have v17 : zEq (η3 0 6) (η 0 6) := (k6.1.2.2.2.1 0 6 (by decide +kernel)).trans v12
    have d3_0_6 : η3 0 6 = η 0 6 := v17
    have w3_0_8 : (0 : Int) ≤ η3 0 8 ∧ η3 0 8 ≤ 6 := wf_ok (a := 8) (b := 8) (z := (0, 6)) k6.1.1 (by decide +kernel) (Nat.le_refl _) (Nat.le_refl _)
    have d3_0_8 : η3 0 8 = η3 0 8 := rfl
    have v19 : zEq (η3 0 19) (η 0 19) := (k6.1.2.2.2.1 0 19 (by decide +kernel)).trans v14
    have d3_0_19 : η3 0 19 = η 0 19 := v19
    have v20 : zEq (η3 0 44) (η 0 44) := (k6.1.2.2.2.1 0 44 (by decide +kernel)).trans v15
    have d3_0_44 : η3 0 44 = η 0 44 := v20
    have fr16_0 : ∀ j, η 16 j = η 16 j := fun _ => rfl
    have v21 : ∀ j, η1 16 j = η 16 j := fun j => k4.1.2.2.2.1 16 _ (zinr_not (by decide +kernel))
    have fr16_1 : ∀ j, η1 16 j = η 16 j := v21
    have v22 : ∀ j, η2 16 j = η 16 j := fun j => (k5.1.2.2.2.1 16 _ (zinr_not (by decide +kernel))).trans (v21 j)
    have fr16_2 : ∀ j, η2 16 j = η 16 j := v22
    have v23 : ∀ j, η3 16 j = η 16 j := fun j => (k6.1.2.2.2.1 16 _ (zinr_not (by decide +kernel))).trans (v22 j)
    have fr16_3 : ∀ j, η3 16 j = η 16 j := v23
    have fr18_0 : ∀ j, η 18 j = η 18 j := fun _ => rfl
    have v24 : ∀ j, η1 18 j = η 18 j := fun j => k4.1.2.2.2.1 18 _ (zinr_not (by decide +kernel))
    have fr18_1 : ∀ j, η1 18 j = η 18 j := v24
    have v25 : ∀ j, η2 18 j = η 18 j := fun j => (k5.1.2.2.2.1 18 _ (zinr_not (by decide +kernel))).trans (v24 j)
    have fr18_2 : ∀ j, η2 18 j = η 18 j := v25
    have v26 : ∀ j, η3 18 j = η 18 j := fun j => (k6.1.2.2.2.1 18 _ (zinr_not (by decide +kernel))).trans (v25 j)
    have fr18_3 : ∀ j, η3 18 j = η 18 j := v26
    have f0_7 : η3 0 7 = η3 0 7 := rfl
    have f0_6 : η3 0 6 = η 0 6 := v17
    have f0_8 : η3 0 8 = η3 0 8 := rfl
    have f0_19 : η3 0 19 = η 0 19 := v19
    have f0_44 : η3 0 44 = η 0 44 := v20
    have qn4 : ¬ x4 = 0 → 10 * (η1 0 6 - η1 0 7) + η1 0 8 < 10 * (η 0 6 - η 0 7) + η 0 8 := k4.2.2
    have qs5 : ¬ x5 = 0 → η1 0 8 = 4 := k5.2.2
    have qt6 : ¬ η2 0 8 = 0 → 10 * (η3 0 6 - η3 0 7) + η3 0 8 < 10 * (η2 0 6 - η2 0 7) + η2 0 8 := k6.2.2
    have P3 : PL_n 6 η3 := zGk_fm2 plk_n (k5.2.1.2) k6.1.2.2.2.1 (by decide +kernel)
    exact ⟨k6.2.1.1, pl_d (P3) (by decide), fun _ => ⟨⟨k6.2.1, P3⟩, show 10 * (η3 0 6 - η3 0 7) + η3 0 8 < 10 * (η 0 6 - η 0 7) + η 0 8 by omega⟩⟩
  · have e1 : x1 = η 0 8 := e1
    have e2 : x2 = η 0 9 := e2
    have e3 : x3 = η 0 9 := e3
    have f3 : x2 = x3 := e2.trans e3.symm
    subst f3
    obtain ⟨a4, b4⟩ : x4 = (yq_grl η).1 ∧ η1 = (yq_grl η).2 := y4
    obtain ⟨a5, b5⟩ : x5 = (yq_isS 59 η1) ∧ η1 = η2 := ⟨y5.1, y5.2.symm⟩
    subst b5
    have b6 : η3 = (yq_tok η1) := y6
    show 1 = (yq_lnr η).1 ∧ η3 = (yq_lnr η).2
    simp only [yq_lnr, yq_le, yq_law, yq_lw1, yq_lw2, yq_no, ← e1, ← e2, ← a4, ← b4, ← a5, ← b6]
    all_goals (repeat (first | rw [if_pos (by omega)] | rw [if_neg (by omega)]))
    all_goals exact ⟨rfl, rfl⟩
set_option maxHeartbeats 8000000 in
theorem zne_lineRead_o39 {ro : Nat → List Int32} (η : zE) (hp : sP wl_ne zTr zPne_lineRead [] η) (hpp : pPne_lineRead [] η) : ∀ x1 : Int, x1 = η 0 (Int.toNat 8) → zok 0 x1 → (x1 = 1) → ∀ x2 : Int, x2 = η 0 (Int.toNat 9) → zok 0 x2 → (x2 ≤ 6) → ∀ x3 : Int, x3 = η 0 (Int.toNat 9) → zok 0 x3 → (x3 = 0) → ∀ (x4 : Int) (η1 : zE), ((gC2 wl_ne [(nat_lit 0, zPne_wrong, zOne_wrong, zMne_wrong), (nat_lit 1, zPne_isSign, zOne_isSign, zMne_isSign), (nat_lit 2, zPne_token1, zOne_token1, zMne_token1), (nat_lit 3, zPne_grooveLine, zOne_grooveLine, zMne_grooveLine), (nat_lit 4, zPne_scratLine, zOne_scratLine, zMne_scratLine), (nat_lit 5, zPne_guestLine, zOne_guestLine, zMne_guestLine), (nat_lit 6, zPne_onceLine0, zOne_onceLine0, zMne_onceLine0), (nat_lit 7, zPne_onceLine1, zOne_onceLine1, zMne_onceLine1), (nat_lit 8, zPne_onceLine2, zOne_onceLine2, zMne_onceLine2), (nat_lit 9, zPne_sumRead, zOne_sumRead, zMne_sumRead)] pCne_lineRead qCne_lineRead) 3).2 [] η x4 η1 → (¬ x4 = 0) → ∀ (x5 : Int) (η2 : zE), ((gC2 wl_ne [(nat_lit 0, zPne_wrong, zOne_wrong, zMne_wrong), (nat_lit 1, zPne_isSign, zOne_isSign, zMne_isSign), (nat_lit 2, zPne_token1, zOne_token1, zMne_token1), (nat_lit 3, zPne_grooveLine, zOne_grooveLine, zMne_grooveLine), (nat_lit 4, zPne_scratLine, zOne_scratLine, zMne_scratLine), (nat_lit 5, zPne_guestLine, zOne_guestLine, zMne_guestLine), (nat_lit 6, zPne_onceLine0, zOne_onceLine0, zMne_onceLine0), (nat_lit 7, zPne_onceLine1, zOne_onceLine1, zMne_onceLine1), (nat_lit 8, zPne_onceLine2, zOne_onceLine2, zMne_onceLine2), (nat_lit 9, zPne_sumRead, zOne_sumRead, zMne_sumRead)] pCne_lineRead qCne_lineRead) 1).2 [59] η1 x5 η2 → (x5 = 0) → ((gC2 wl_ne [(nat_lit 0, zPne_wrong, zOne_wrong, zMne_wrong), (nat_lit 1, zPne_isSign, zOne_isSign, zMne_isSign), (nat_lit 2, zPne_token1, zOne_token1, zMne_token1), (nat_lit 3, zPne_grooveLine, zOne_grooveLine, zMne_grooveLine), (nat_lit 4, zPne_scratLine, zOne_scratLine, zMne_scratLine), (nat_lit 5, zPne_guestLine, zOne_guestLine, zMne_guestLine), (nat_lit 6, zPne_onceLine0, zOne_onceLine0, zMne_onceLine0), (nat_lit 7, zPne_onceLine1, zOne_onceLine1, zMne_onceLine1), (nat_lit 8, zPne_onceLine2, zOne_onceLine2, zMne_onceLine2), (nat_lit 9, zPne_sumRead, zOne_sumRead, zMne_sumRead)] pCne_lineRead qCne_lineRead) 0).1 [1] η2 := by
  intro x1 e1 r1 c1 x2 e2 r2 c2 x3 e3 r3 c3 x4 η1 h4 c4 x5 η2 h5 c5
  have y4 : fQne_grooveLine [] η x4 η1 := h4.2.2
  have k4 : sQ wl_ne zTr zOne_grooveLine zMne_grooveLine [] η x4 η1 ∧ oQne_grooveLine [] η x4 η1 := ⟨h4.1, h4.2.1⟩
  have y5 : fQne_isSign [59] η1 x5 η2 := h5.2.2
  have k5 : sQ wl_ne zTr zOne_isSign zMne_isSign [59] η1 x5 η2 ∧ oQne_isSign [59] η1 x5 η2 := ⟨h5.1, h5.2.1⟩
  have w0_0_8 : (0 : Int) ≤ η 0 8 ∧ η 0 8 ≤ 6 := wf_ok (a := 8) (b := 8) (z := (0, 6)) hp.1 (by decide +kernel) (Nat.le_refl _) (Nat.le_refl _)
  replace e1 : x1 = η 0 8 := e1
  replace e2 : x2 = η 0 9 := e2
  replace r2 : -2147483648 ≤ x2 ∧ x2 ≤ 2147483647 := r2
  replace e3 : x3 = η 0 9 := e3
  replace r3 : -2147483648 ≤ x3 ∧ x3 ≤ 2147483647 := r3
  have w0_0_7 : (0 : Int) ≤ η 0 7 ∧ η 0 7 ≤ 700 := wf_ok (a := 7) (b := 7) (z := (0, 700)) hp.1 (by decide +kernel) (Nat.le_refl _) (Nat.le_refl _)
  have c0_0_7 : η 0 7 = η 0 7 := rfl
  have w0_0_6 : (0 : Int) ≤ η 0 6 ∧ η 0 6 ≤ 700 := wf_ok (a := 6) (b := 6) (z := (0, 700)) hp.1 (by decide +kernel) (Nat.le_refl _) (Nat.le_refl _)
  have c0_0_6 : η 0 6 = η 0 6 := rfl
  have c0_0_8 : η 0 8 = η 0 8 := rfl
  have w0_0_19 : (0 : Int) ≤ η 0 19 ∧ η 0 19 ≤ 64 := wf_ok (a := 19) (b := 19) (z := (0, 64)) hp.1 (by decide +kernel) (Nat.le_refl _) (Nat.le_refl _)
  have c0_0_19 : η 0 19 = η 0 19 := rfl
  have w0_0_44 : (0 : Int) ≤ η 0 44 ∧ η 0 44 ≤ 64 := wf_ok (a := 44) (b := 44) (z := (0, 64)) hp.1 (by decide +kernel) (Nat.le_refl _) (Nat.le_refl _)
  have c0_0_44 : η 0 44 = η 0 44 := rfl
  have bx4 : (0 : Int) ≤ x4 ∧ x4 ≤ 1 := k4.1.2.1
  have w1_0_7 : (0 : Int) ≤ η1 0 7 ∧ η1 0 7 ≤ 700 := wf_ok (a := 7) (b := 7) (z := (0, 700)) k4.1.1 (by decide +kernel) (Nat.le_refl _) (Nat.le_refl _)
  have d1_0_7 : η1 0 7 = η1 0 7 := rfl
  have v7 : zEq (η1 0 6) (η 0 6) := (k4.1.2.2.2.1 0 6 (by decide +kernel)).trans rfl
  have d1_0_6 : η1 0 6 = η 0 6 := v7
  have w1_0_8 : (0 : Int) ≤ η1 0 8 ∧ η1 0 8 ≤ 6 := wf_ok (a := 8) (b := 8) (z := (0, 6)) k4.1.1 (by decide +kernel) (Nat.le_refl _) (Nat.le_refl _)
  have d1_0_8 : η1 0 8 = η1 0 8 := rfl
  have v9 : zEq (η1 0 19) (η 0 19) := (k4.1.2.2.2.1 0 19 (by decide +kernel)).trans rfl
  have d1_0_19 : η1 0 19 = η 0 19 := v9
  have v10 : zEq (η1 0 44) (η 0 44) := (k4.1.2.2.2.1 0 44 (by decide +kernel)).trans rfl
  have d1_0_44 : η1 0 44 = η 0 44 := v10
  have c1_0_7 : η1 0 7 = η1 0 7 := rfl
  have c1_0_6 : η1 0 6 = η 0 6 := v7
  have c1_0_8 : η1 0 8 = η1 0 8 := rfl
  have c1_0_19 : η1 0 19 = η 0 19 := v9
  have c1_0_44 : η1 0 44 = η 0 44 := v10
  have bx5 : (0 : Int) ≤ x5 ∧ x5 ≤ 1 := k5.1.2.1
  have v11 : zEq (η2 0 7) (η1 0 7) := (k5.1.2.2.2.1 0 7 (by decide +kernel)).trans rfl
  have d2_0_7 : η2 0 7 = η1 0 7 := v11
  have v12 : zEq (η2 0 6) (η 0 6) := (k5.1.2.2.2.1 0 6 (by decide +kernel)).trans v7
  have d2_0_6 : η2 0 6 = η 0 6 := v12
  have v13 : zEq (η2 0 8) (η1 0 8) := (k5.1.2.2.2.1 0 8 (by decide +kernel)).trans rfl
  have d2_0_8 : η2 0 8 = η1 0 8 := v13
  have v14 : zEq (η2 0 19) (η 0 19) := (k5.1.2.2.2.1 0 19 (by decide +kernel)).trans v9
  have d2_0_19 : η2 0 19 = η 0 19 := v14
  have v15 : zEq (η2 0 44) (η 0 44) := (k5.1.2.2.2.1 0 44 (by decide +kernel)).trans v10
  have d2_0_44 : η2 0 44 = η 0 44 := v15
  have fr16_0 : ∀ j, η 16 j = η 16 j := fun _ => rfl
  have v16 : ∀ j, η1 16 j = η 16 j := fun j => k4.1.2.2.2.1 16 _ (zinr_not (by decide +kernel))
  have fr16_1 : ∀ j, η1 16 j = η 16 j := v16
  have v17 : ∀ j, η2 16 j = η 16 j := fun j => (k5.1.2.2.2.1 16 _ (zinr_not (by decide +kernel))).trans (v16 j)
  have fr16_2 : ∀ j, η2 16 j = η 16 j := v17
  have fr18_0 : ∀ j, η 18 j = η 18 j := fun _ => rfl
  have v18 : ∀ j, η1 18 j = η 18 j := fun j => k4.1.2.2.2.1 18 _ (zinr_not (by decide +kernel))
  have fr18_1 : ∀ j, η1 18 j = η 18 j := v18
  have v19 : ∀ j, η2 18 j = η 18 j := fun j => (k5.1.2.2.2.1 18 _ (zinr_not (by decide +kernel))).trans (v18 j)
  have fr18_2 : ∀ j, η2 18 j = η 18 j := v19
  have f0_7 : η2 0 7 = η1 0 7 := v11
  have f0_6 : η2 0 6 = η 0 6 := v12
  have f0_8 : η2 0 8 = η1 0 8 := v13
  have f0_19 : η2 0 19 = η 0 19 := v14
  have f0_44 : η2 0 44 = η 0 44 := v15
  have qn4 : ¬ x4 = 0 → 10 * (η1 0 6 - η1 0 7) + η1 0 8 < 10 * (η 0 6 - η 0 7) + η 0 8 := k4.2.2
  have qs5 : ¬ x5 = 0 → η1 0 8 = 4 := k5.2.2
  exact ⟨k5.2.1.1, k5.2.1.2⟩
set_option maxHeartbeats 8000000 in
theorem zne_lineRead_o40 {ro : Nat → List Int32} (η : zE) (hp : sP wl_ne zTr zPne_lineRead [] η) (hpp : pPne_lineRead [] η) : ∀ x1 : Int, x1 = η 0 (Int.toNat 8) → zok 0 x1 → (x1 = 1) → ∀ x2 : Int, x2 = η 0 (Int.toNat 9) → zok 0 x2 → (x2 ≤ 6) → ∀ x3 : Int, x3 = η 0 (Int.toNat 9) → zok 0 x3 → (x3 = 0) → ∀ (x4 : Int) (η1 : zE), ((gC2 wl_ne [(nat_lit 0, zPne_wrong, zOne_wrong, zMne_wrong), (nat_lit 1, zPne_isSign, zOne_isSign, zMne_isSign), (nat_lit 2, zPne_token1, zOne_token1, zMne_token1), (nat_lit 3, zPne_grooveLine, zOne_grooveLine, zMne_grooveLine), (nat_lit 4, zPne_scratLine, zOne_scratLine, zMne_scratLine), (nat_lit 5, zPne_guestLine, zOne_guestLine, zMne_guestLine), (nat_lit 6, zPne_onceLine0, zOne_onceLine0, zMne_onceLine0), (nat_lit 7, zPne_onceLine1, zOne_onceLine1, zMne_onceLine1), (nat_lit 8, zPne_onceLine2, zOne_onceLine2, zMne_onceLine2), (nat_lit 9, zPne_sumRead, zOne_sumRead, zMne_sumRead)] pCne_lineRead qCne_lineRead) 3).2 [] η x4 η1 → (¬ x4 = 0) → ∀ (x5 : Int) (η2 : zE), ((gC2 wl_ne [(nat_lit 0, zPne_wrong, zOne_wrong, zMne_wrong), (nat_lit 1, zPne_isSign, zOne_isSign, zMne_isSign), (nat_lit 2, zPne_token1, zOne_token1, zMne_token1), (nat_lit 3, zPne_grooveLine, zOne_grooveLine, zMne_grooveLine), (nat_lit 4, zPne_scratLine, zOne_scratLine, zMne_scratLine), (nat_lit 5, zPne_guestLine, zOne_guestLine, zMne_guestLine), (nat_lit 6, zPne_onceLine0, zOne_onceLine0, zMne_onceLine0), (nat_lit 7, zPne_onceLine1, zOne_onceLine1, zMne_onceLine1), (nat_lit 8, zPne_onceLine2, zOne_onceLine2, zMne_onceLine2), (nat_lit 9, zPne_sumRead, zOne_sumRead, zMne_sumRead)] pCne_lineRead qCne_lineRead) 1).2 [59] η1 x5 η2 → (x5 = 0) → ∀ (x6 : Int) (η3 : zE), ((gC2 wl_ne [(nat_lit 0, zPne_wrong, zOne_wrong, zMne_wrong), (nat_lit 1, zPne_isSign, zOne_isSign, zMne_isSign), (nat_lit 2, zPne_token1, zOne_token1, zMne_token1), (nat_lit 3, zPne_grooveLine, zOne_grooveLine, zMne_grooveLine), (nat_lit 4, zPne_scratLine, zOne_scratLine, zMne_scratLine), (nat_lit 5, zPne_guestLine, zOne_guestLine, zMne_guestLine), (nat_lit 6, zPne_onceLine0, zOne_onceLine0, zMne_onceLine0), (nat_lit 7, zPne_onceLine1, zOne_onceLine1, zMne_onceLine1), (nat_lit 8, zPne_onceLine2, zOne_onceLine2, zMne_onceLine2), (nat_lit 9, zPne_sumRead, zOne_sumRead, zMne_sumRead)] pCne_lineRead qCne_lineRead) 0).2 [1] η2 x6 η3 → (fun (_ : Nat) (y : Int) (η' : zE) => pQne_lineRead [] η y η') 0 x6 η3 := by
  intro x1 e1 r1 c1 x2 e2 r2 c2 x3 e3 r3 c3 x4 η1 h4 c4 x5 η2 h5 c5 x6 η3 h6
  have y4 : fQne_grooveLine [] η x4 η1 := h4.2.2
  have k4 : sQ wl_ne zTr zOne_grooveLine zMne_grooveLine [] η x4 η1 ∧ oQne_grooveLine [] η x4 η1 := ⟨h4.1, h4.2.1⟩
  have y5 : fQne_isSign [59] η1 x5 η2 := h5.2.2
  have k5 : sQ wl_ne zTr zOne_isSign zMne_isSign [59] η1 x5 η2 ∧ oQne_isSign [59] η1 x5 η2 := ⟨h5.1, h5.2.1⟩
  have y6 : fQne_wrong [1] η2 x6 η3 := h6.2.2
  have k6 : sQ wl_ne zTr zOne_wrong zMne_wrong [1] η2 x6 η3 ∧ oQne_wrong [1] η2 x6 η3 := ⟨h6.1, h6.2.1⟩
  refine yj_a ?_ ?_
  · have y4 : fQne_grooveLine [] η x4 η1 := h4.2.2
    have k4 : sQ wl_ne zTr zOne_grooveLine zMne_grooveLine [] η x4 η1 ∧ oQne_grooveLine [] η x4 η1 := ⟨h4.1, h4.2.1⟩
    have y5 : fQne_isSign [59] η1 x5 η2 := h5.2.2
    have k5 : sQ wl_ne zTr zOne_isSign zMne_isSign [59] η1 x5 η2 ∧ oQne_isSign [59] η1 x5 η2 := ⟨h5.1, h5.2.1⟩
    have y6 : fQne_wrong [1] η2 x6 η3 := h6.2.2
    have k6 : sQ wl_ne zTr zOne_wrong zMne_wrong [1] η2 x6 η3 ∧ oQne_wrong [1] η2 x6 η3 := ⟨h6.1, h6.2.1⟩
    have w0_0_8 : (0 : Int) ≤ η 0 8 ∧ η 0 8 ≤ 6 := wf_ok (a := 8) (b := 8) (z := (0, 6)) hp.1 (by decide +kernel) (Nat.le_refl _) (Nat.le_refl _)
    replace e1 : x1 = η 0 8 := e1
    replace e2 : x2 = η 0 9 := e2
    replace r2 : -2147483648 ≤ x2 ∧ x2 ≤ 2147483647 := r2
    replace e3 : x3 = η 0 9 := e3
    replace r3 : -2147483648 ≤ x3 ∧ x3 ≤ 2147483647 := r3
    have w0_0_7 : (0 : Int) ≤ η 0 7 ∧ η 0 7 ≤ 700 := wf_ok (a := 7) (b := 7) (z := (0, 700)) hp.1 (by decide +kernel) (Nat.le_refl _) (Nat.le_refl _)
    have c0_0_7 : η 0 7 = η 0 7 := rfl
    have w0_0_6 : (0 : Int) ≤ η 0 6 ∧ η 0 6 ≤ 700 := wf_ok (a := 6) (b := 6) (z := (0, 700)) hp.1 (by decide +kernel) (Nat.le_refl _) (Nat.le_refl _)
    have c0_0_6 : η 0 6 = η 0 6 := rfl
    have c0_0_8 : η 0 8 = η 0 8 := rfl
    have w0_0_19 : (0 : Int) ≤ η 0 19 ∧ η 0 19 ≤ 64 := wf_ok (a := 19) (b := 19) (z := (0, 64)) hp.1 (by decide +kernel) (Nat.le_refl _) (Nat.le_refl _)
    have c0_0_19 : η 0 19 = η 0 19 := rfl
    have w0_0_44 : (0 : Int) ≤ η 0 44 ∧ η 0 44 ≤ 64 := wf_ok (a := 44) (b := 44) (z := (0, 64)) hp.1 (by decide +kernel) (Nat.le_refl _) (Nat.le_refl _)
    have c0_0_44 : η 0 44 = η 0 44 := rfl
    have bx4 : (0 : Int) ≤ x4 ∧ x4 ≤ 1 := k4.1.2.1
    have w1_0_7 : (0 : Int) ≤ η1 0 7 ∧ η1 0 7 ≤ 700 := wf_ok (a := 7) (b := 7) (z := (0, 700)) k4.1.1 (by decide +kernel) (Nat.le_refl _) (Nat.le_refl _)
    have d1_0_7 : η1 0 7 = η1 0 7 := rfl
    have v7 : zEq (η1 0 6) (η 0 6) := (k4.1.2.2.2.1 0 6 (by decide +kernel)).trans rfl
    have d1_0_6 : η1 0 6 = η 0 6 := v7
    have w1_0_8 : (0 : Int) ≤ η1 0 8 ∧ η1 0 8 ≤ 6 := wf_ok (a := 8) (b := 8) (z := (0, 6)) k4.1.1 (by decide +kernel) (Nat.le_refl _) (Nat.le_refl _)
    have d1_0_8 : η1 0 8 = η1 0 8 := rfl
    have v9 : zEq (η1 0 19) (η 0 19) := (k4.1.2.2.2.1 0 19 (by decide +kernel)).trans rfl
    have d1_0_19 : η1 0 19 = η 0 19 := v9
    have v10 : zEq (η1 0 44) (η 0 44) := (k4.1.2.2.2.1 0 44 (by decide +kernel)).trans rfl
    have d1_0_44 : η1 0 44 = η 0 44 := v10
    have c1_0_7 : η1 0 7 = η1 0 7 := rfl
    have c1_0_6 : η1 0 6 = η 0 6 := v7
    have c1_0_8 : η1 0 8 = η1 0 8 := rfl
    have c1_0_19 : η1 0 19 = η 0 19 := v9
    have c1_0_44 : η1 0 44 = η 0 44 := v10
    have bx5 : (0 : Int) ≤ x5 ∧ x5 ≤ 1 := k5.1.2.1
    have v11 : zEq (η2 0 7) (η1 0 7) := (k5.1.2.2.2.1 0 7 (by decide +kernel)).trans rfl
    have d2_0_7 : η2 0 7 = η1 0 7 := v11
    have v12 : zEq (η2 0 6) (η 0 6) := (k5.1.2.2.2.1 0 6 (by decide +kernel)).trans v7
    have d2_0_6 : η2 0 6 = η 0 6 := v12
    have v13 : zEq (η2 0 8) (η1 0 8) := (k5.1.2.2.2.1 0 8 (by decide +kernel)).trans rfl
    have d2_0_8 : η2 0 8 = η1 0 8 := v13
    have v14 : zEq (η2 0 19) (η 0 19) := (k5.1.2.2.2.1 0 19 (by decide +kernel)).trans v9
    have d2_0_19 : η2 0 19 = η 0 19 := v14
    have v15 : zEq (η2 0 44) (η 0 44) := (k5.1.2.2.2.1 0 44 (by decide +kernel)).trans v10
    have d2_0_44 : η2 0 44 = η 0 44 := v15
    have c2_0_7 : η2 0 7 = η1 0 7 := v11
    have c2_0_6 : η2 0 6 = η 0 6 := v12
    have c2_0_8 : η2 0 8 = η1 0 8 := v13
    have c2_0_19 : η2 0 19 = η 0 19 := v14
    have c2_0_44 : η2 0 44 = η 0 44 := v15
    have bx6 : (0 : Int) ≤ x6 ∧ x6 ≤ 0 := k6.1.2.1
    have v16 : zEq (η3 0 7) (η1 0 7) := (k6.1.2.2.2.1 0 7 (by decide +kernel)).trans v11
    have d3_0_7 : η3 0 7 = η1 0 7 := v16
    have v17 : zEq (η3 0 6) (η 0 6) := (k6.1.2.2.2.1 0 6 (by decide +kernel)).trans v12
    have d3_0_6 : η3 0 6 = η 0 6 := v17
    have v18 : zEq (η3 0 8) (η1 0 8) := (k6.1.2.2.2.1 0 8 (by decide +kernel)).trans v13
    have d3_0_8 : η3 0 8 = η1 0 8 := v18
    have v19 : zEq (η3 0 19) (η 0 19) := (k6.1.2.2.2.1 0 19 (by decide +kernel)).trans v14
    have d3_0_19 : η3 0 19 = η 0 19 := v19
    have v20 : zEq (η3 0 44) (η 0 44) := (k6.1.2.2.2.1 0 44 (by decide +kernel)).trans v15
    have d3_0_44 : η3 0 44 = η 0 44 := v20
    have fr16_0 : ∀ j, η 16 j = η 16 j := fun _ => rfl
    have v21 : ∀ j, η1 16 j = η 16 j := fun j => k4.1.2.2.2.1 16 _ (zinr_not (by decide +kernel))
    have fr16_1 : ∀ j, η1 16 j = η 16 j := v21
    have v22 : ∀ j, η2 16 j = η 16 j := fun j => (k5.1.2.2.2.1 16 _ (zinr_not (by decide +kernel))).trans (v21 j)
    have fr16_2 : ∀ j, η2 16 j = η 16 j := v22
    have v23 : ∀ j, η3 16 j = η 16 j := fun j => (k6.1.2.2.2.1 16 _ (zinr_not (by decide +kernel))).trans (v22 j)
    have fr16_3 : ∀ j, η3 16 j = η 16 j := v23
    have fr18_0 : ∀ j, η 18 j = η 18 j := fun _ => rfl
    have v24 : ∀ j, η1 18 j = η 18 j := fun j => k4.1.2.2.2.1 18 _ (zinr_not (by decide +kernel))
    have fr18_1 : ∀ j, η1 18 j = η 18 j := v24
    have v25 : ∀ j, η2 18 j = η 18 j := fun j => (k5.1.2.2.2.1 18 _ (zinr_not (by decide +kernel))).trans (v24 j)
    have fr18_2 : ∀ j, η2 18 j = η 18 j := v25
    have v26 : ∀ j, η3 18 j = η 18 j := fun j => (k6.1.2.2.2.1 18 _ (zinr_not (by decide +kernel))).trans (v25 j)
    have fr18_3 : ∀ j, η3 18 j = η 18 j := v26
    have f0_7 : η3 0 7 = η1 0 7 := v16
    have f0_6 : η3 0 6 = η 0 6 := v17
    have f0_8 : η3 0 8 = η1 0 8 := v18
    have f0_19 : η3 0 19 = η 0 19 := v19
    have f0_44 : η3 0 44 = η 0 44 := v20
    have qn4 : ¬ x4 = 0 → 10 * (η1 0 6 - η1 0 7) + η1 0 8 < 10 * (η 0 6 - η 0 7) + η 0 8 := k4.2.2
    have qs5 : ¬ x5 = 0 → η1 0 8 = 4 := k5.2.2
    exact ⟨k6.2.1.1, pl_d (k6.2.2) (by decide), fun w => absurd (show (x6 : Int) = 0 by apply Int.le_antisymm <;> omega) w⟩
  · have e1 : x1 = η 0 8 := e1
    have e2 : x2 = η 0 9 := e2
    have e3 : x3 = η 0 9 := e3
    have f3 : x2 = x3 := e2.trans e3.symm
    subst f3
    obtain ⟨a4, b4⟩ : x4 = (yq_grl η).1 ∧ η1 = (yq_grl η).2 := y4
    obtain ⟨a5, b5⟩ : x5 = (yq_isS 59 η1) ∧ η1 = η2 := ⟨y5.1, y5.2.symm⟩
    subst b5
    obtain ⟨a6, b6⟩ : x6 = 0 ∧ η3 = (yq_wr 1 η1) := y6
    show x6 = (yq_lnr η).1 ∧ η3 = (yq_lnr η).2
    simp only [yq_lnr, yq_le, yq_law, yq_lw1, yq_lw2, yq_no, ← e1, ← e2, ← a4, ← b4, ← a5, ← b6, a6]
    all_goals (repeat (first | rw [if_pos (by omega)] | rw [if_neg (by omega)]))
    all_goals exact ⟨rfl, rfl⟩
set_option maxHeartbeats 8000000 in
theorem zne_lineRead_o41 {ro : Nat → List Int32} (η : zE) (hp : sP wl_ne zTr zPne_lineRead [] η) (hpp : pPne_lineRead [] η) : ∀ x1 : Int, x1 = η 0 (Int.toNat 8) → zok 0 x1 → (x1 = 1) → ∀ x2 : Int, x2 = η 0 (Int.toNat 9) → zok 0 x2 → (x2 ≤ 6) → ∀ x3 : Int, x3 = η 0 (Int.toNat 9) → zok 0 x3 → (x3 = 0) → ∀ (x4 : Int) (η1 : zE), ((gC2 wl_ne [(nat_lit 0, zPne_wrong, zOne_wrong, zMne_wrong), (nat_lit 1, zPne_isSign, zOne_isSign, zMne_isSign), (nat_lit 2, zPne_token1, zOne_token1, zMne_token1), (nat_lit 3, zPne_grooveLine, zOne_grooveLine, zMne_grooveLine), (nat_lit 4, zPne_scratLine, zOne_scratLine, zMne_scratLine), (nat_lit 5, zPne_guestLine, zOne_guestLine, zMne_guestLine), (nat_lit 6, zPne_onceLine0, zOne_onceLine0, zMne_onceLine0), (nat_lit 7, zPne_onceLine1, zOne_onceLine1, zMne_onceLine1), (nat_lit 8, zPne_onceLine2, zOne_onceLine2, zMne_onceLine2), (nat_lit 9, zPne_sumRead, zOne_sumRead, zMne_sumRead)] pCne_lineRead qCne_lineRead) 3).2 [] η x4 η1 → (x4 = 0) → (fun (_ : Nat) (y : Int) (η' : zE) => pQne_lineRead [] η y η') 0 0 η1 := by
  intro x1 e1 r1 c1 x2 e2 r2 c2 x3 e3 r3 c3 x4 η1 h4 c4
  have y4 : fQne_grooveLine [] η x4 η1 := h4.2.2
  have k4 : sQ wl_ne zTr zOne_grooveLine zMne_grooveLine [] η x4 η1 ∧ oQne_grooveLine [] η x4 η1 := ⟨h4.1, h4.2.1⟩
  refine yj_a ?_ ?_
  · have y4 : fQne_grooveLine [] η x4 η1 := h4.2.2
    have k4 : sQ wl_ne zTr zOne_grooveLine zMne_grooveLine [] η x4 η1 ∧ oQne_grooveLine [] η x4 η1 := ⟨h4.1, h4.2.1⟩
    have w0_0_8 : (0 : Int) ≤ η 0 8 ∧ η 0 8 ≤ 6 := wf_ok (a := 8) (b := 8) (z := (0, 6)) hp.1 (by decide +kernel) (Nat.le_refl _) (Nat.le_refl _)
    replace e1 : x1 = η 0 8 := e1
    replace e2 : x2 = η 0 9 := e2
    replace r2 : -2147483648 ≤ x2 ∧ x2 ≤ 2147483647 := r2
    replace e3 : x3 = η 0 9 := e3
    replace r3 : -2147483648 ≤ x3 ∧ x3 ≤ 2147483647 := r3
    have w0_0_7 : (0 : Int) ≤ η 0 7 ∧ η 0 7 ≤ 700 := wf_ok (a := 7) (b := 7) (z := (0, 700)) hp.1 (by decide +kernel) (Nat.le_refl _) (Nat.le_refl _)
    have c0_0_7 : η 0 7 = η 0 7 := rfl
    have w0_0_6 : (0 : Int) ≤ η 0 6 ∧ η 0 6 ≤ 700 := wf_ok (a := 6) (b := 6) (z := (0, 700)) hp.1 (by decide +kernel) (Nat.le_refl _) (Nat.le_refl _)
    have c0_0_6 : η 0 6 = η 0 6 := rfl
    have c0_0_8 : η 0 8 = η 0 8 := rfl
    have w0_0_19 : (0 : Int) ≤ η 0 19 ∧ η 0 19 ≤ 64 := wf_ok (a := 19) (b := 19) (z := (0, 64)) hp.1 (by decide +kernel) (Nat.le_refl _) (Nat.le_refl _)
    have c0_0_19 : η 0 19 = η 0 19 := rfl
    have w0_0_44 : (0 : Int) ≤ η 0 44 ∧ η 0 44 ≤ 64 := wf_ok (a := 44) (b := 44) (z := (0, 64)) hp.1 (by decide +kernel) (Nat.le_refl _) (Nat.le_refl _)
    have c0_0_44 : η 0 44 = η 0 44 := rfl
    have bx4 : (0 : Int) ≤ x4 ∧ x4 ≤ 1 := k4.1.2.1
    have w1_0_7 : (0 : Int) ≤ η1 0 7 ∧ η1 0 7 ≤ 700 := wf_ok (a := 7) (b := 7) (z := (0, 700)) k4.1.1 (by decide +kernel) (Nat.le_refl _) (Nat.le_refl _)
    have d1_0_7 : η1 0 7 = η1 0 7 := rfl
    have v7 : zEq (η1 0 6) (η 0 6) := (k4.1.2.2.2.1 0 6 (by decide +kernel)).trans rfl
    have d1_0_6 : η1 0 6 = η 0 6 := v7
    have w1_0_8 : (0 : Int) ≤ η1 0 8 ∧ η1 0 8 ≤ 6 := wf_ok (a := 8) (b := 8) (z := (0, 6)) k4.1.1 (by decide +kernel) (Nat.le_refl _) (Nat.le_refl _)
    have d1_0_8 : η1 0 8 = η1 0 8 := rfl
    have v9 : zEq (η1 0 19) (η 0 19) := (k4.1.2.2.2.1 0 19 (by decide +kernel)).trans rfl
    have d1_0_19 : η1 0 19 = η 0 19 := v9
    have v10 : zEq (η1 0 44) (η 0 44) := (k4.1.2.2.2.1 0 44 (by decide +kernel)).trans rfl
    have d1_0_44 : η1 0 44 = η 0 44 := v10
    have fr16_0 : ∀ j, η 16 j = η 16 j := fun _ => rfl
    have v11 : ∀ j, η1 16 j = η 16 j := fun j => k4.1.2.2.2.1 16 _ (zinr_not (by decide +kernel))
    have fr16_1 : ∀ j, η1 16 j = η 16 j := v11
    have fr18_0 : ∀ j, η 18 j = η 18 j := fun _ => rfl
    have v12 : ∀ j, η1 18 j = η 18 j := fun j => k4.1.2.2.2.1 18 _ (zinr_not (by decide +kernel))
    have fr18_1 : ∀ j, η1 18 j = η 18 j := v12
    have f0_7 : η1 0 7 = η1 0 7 := rfl
    have f0_6 : η1 0 6 = η 0 6 := v7
    have f0_8 : η1 0 8 = η1 0 8 := rfl
    have f0_19 : η1 0 19 = η 0 19 := v9
    have f0_44 : η1 0 44 = η 0 44 := v10
    have qn4 : ¬ x4 = 0 → 10 * (η1 0 6 - η1 0 7) + η1 0 8 < 10 * (η 0 6 - η 0 7) + η 0 8 := k4.2.2
    exact ⟨k4.2.1.1.1, pl_d (k4.2.1.2) (by decide), fun w => absurd (show (0 : Int) = 0 by apply Int.le_antisymm <;> omega) w⟩
  · have e1 : x1 = η 0 8 := e1
    have e2 : x2 = η 0 9 := e2
    have e3 : x3 = η 0 9 := e3
    have f3 : x2 = x3 := e2.trans e3.symm
    subst f3
    obtain ⟨a4, b4⟩ : x4 = (yq_grl η).1 ∧ η1 = (yq_grl η).2 := y4
    show 0 = (yq_lnr η).1 ∧ η1 = (yq_lnr η).2
    simp only [yq_lnr, yq_le, yq_law, yq_lw1, yq_lw2, yq_no, ← e1, ← e2, ← a4, ← b4]
    all_goals (repeat (first | rw [if_pos (by omega)] | rw [if_neg (by omega)]))
    all_goals exact ⟨rfl, rfl⟩
set_option maxHeartbeats 8000000 in
theorem zne_lineRead_o42 {ro : Nat → List Int32} (η : zE) (hp : sP wl_ne zTr zPne_lineRead [] η) (hpp : pPne_lineRead [] η) : ∀ x1 : Int, x1 = η 0 (Int.toNat 8) → zok 0 x1 → (x1 = 1) → ∀ x2 : Int, x2 = η 0 (Int.toNat 9) → zok 0 x2 → (x2 ≤ 6) → ∀ x3 : Int, x3 = η 0 (Int.toNat 9) → zok 0 x3 → (x3 = 1) → ((gC2 wl_ne [(nat_lit 0, zPne_wrong, zOne_wrong, zMne_wrong), (nat_lit 1, zPne_isSign, zOne_isSign, zMne_isSign), (nat_lit 2, zPne_token1, zOne_token1, zMne_token1), (nat_lit 3, zPne_grooveLine, zOne_grooveLine, zMne_grooveLine), (nat_lit 4, zPne_scratLine, zOne_scratLine, zMne_scratLine), (nat_lit 5, zPne_guestLine, zOne_guestLine, zMne_guestLine), (nat_lit 6, zPne_onceLine0, zOne_onceLine0, zMne_onceLine0), (nat_lit 7, zPne_onceLine1, zOne_onceLine1, zMne_onceLine1), (nat_lit 8, zPne_onceLine2, zOne_onceLine2, zMne_onceLine2), (nat_lit 9, zPne_sumRead, zOne_sumRead, zMne_sumRead)] pCne_lineRead qCne_lineRead) 4).1 [] η := by
  intro x1 e1 r1 c1 x2 e2 r2 c2 x3 e3 r3 c3
  have w0_0_8 : (0 : Int) ≤ η 0 8 ∧ η 0 8 ≤ 6 := wf_ok (a := 8) (b := 8) (z := (0, 6)) hp.1 (by decide +kernel) (Nat.le_refl _) (Nat.le_refl _)
  replace e1 : x1 = η 0 8 := e1
  replace e2 : x2 = η 0 9 := e2
  replace r2 : -2147483648 ≤ x2 ∧ x2 ≤ 2147483647 := r2
  replace e3 : x3 = η 0 9 := e3
  replace r3 : -2147483648 ≤ x3 ∧ x3 ≤ 2147483647 := r3
  have fr16_0 : ∀ j, η 16 j = η 16 j := fun _ => rfl
  have fr18_0 : ∀ j, η 18 j = η 18 j := fun _ => rfl
  have w0_0_7 : (0 : Int) ≤ η 0 7 ∧ η 0 7 ≤ 700 := wf_ok (a := 7) (b := 7) (z := (0, 700)) hp.1 (by decide +kernel) (Nat.le_refl _) (Nat.le_refl _)
  have f0_7 : η 0 7 = η 0 7 := rfl
  have w0_0_6 : (0 : Int) ≤ η 0 6 ∧ η 0 6 ≤ 700 := wf_ok (a := 6) (b := 6) (z := (0, 700)) hp.1 (by decide +kernel) (Nat.le_refl _) (Nat.le_refl _)
  have f0_6 : η 0 6 = η 0 6 := rfl
  have f0_8 : η 0 8 = η 0 8 := rfl
  have w0_0_19 : (0 : Int) ≤ η 0 19 ∧ η 0 19 ≤ 64 := wf_ok (a := 19) (b := 19) (z := (0, 64)) hp.1 (by decide +kernel) (Nat.le_refl _) (Nat.le_refl _)
  have f0_19 : η 0 19 = η 0 19 := rfl
  have w0_0_44 : (0 : Int) ≤ η 0 44 ∧ η 0 44 ≤ 64 := wf_ok (a := 44) (b := 44) (z := (0, 64)) hp.1 (by decide +kernel) (Nat.le_refl _) (Nat.le_refl _)
  have f0_44 : η 0 44 = η 0 44 := rfl
  exact ⟨⟨hpp.1, hpp.2⟩, show ¬ η 0 8 = 0 by omega⟩
set_option maxHeartbeats 8000000 in
theorem zne_lineRead_o43 {ro : Nat → List Int32} (η : zE) (hp : sP wl_ne zTr zPne_lineRead [] η) (hpp : pPne_lineRead [] η) : ∀ x1 : Int, x1 = η 0 (Int.toNat 8) → zok 0 x1 → (x1 = 1) → ∀ x2 : Int, x2 = η 0 (Int.toNat 9) → zok 0 x2 → (x2 ≤ 6) → ∀ x3 : Int, x3 = η 0 (Int.toNat 9) → zok 0 x3 → (x3 = 1) → ∀ (x4 : Int) (η1 : zE), ((gC2 wl_ne [(nat_lit 0, zPne_wrong, zOne_wrong, zMne_wrong), (nat_lit 1, zPne_isSign, zOne_isSign, zMne_isSign), (nat_lit 2, zPne_token1, zOne_token1, zMne_token1), (nat_lit 3, zPne_grooveLine, zOne_grooveLine, zMne_grooveLine), (nat_lit 4, zPne_scratLine, zOne_scratLine, zMne_scratLine), (nat_lit 5, zPne_guestLine, zOne_guestLine, zMne_guestLine), (nat_lit 6, zPne_onceLine0, zOne_onceLine0, zMne_onceLine0), (nat_lit 7, zPne_onceLine1, zOne_onceLine1, zMne_onceLine1), (nat_lit 8, zPne_onceLine2, zOne_onceLine2, zMne_onceLine2), (nat_lit 9, zPne_sumRead, zOne_sumRead, zMne_sumRead)] pCne_lineRead qCne_lineRead) 4).2 [] η x4 η1 → (¬ x4 = 0) → ((gC2 wl_ne [(nat_lit 0, zPne_wrong, zOne_wrong, zMne_wrong), (nat_lit 1, zPne_isSign, zOne_isSign, zMne_isSign), (nat_lit 2, zPne_token1, zOne_token1, zMne_token1), (nat_lit 3, zPne_grooveLine, zOne_grooveLine, zMne_grooveLine), (nat_lit 4, zPne_scratLine, zOne_scratLine, zMne_scratLine), (nat_lit 5, zPne_guestLine, zOne_guestLine, zMne_guestLine), (nat_lit 6, zPne_onceLine0, zOne_onceLine0, zMne_onceLine0), (nat_lit 7, zPne_onceLine1, zOne_onceLine1, zMne_onceLine1), (nat_lit 8, zPne_onceLine2, zOne_onceLine2, zMne_onceLine2), (nat_lit 9, zPne_sumRead, zOne_sumRead, zMne_sumRead)] pCne_lineRead qCne_lineRead) 1).1 [59] η1 := by
  intro x1 e1 r1 c1 x2 e2 r2 c2 x3 e3 r3 c3 x4 η1 h4 c4
  have y4 : fQne_scratLine [] η x4 η1 := h4.2.2
  have k4 : sQ wl_ne zTr zOne_scratLine zMne_scratLine [] η x4 η1 ∧ oQne_scratLine [] η x4 η1 := ⟨h4.1, h4.2.1⟩
  have w0_0_8 : (0 : Int) ≤ η 0 8 ∧ η 0 8 ≤ 6 := wf_ok (a := 8) (b := 8) (z := (0, 6)) hp.1 (by decide +kernel) (Nat.le_refl _) (Nat.le_refl _)
  replace e1 : x1 = η 0 8 := e1
  replace e2 : x2 = η 0 9 := e2
  replace r2 : -2147483648 ≤ x2 ∧ x2 ≤ 2147483647 := r2
  replace e3 : x3 = η 0 9 := e3
  replace r3 : -2147483648 ≤ x3 ∧ x3 ≤ 2147483647 := r3
  have w0_0_7 : (0 : Int) ≤ η 0 7 ∧ η 0 7 ≤ 700 := wf_ok (a := 7) (b := 7) (z := (0, 700)) hp.1 (by decide +kernel) (Nat.le_refl _) (Nat.le_refl _)
  have c0_0_7 : η 0 7 = η 0 7 := rfl
  have w0_0_6 : (0 : Int) ≤ η 0 6 ∧ η 0 6 ≤ 700 := wf_ok (a := 6) (b := 6) (z := (0, 700)) hp.1 (by decide +kernel) (Nat.le_refl _) (Nat.le_refl _)
  have c0_0_6 : η 0 6 = η 0 6 := rfl
  have c0_0_8 : η 0 8 = η 0 8 := rfl
  have w0_0_19 : (0 : Int) ≤ η 0 19 ∧ η 0 19 ≤ 64 := wf_ok (a := 19) (b := 19) (z := (0, 64)) hp.1 (by decide +kernel) (Nat.le_refl _) (Nat.le_refl _)
  have c0_0_19 : η 0 19 = η 0 19 := rfl
  have w0_0_44 : (0 : Int) ≤ η 0 44 ∧ η 0 44 ≤ 64 := wf_ok (a := 44) (b := 44) (z := (0, 64)) hp.1 (by decide +kernel) (Nat.le_refl _) (Nat.le_refl _)
  have c0_0_44 : η 0 44 = η 0 44 := rfl
  have bx4 : (0 : Int) ≤ x4 ∧ x4 ≤ 1 := k4.1.2.1
  have w1_0_7 : (0 : Int) ≤ η1 0 7 ∧ η1 0 7 ≤ 700 := wf_ok (a := 7) (b := 7) (z := (0, 700)) k4.1.1 (by decide +kernel) (Nat.le_refl _) (Nat.le_refl _)
  have d1_0_7 : η1 0 7 = η1 0 7 := rfl
  have v7 : zEq (η1 0 6) (η 0 6) := (k4.1.2.2.2.1 0 6 (by decide +kernel)).trans rfl
  have d1_0_6 : η1 0 6 = η 0 6 := v7
  have w1_0_8 : (0 : Int) ≤ η1 0 8 ∧ η1 0 8 ≤ 6 := wf_ok (a := 8) (b := 8) (z := (0, 6)) k4.1.1 (by decide +kernel) (Nat.le_refl _) (Nat.le_refl _)
  have d1_0_8 : η1 0 8 = η1 0 8 := rfl
  have v9 : zEq (η1 0 19) (η 0 19) := (k4.1.2.2.2.1 0 19 (by decide +kernel)).trans rfl
  have d1_0_19 : η1 0 19 = η 0 19 := v9
  have v10 : zEq (η1 0 44) (η 0 44) := (k4.1.2.2.2.1 0 44 (by decide +kernel)).trans rfl
  have d1_0_44 : η1 0 44 = η 0 44 := v10
  have fr16_0 : ∀ j, η 16 j = η 16 j := fun _ => rfl
  have v11 : ∀ j, η1 16 j = η 16 j := fun j => k4.1.2.2.2.1 16 _ (zinr_not (by decide +kernel))
  have fr16_1 : ∀ j, η1 16 j = η 16 j := v11
  have fr18_0 : ∀ j, η 18 j = η 18 j := fun _ => rfl
  have v12 : ∀ j, η1 18 j = η 18 j := fun j => k4.1.2.2.2.1 18 _ (zinr_not (by decide +kernel))
  have fr18_1 : ∀ j, η1 18 j = η 18 j := v12
  have f0_7 : η1 0 7 = η1 0 7 := rfl
  have f0_6 : η1 0 6 = η 0 6 := v7
  have f0_8 : η1 0 8 = η1 0 8 := rfl
  have f0_19 : η1 0 19 = η 0 19 := v9
  have f0_44 : η1 0 44 = η 0 44 := v10
  have qn4 : ¬ x4 = 0 → 10 * (η1 0 6 - η1 0 7) + η1 0 8 < 10 * (η 0 6 - η 0 7) + η 0 8 := k4.2.2
  exact ⟨k4.2.1.1, k4.2.1.2⟩
set_option maxHeartbeats 8000000 in
theorem zne_lineRead_o44 {ro : Nat → List Int32} (η : zE) (hp : sP wl_ne zTr zPne_lineRead [] η) (hpp : pPne_lineRead [] η) : ∀ x1 : Int, x1 = η 0 (Int.toNat 8) → zok 0 x1 → (x1 = 1) → ∀ x2 : Int, x2 = η 0 (Int.toNat 9) → zok 0 x2 → (x2 ≤ 6) → ∀ x3 : Int, x3 = η 0 (Int.toNat 9) → zok 0 x3 → (x3 = 1) → ∀ (x4 : Int) (η1 : zE), ((gC2 wl_ne [(nat_lit 0, zPne_wrong, zOne_wrong, zMne_wrong), (nat_lit 1, zPne_isSign, zOne_isSign, zMne_isSign), (nat_lit 2, zPne_token1, zOne_token1, zMne_token1), (nat_lit 3, zPne_grooveLine, zOne_grooveLine, zMne_grooveLine), (nat_lit 4, zPne_scratLine, zOne_scratLine, zMne_scratLine), (nat_lit 5, zPne_guestLine, zOne_guestLine, zMne_guestLine), (nat_lit 6, zPne_onceLine0, zOne_onceLine0, zMne_onceLine0), (nat_lit 7, zPne_onceLine1, zOne_onceLine1, zMne_onceLine1), (nat_lit 8, zPne_onceLine2, zOne_onceLine2, zMne_onceLine2), (nat_lit 9, zPne_sumRead, zOne_sumRead, zMne_sumRead)] pCne_lineRead qCne_lineRead) 4).2 [] η x4 η1 → (¬ x4 = 0) → ∀ (x5 : Int) (η2 : zE), ((gC2 wl_ne [(nat_lit 0, zPne_wrong, zOne_wrong, zMne_wrong), (nat_lit 1, zPne_isSign, zOne_isSign, zMne_isSign), (nat_lit 2, zPne_token1, zOne_token1, zMne_token1), (nat_lit 3, zPne_grooveLine, zOne_grooveLine, zMne_grooveLine), (nat_lit 4, zPne_scratLine, zOne_scratLine, zMne_scratLine), (nat_lit 5, zPne_guestLine, zOne_guestLine, zMne_guestLine), (nat_lit 6, zPne_onceLine0, zOne_onceLine0, zMne_onceLine0), (nat_lit 7, zPne_onceLine1, zOne_onceLine1, zMne_onceLine1), (nat_lit 8, zPne_onceLine2, zOne_onceLine2, zMne_onceLine2), (nat_lit 9, zPne_sumRead, zOne_sumRead, zMne_sumRead)] pCne_lineRead qCne_lineRead) 1).2 [59] η1 x5 η2 → (¬ x5 = 0) → ((gC2 wl_ne [(nat_lit 0, zPne_wrong, zOne_wrong, zMne_wrong), (nat_lit 1, zPne_isSign, zOne_isSign, zMne_isSign), (nat_lit 2, zPne_token1, zOne_token1, zMne_token1), (nat_lit 3, zPne_grooveLine, zOne_grooveLine, zMne_grooveLine), (nat_lit 4, zPne_scratLine, zOne_scratLine, zMne_scratLine), (nat_lit 5, zPne_guestLine, zOne_guestLine, zMne_guestLine), (nat_lit 6, zPne_onceLine0, zOne_onceLine0, zMne_onceLine0), (nat_lit 7, zPne_onceLine1, zOne_onceLine1, zMne_onceLine1), (nat_lit 8, zPne_onceLine2, zOne_onceLine2, zMne_onceLine2), (nat_lit 9, zPne_sumRead, zOne_sumRead, zMne_sumRead)] pCne_lineRead qCne_lineRead) 2).1 [] η2 := by
  intro x1 e1 r1 c1 x2 e2 r2 c2 x3 e3 r3 c3 x4 η1 h4 c4 x5 η2 h5 c5
  have y4 : fQne_scratLine [] η x4 η1 := h4.2.2
  have k4 : sQ wl_ne zTr zOne_scratLine zMne_scratLine [] η x4 η1 ∧ oQne_scratLine [] η x4 η1 := ⟨h4.1, h4.2.1⟩
  have y5 : fQne_isSign [59] η1 x5 η2 := h5.2.2
  have k5 : sQ wl_ne zTr zOne_isSign zMne_isSign [59] η1 x5 η2 ∧ oQne_isSign [59] η1 x5 η2 := ⟨h5.1, h5.2.1⟩
  have w0_0_8 : (0 : Int) ≤ η 0 8 ∧ η 0 8 ≤ 6 := wf_ok (a := 8) (b := 8) (z := (0, 6)) hp.1 (by decide +kernel) (Nat.le_refl _) (Nat.le_refl _)
  replace e1 : x1 = η 0 8 := e1
  replace e2 : x2 = η 0 9 := e2
  replace r2 : -2147483648 ≤ x2 ∧ x2 ≤ 2147483647 := r2
  replace e3 : x3 = η 0 9 := e3
  replace r3 : -2147483648 ≤ x3 ∧ x3 ≤ 2147483647 := r3
  have w0_0_7 : (0 : Int) ≤ η 0 7 ∧ η 0 7 ≤ 700 := wf_ok (a := 7) (b := 7) (z := (0, 700)) hp.1 (by decide +kernel) (Nat.le_refl _) (Nat.le_refl _)
  have c0_0_7 : η 0 7 = η 0 7 := rfl
  have w0_0_6 : (0 : Int) ≤ η 0 6 ∧ η 0 6 ≤ 700 := wf_ok (a := 6) (b := 6) (z := (0, 700)) hp.1 (by decide +kernel) (Nat.le_refl _) (Nat.le_refl _)
  have c0_0_6 : η 0 6 = η 0 6 := rfl
  have c0_0_8 : η 0 8 = η 0 8 := rfl
  have w0_0_19 : (0 : Int) ≤ η 0 19 ∧ η 0 19 ≤ 64 := wf_ok (a := 19) (b := 19) (z := (0, 64)) hp.1 (by decide +kernel) (Nat.le_refl _) (Nat.le_refl _)
  have c0_0_19 : η 0 19 = η 0 19 := rfl
  have w0_0_44 : (0 : Int) ≤ η 0 44 ∧ η 0 44 ≤ 64 := wf_ok (a := 44) (b := 44) (z := (0, 64)) hp.1 (by decide +kernel) (Nat.le_refl _) (Nat.le_refl _)
  have c0_0_44 : η 0 44 = η 0 44 := rfl
  have bx4 : (0 : Int) ≤ x4 ∧ x4 ≤ 1 := k4.1.2.1
  have w1_0_7 : (0 : Int) ≤ η1 0 7 ∧ η1 0 7 ≤ 700 := wf_ok (a := 7) (b := 7) (z := (0, 700)) k4.1.1 (by decide +kernel) (Nat.le_refl _) (Nat.le_refl _)
  have d1_0_7 : η1 0 7 = η1 0 7 := rfl
  have v7 : zEq (η1 0 6) (η 0 6) := (k4.1.2.2.2.1 0 6 (by decide +kernel)).trans rfl
  have d1_0_6 : η1 0 6 = η 0 6 := v7
  have w1_0_8 : (0 : Int) ≤ η1 0 8 ∧ η1 0 8 ≤ 6 := wf_ok (a := 8) (b := 8) (z := (0, 6)) k4.1.1 (by decide +kernel) (Nat.le_refl _) (Nat.le_refl _)
  have d1_0_8 : η1 0 8 = η1 0 8 := rfl
  have v9 : zEq (η1 0 19) (η 0 19) := (k4.1.2.2.2.1 0 19 (by decide +kernel)).trans rfl
  have d1_0_19 : η1 0 19 = η 0 19 := v9
  have v10 : zEq (η1 0 44) (η 0 44) := (k4.1.2.2.2.1 0 44 (by decide +kernel)).trans rfl
  have d1_0_44 : η1 0 44 = η 0 44 := v10
  have c1_0_7 : η1 0 7 = η1 0 7 := rfl
  have c1_0_6 : η1 0 6 = η 0 6 := v7
  have c1_0_8 : η1 0 8 = η1 0 8 := rfl
  have c1_0_19 : η1 0 19 = η 0 19 := v9
  have c1_0_44 : η1 0 44 = η 0 44 := v10
  have bx5 : (0 : Int) ≤ x5 ∧ x5 ≤ 1 := k5.1.2.1
  have v11 : zEq (η2 0 7) (η1 0 7) := (k5.1.2.2.2.1 0 7 (by decide +kernel)).trans rfl
  have d2_0_7 : η2 0 7 = η1 0 7 := v11
  have v12 : zEq (η2 0 6) (η 0 6) := (k5.1.2.2.2.1 0 6 (by decide +kernel)).trans v7
  have d2_0_6 : η2 0 6 = η 0 6 := v12
  have v13 : zEq (η2 0 8) (η1 0 8) := (k5.1.2.2.2.1 0 8 (by decide +kernel)).trans rfl
  have d2_0_8 : η2 0 8 = η1 0 8 := v13
  have v14 : zEq (η2 0 19) (η 0 19) := (k5.1.2.2.2.1 0 19 (by decide +kernel)).trans v9
  have d2_0_19 : η2 0 19 = η 0 19 := v14
  have v15 : zEq (η2 0 44) (η 0 44) := (k5.1.2.2.2.1 0 44 (by decide +kernel)).trans v10
  have d2_0_44 : η2 0 44 = η 0 44 := v15
  have fr16_0 : ∀ j, η 16 j = η 16 j := fun _ => rfl
  have v16 : ∀ j, η1 16 j = η 16 j := fun j => k4.1.2.2.2.1 16 _ (zinr_not (by decide +kernel))
  have fr16_1 : ∀ j, η1 16 j = η 16 j := v16
  have v17 : ∀ j, η2 16 j = η 16 j := fun j => (k5.1.2.2.2.1 16 _ (zinr_not (by decide +kernel))).trans (v16 j)
  have fr16_2 : ∀ j, η2 16 j = η 16 j := v17
  have fr18_0 : ∀ j, η 18 j = η 18 j := fun _ => rfl
  have v18 : ∀ j, η1 18 j = η 18 j := fun j => k4.1.2.2.2.1 18 _ (zinr_not (by decide +kernel))
  have fr18_1 : ∀ j, η1 18 j = η 18 j := v18
  have v19 : ∀ j, η2 18 j = η 18 j := fun j => (k5.1.2.2.2.1 18 _ (zinr_not (by decide +kernel))).trans (v18 j)
  have fr18_2 : ∀ j, η2 18 j = η 18 j := v19
  have f0_7 : η2 0 7 = η1 0 7 := v11
  have f0_6 : η2 0 6 = η 0 6 := v12
  have f0_8 : η2 0 8 = η1 0 8 := v13
  have f0_19 : η2 0 19 = η 0 19 := v14
  have f0_44 : η2 0 44 = η 0 44 := v15
  have qn4 : ¬ x4 = 0 → 10 * (η1 0 6 - η1 0 7) + η1 0 8 < 10 * (η 0 6 - η 0 7) + η 0 8 := k4.2.2
  have qs5 : ¬ x5 = 0 → η1 0 8 = 4 := k5.2.2
  exact k5.2.1.1
set_option maxHeartbeats 8000000 in
theorem zne_lineRead_o45 {ro : Nat → List Int32} (η : zE) (hp : sP wl_ne zTr zPne_lineRead [] η) (hpp : pPne_lineRead [] η) : ∀ x1 : Int, x1 = η 0 (Int.toNat 8) → zok 0 x1 → (x1 = 1) → ∀ x2 : Int, x2 = η 0 (Int.toNat 9) → zok 0 x2 → (x2 ≤ 6) → ∀ x3 : Int, x3 = η 0 (Int.toNat 9) → zok 0 x3 → (x3 = 1) → ∀ (x4 : Int) (η1 : zE), ((gC2 wl_ne [(nat_lit 0, zPne_wrong, zOne_wrong, zMne_wrong), (nat_lit 1, zPne_isSign, zOne_isSign, zMne_isSign), (nat_lit 2, zPne_token1, zOne_token1, zMne_token1), (nat_lit 3, zPne_grooveLine, zOne_grooveLine, zMne_grooveLine), (nat_lit 4, zPne_scratLine, zOne_scratLine, zMne_scratLine), (nat_lit 5, zPne_guestLine, zOne_guestLine, zMne_guestLine), (nat_lit 6, zPne_onceLine0, zOne_onceLine0, zMne_onceLine0), (nat_lit 7, zPne_onceLine1, zOne_onceLine1, zMne_onceLine1), (nat_lit 8, zPne_onceLine2, zOne_onceLine2, zMne_onceLine2), (nat_lit 9, zPne_sumRead, zOne_sumRead, zMne_sumRead)] pCne_lineRead qCne_lineRead) 4).2 [] η x4 η1 → (¬ x4 = 0) → ∀ (x5 : Int) (η2 : zE), ((gC2 wl_ne [(nat_lit 0, zPne_wrong, zOne_wrong, zMne_wrong), (nat_lit 1, zPne_isSign, zOne_isSign, zMne_isSign), (nat_lit 2, zPne_token1, zOne_token1, zMne_token1), (nat_lit 3, zPne_grooveLine, zOne_grooveLine, zMne_grooveLine), (nat_lit 4, zPne_scratLine, zOne_scratLine, zMne_scratLine), (nat_lit 5, zPne_guestLine, zOne_guestLine, zMne_guestLine), (nat_lit 6, zPne_onceLine0, zOne_onceLine0, zMne_onceLine0), (nat_lit 7, zPne_onceLine1, zOne_onceLine1, zMne_onceLine1), (nat_lit 8, zPne_onceLine2, zOne_onceLine2, zMne_onceLine2), (nat_lit 9, zPne_sumRead, zOne_sumRead, zMne_sumRead)] pCne_lineRead qCne_lineRead) 1).2 [59] η1 x5 η2 → (¬ x5 = 0) → ∀ (x6 : Int) (η3 : zE), ((gC2 wl_ne [(nat_lit 0, zPne_wrong, zOne_wrong, zMne_wrong), (nat_lit 1, zPne_isSign, zOne_isSign, zMne_isSign), (nat_lit 2, zPne_token1, zOne_token1, zMne_token1), (nat_lit 3, zPne_grooveLine, zOne_grooveLine, zMne_grooveLine), (nat_lit 4, zPne_scratLine, zOne_scratLine, zMne_scratLine), (nat_lit 5, zPne_guestLine, zOne_guestLine, zMne_guestLine), (nat_lit 6, zPne_onceLine0, zOne_onceLine0, zMne_onceLine0), (nat_lit 7, zPne_onceLine1, zOne_onceLine1, zMne_onceLine1), (nat_lit 8, zPne_onceLine2, zOne_onceLine2, zMne_onceLine2), (nat_lit 9, zPne_sumRead, zOne_sumRead, zMne_sumRead)] pCne_lineRead qCne_lineRead) 2).2 [] η2 x6 η3 → (fun (_ : Nat) (y : Int) (η' : zE) => pQne_lineRead [] η y η') 0 1 η3 := by
  intro x1 e1 r1 c1 x2 e2 r2 c2 x3 e3 r3 c3 x4 η1 h4 c4 x5 η2 h5 c5 x6 η3 h6
  have y4 : fQne_scratLine [] η x4 η1 := h4.2.2
  have k4 : sQ wl_ne zTr zOne_scratLine zMne_scratLine [] η x4 η1 ∧ oQne_scratLine [] η x4 η1 := ⟨h4.1, h4.2.1⟩
  have y5 : fQne_isSign [59] η1 x5 η2 := h5.2.2
  have k5 : sQ wl_ne zTr zOne_isSign zMne_isSign [59] η1 x5 η2 ∧ oQne_isSign [59] η1 x5 η2 := ⟨h5.1, h5.2.1⟩
  have y6 : fQne_token1 [] η2 x6 η3 := h6.2.2
  have k6 : sQ wl_ne zTr zOne_token1 zMne_token1 [] η2 x6 η3 ∧ oQne_token1 [] η2 x6 η3 := ⟨h6.1, h6.2.1⟩
  refine yj_a ?_ ?_
  · have y4 : fQne_scratLine [] η x4 η1 := h4.2.2
    have k4 : sQ wl_ne zTr zOne_scratLine zMne_scratLine [] η x4 η1 ∧ oQne_scratLine [] η x4 η1 := ⟨h4.1, h4.2.1⟩
    have y5 : fQne_isSign [59] η1 x5 η2 := h5.2.2
    have k5 : sQ wl_ne zTr zOne_isSign zMne_isSign [59] η1 x5 η2 ∧ oQne_isSign [59] η1 x5 η2 := ⟨h5.1, h5.2.1⟩
    have y6 : fQne_token1 [] η2 x6 η3 := h6.2.2
    have k6 : sQ wl_ne zTr zOne_token1 zMne_token1 [] η2 x6 η3 ∧ oQne_token1 [] η2 x6 η3 := ⟨h6.1, h6.2.1⟩
    have w0_0_8 : (0 : Int) ≤ η 0 8 ∧ η 0 8 ≤ 6 := wf_ok (a := 8) (b := 8) (z := (0, 6)) hp.1 (by decide +kernel) (Nat.le_refl _) (Nat.le_refl _)
    replace e1 : x1 = η 0 8 := e1
    replace e2 : x2 = η 0 9 := e2
    replace r2 : -2147483648 ≤ x2 ∧ x2 ≤ 2147483647 := r2
    replace e3 : x3 = η 0 9 := e3
    replace r3 : -2147483648 ≤ x3 ∧ x3 ≤ 2147483647 := r3
    have w0_0_7 : (0 : Int) ≤ η 0 7 ∧ η 0 7 ≤ 700 := wf_ok (a := 7) (b := 7) (z := (0, 700)) hp.1 (by decide +kernel) (Nat.le_refl _) (Nat.le_refl _)
    have c0_0_7 : η 0 7 = η 0 7 := rfl
    have w0_0_6 : (0 : Int) ≤ η 0 6 ∧ η 0 6 ≤ 700 := wf_ok (a := 6) (b := 6) (z := (0, 700)) hp.1 (by decide +kernel) (Nat.le_refl _) (Nat.le_refl _)
    have c0_0_6 : η 0 6 = η 0 6 := rfl
    have c0_0_8 : η 0 8 = η 0 8 := rfl
    have w0_0_19 : (0 : Int) ≤ η 0 19 ∧ η 0 19 ≤ 64 := wf_ok (a := 19) (b := 19) (z := (0, 64)) hp.1 (by decide +kernel) (Nat.le_refl _) (Nat.le_refl _)
    have c0_0_19 : η 0 19 = η 0 19 := rfl
    have w0_0_44 : (0 : Int) ≤ η 0 44 ∧ η 0 44 ≤ 64 := wf_ok (a := 44) (b := 44) (z := (0, 64)) hp.1 (by decide +kernel) (Nat.le_refl _) (Nat.le_refl _)
    have c0_0_44 : η 0 44 = η 0 44 := rfl
    have bx4 : (0 : Int) ≤ x4 ∧ x4 ≤ 1 := k4.1.2.1
    have w1_0_7 : (0 : Int) ≤ η1 0 7 ∧ η1 0 7 ≤ 700 := wf_ok (a := 7) (b := 7) (z := (0, 700)) k4.1.1 (by decide +kernel) (Nat.le_refl _) (Nat.le_refl _)
    have d1_0_7 : η1 0 7 = η1 0 7 := rfl
    have v7 : zEq (η1 0 6) (η 0 6) := (k4.1.2.2.2.1 0 6 (by decide +kernel)).trans rfl
    have d1_0_6 : η1 0 6 = η 0 6 := v7
    have w1_0_8 : (0 : Int) ≤ η1 0 8 ∧ η1 0 8 ≤ 6 := wf_ok (a := 8) (b := 8) (z := (0, 6)) k4.1.1 (by decide +kernel) (Nat.le_refl _) (Nat.le_refl _)
    have d1_0_8 : η1 0 8 = η1 0 8 := rfl
    have v9 : zEq (η1 0 19) (η 0 19) := (k4.1.2.2.2.1 0 19 (by decide +kernel)).trans rfl
    have d1_0_19 : η1 0 19 = η 0 19 := v9
    have v10 : zEq (η1 0 44) (η 0 44) := (k4.1.2.2.2.1 0 44 (by decide +kernel)).trans rfl
    have d1_0_44 : η1 0 44 = η 0 44 := v10
    have c1_0_7 : η1 0 7 = η1 0 7 := rfl
    have c1_0_6 : η1 0 6 = η 0 6 := v7
    have c1_0_8 : η1 0 8 = η1 0 8 := rfl
    have c1_0_19 : η1 0 19 = η 0 19 := v9
    have c1_0_44 : η1 0 44 = η 0 44 := v10
    have bx5 : (0 : Int) ≤ x5 ∧ x5 ≤ 1 := k5.1.2.1
    have v11 : zEq (η2 0 7) (η1 0 7) := (k5.1.2.2.2.1 0 7 (by decide +kernel)).trans rfl
    have d2_0_7 : η2 0 7 = η1 0 7 := v11
    have v12 : zEq (η2 0 6) (η 0 6) := (k5.1.2.2.2.1 0 6 (by decide +kernel)).trans v7
    have d2_0_6 : η2 0 6 = η 0 6 := v12
    have v13 : zEq (η2 0 8) (η1 0 8) := (k5.1.2.2.2.1 0 8 (by decide +kernel)).trans rfl
    have d2_0_8 : η2 0 8 = η1 0 8 := v13
    have v14 : zEq (η2 0 19) (η 0 19) := (k5.1.2.2.2.1 0 19 (by decide +kernel)).trans v9
    have d2_0_19 : η2 0 19 = η 0 19 := v14
    have v15 : zEq (η2 0 44) (η 0 44) := (k5.1.2.2.2.1 0 44 (by decide +kernel)).trans v10
    have d2_0_44 : η2 0 44 = η 0 44 := v15
    have c2_0_7 : η2 0 7 = η1 0 7 := v11
    have c2_0_6 : η2 0 6 = η 0 6 := v12
    have c2_0_8 : η2 0 8 = η1 0 8 := v13
    have c2_0_19 : η2 0 19 = η 0 19 := v14
    have c2_0_44 : η2 0 44 = η 0 44 := v15
    have bx6 : (0 : Int) ≤ x6 ∧ x6 ≤ 0 := k6.1.2.1
    have w3_0_7 : (0 : Int) ≤ η3 0 7 ∧ η3 0 7 ≤ 700 := wf_ok (a := 7) (b := 7) (z := (0, 700)) k6.1.1 (by decide +kernel) (Nat.le_refl _) (Nat.le_refl _)
    have d3_0_7 : η3 0 7 = η3 0 7 := rfl
    have v17 : zEq (η3 0 6) (η 0 6) := (k6.1.2.2.2.1 0 6 (by decide +kernel)).trans v12
    have d3_0_6 : η3 0 6 = η 0 6 := v17
    have w3_0_8 : (0 : Int) ≤ η3 0 8 ∧ η3 0 8 ≤ 6 := wf_ok (a := 8) (b := 8) (z := (0, 6)) k6.1.1 (by decide +kernel) (Nat.le_refl _) (Nat.le_refl _)
    have d3_0_8 : η3 0 8 = η3 0 8 := rfl
    have v19 : zEq (η3 0 19) (η 0 19) := (k6.1.2.2.2.1 0 19 (by decide +kernel)).trans v14
    have d3_0_19 : η3 0 19 = η 0 19 := v19
    have v20 : zEq (η3 0 44) (η 0 44) := (k6.1.2.2.2.1 0 44 (by decide +kernel)).trans v15
    have d3_0_44 : η3 0 44 = η 0 44 := v20
    have fr16_0 : ∀ j, η 16 j = η 16 j := fun _ => rfl
    have v21 : ∀ j, η1 16 j = η 16 j := fun j => k4.1.2.2.2.1 16 _ (zinr_not (by decide +kernel))
    have fr16_1 : ∀ j, η1 16 j = η 16 j := v21
    have v22 : ∀ j, η2 16 j = η 16 j := fun j => (k5.1.2.2.2.1 16 _ (zinr_not (by decide +kernel))).trans (v21 j)
    have fr16_2 : ∀ j, η2 16 j = η 16 j := v22
    have v23 : ∀ j, η3 16 j = η 16 j := fun j => (k6.1.2.2.2.1 16 _ (zinr_not (by decide +kernel))).trans (v22 j)
    have fr16_3 : ∀ j, η3 16 j = η 16 j := v23
    have fr18_0 : ∀ j, η 18 j = η 18 j := fun _ => rfl
    have v24 : ∀ j, η1 18 j = η 18 j := fun j => k4.1.2.2.2.1 18 _ (zinr_not (by decide +kernel))
    have fr18_1 : ∀ j, η1 18 j = η 18 j := v24
    have v25 : ∀ j, η2 18 j = η 18 j := fun j => (k5.1.2.2.2.1 18 _ (zinr_not (by decide +kernel))).trans (v24 j)
    have fr18_2 : ∀ j, η2 18 j = η 18 j := v25
    have v26 : ∀ j, η3 18 j = η 18 j := fun j => (k6.1.2.2.2.1 18 _ (zinr_not (by decide +kernel))).trans (v25 j)
    have fr18_3 : ∀ j, η3 18 j = η 18 j := v26
    have f0_7 : η3 0 7 = η3 0 7 := rfl
    have f0_6 : η3 0 6 = η 0 6 := v17
    have f0_8 : η3 0 8 = η3 0 8 := rfl
    have f0_19 : η3 0 19 = η 0 19 := v19
    have f0_44 : η3 0 44 = η 0 44 := v20
    have qn4 : ¬ x4 = 0 → 10 * (η1 0 6 - η1 0 7) + η1 0 8 < 10 * (η 0 6 - η 0 7) + η 0 8 := k4.2.2
    have qs5 : ¬ x5 = 0 → η1 0 8 = 4 := k5.2.2
    have qt6 : ¬ η2 0 8 = 0 → 10 * (η3 0 6 - η3 0 7) + η3 0 8 < 10 * (η2 0 6 - η2 0 7) + η2 0 8 := k6.2.2
    have P3 : PL_n 6 η3 := zGk_fm2 plk_n (k5.2.1.2) k6.1.2.2.2.1 (by decide +kernel)
    exact ⟨k6.2.1.1, pl_d (P3) (by decide), fun _ => ⟨⟨k6.2.1, P3⟩, show 10 * (η3 0 6 - η3 0 7) + η3 0 8 < 10 * (η 0 6 - η 0 7) + η 0 8 by omega⟩⟩
  · have e1 : x1 = η 0 8 := e1
    have e2 : x2 = η 0 9 := e2
    have e3 : x3 = η 0 9 := e3
    have f3 : x2 = x3 := e2.trans e3.symm
    subst f3
    obtain ⟨a4, b4⟩ : x4 = (yq_scl η).1 ∧ η1 = (yq_scl η).2 := y4
    obtain ⟨a5, b5⟩ : x5 = (yq_isS 59 η1) ∧ η1 = η2 := ⟨y5.1, y5.2.symm⟩
    subst b5
    have b6 : η3 = (yq_tok η1) := y6
    show 1 = (yq_lnr η).1 ∧ η3 = (yq_lnr η).2
    simp only [yq_lnr, yq_le, yq_law, yq_lw1, yq_lw2, yq_no, ← e1, ← e2, ← a4, ← b4, ← a5, ← b6]
    all_goals (repeat (first | rw [if_pos (by omega)] | rw [if_neg (by omega)]))
    all_goals exact ⟨rfl, rfl⟩
set_option maxHeartbeats 8000000 in
theorem zne_lineRead_o46 {ro : Nat → List Int32} (η : zE) (hp : sP wl_ne zTr zPne_lineRead [] η) (hpp : pPne_lineRead [] η) : ∀ x1 : Int, x1 = η 0 (Int.toNat 8) → zok 0 x1 → (x1 = 1) → ∀ x2 : Int, x2 = η 0 (Int.toNat 9) → zok 0 x2 → (x2 ≤ 6) → ∀ x3 : Int, x3 = η 0 (Int.toNat 9) → zok 0 x3 → (x3 = 1) → ∀ (x4 : Int) (η1 : zE), ((gC2 wl_ne [(nat_lit 0, zPne_wrong, zOne_wrong, zMne_wrong), (nat_lit 1, zPne_isSign, zOne_isSign, zMne_isSign), (nat_lit 2, zPne_token1, zOne_token1, zMne_token1), (nat_lit 3, zPne_grooveLine, zOne_grooveLine, zMne_grooveLine), (nat_lit 4, zPne_scratLine, zOne_scratLine, zMne_scratLine), (nat_lit 5, zPne_guestLine, zOne_guestLine, zMne_guestLine), (nat_lit 6, zPne_onceLine0, zOne_onceLine0, zMne_onceLine0), (nat_lit 7, zPne_onceLine1, zOne_onceLine1, zMne_onceLine1), (nat_lit 8, zPne_onceLine2, zOne_onceLine2, zMne_onceLine2), (nat_lit 9, zPne_sumRead, zOne_sumRead, zMne_sumRead)] pCne_lineRead qCne_lineRead) 4).2 [] η x4 η1 → (¬ x4 = 0) → ∀ (x5 : Int) (η2 : zE), ((gC2 wl_ne [(nat_lit 0, zPne_wrong, zOne_wrong, zMne_wrong), (nat_lit 1, zPne_isSign, zOne_isSign, zMne_isSign), (nat_lit 2, zPne_token1, zOne_token1, zMne_token1), (nat_lit 3, zPne_grooveLine, zOne_grooveLine, zMne_grooveLine), (nat_lit 4, zPne_scratLine, zOne_scratLine, zMne_scratLine), (nat_lit 5, zPne_guestLine, zOne_guestLine, zMne_guestLine), (nat_lit 6, zPne_onceLine0, zOne_onceLine0, zMne_onceLine0), (nat_lit 7, zPne_onceLine1, zOne_onceLine1, zMne_onceLine1), (nat_lit 8, zPne_onceLine2, zOne_onceLine2, zMne_onceLine2), (nat_lit 9, zPne_sumRead, zOne_sumRead, zMne_sumRead)] pCne_lineRead qCne_lineRead) 1).2 [59] η1 x5 η2 → (x5 = 0) → ((gC2 wl_ne [(nat_lit 0, zPne_wrong, zOne_wrong, zMne_wrong), (nat_lit 1, zPne_isSign, zOne_isSign, zMne_isSign), (nat_lit 2, zPne_token1, zOne_token1, zMne_token1), (nat_lit 3, zPne_grooveLine, zOne_grooveLine, zMne_grooveLine), (nat_lit 4, zPne_scratLine, zOne_scratLine, zMne_scratLine), (nat_lit 5, zPne_guestLine, zOne_guestLine, zMne_guestLine), (nat_lit 6, zPne_onceLine0, zOne_onceLine0, zMne_onceLine0), (nat_lit 7, zPne_onceLine1, zOne_onceLine1, zMne_onceLine1), (nat_lit 8, zPne_onceLine2, zOne_onceLine2, zMne_onceLine2), (nat_lit 9, zPne_sumRead, zOne_sumRead, zMne_sumRead)] pCne_lineRead qCne_lineRead) 0).1 [1] η2 := by
  intro x1 e1 r1 c1 x2 e2 r2 c2 x3 e3 r3 c3 x4 η1 h4 c4 x5 η2 h5 c5
  have y4 : fQne_scratLine [] η x4 η1 := h4.2.2
  have k4 : sQ wl_ne zTr zOne_scratLine zMne_scratLine [] η x4 η1 ∧ oQne_scratLine [] η x4 η1 := ⟨h4.1, h4.2.1⟩
  have y5 : fQne_isSign [59] η1 x5 η2 := h5.2.2
  have k5 : sQ wl_ne zTr zOne_isSign zMne_isSign [59] η1 x5 η2 ∧ oQne_isSign [59] η1 x5 η2 := ⟨h5.1, h5.2.1⟩
  have w0_0_8 : (0 : Int) ≤ η 0 8 ∧ η 0 8 ≤ 6 := wf_ok (a := 8) (b := 8) (z := (0, 6)) hp.1 (by decide +kernel) (Nat.le_refl _) (Nat.le_refl _)
  replace e1 : x1 = η 0 8 := e1
  replace e2 : x2 = η 0 9 := e2
  replace r2 : -2147483648 ≤ x2 ∧ x2 ≤ 2147483647 := r2
  replace e3 : x3 = η 0 9 := e3
  replace r3 : -2147483648 ≤ x3 ∧ x3 ≤ 2147483647 := r3
  have w0_0_7 : (0 : Int) ≤ η 0 7 ∧ η 0 7 ≤ 700 := wf_ok (a := 7) (b := 7) (z := (0, 700)) hp.1 (by decide +kernel) (Nat.le_refl _) (Nat.le_refl _)
  have c0_0_7 : η 0 7 = η 0 7 := rfl
  have w0_0_6 : (0 : Int) ≤ η 0 6 ∧ η 0 6 ≤ 700 := wf_ok (a := 6) (b := 6) (z := (0, 700)) hp.1 (by decide +kernel) (Nat.le_refl _) (Nat.le_refl _)
  have c0_0_6 : η 0 6 = η 0 6 := rfl
  have c0_0_8 : η 0 8 = η 0 8 := rfl
  have w0_0_19 : (0 : Int) ≤ η 0 19 ∧ η 0 19 ≤ 64 := wf_ok (a := 19) (b := 19) (z := (0, 64)) hp.1 (by decide +kernel) (Nat.le_refl _) (Nat.le_refl _)
  have c0_0_19 : η 0 19 = η 0 19 := rfl
  have w0_0_44 : (0 : Int) ≤ η 0 44 ∧ η 0 44 ≤ 64 := wf_ok (a := 44) (b := 44) (z := (0, 64)) hp.1 (by decide +kernel) (Nat.le_refl _) (Nat.le_refl _)
  have c0_0_44 : η 0 44 = η 0 44 := rfl
  have bx4 : (0 : Int) ≤ x4 ∧ x4 ≤ 1 := k4.1.2.1
  have w1_0_7 : (0 : Int) ≤ η1 0 7 ∧ η1 0 7 ≤ 700 := wf_ok (a := 7) (b := 7) (z := (0, 700)) k4.1.1 (by decide +kernel) (Nat.le_refl _) (Nat.le_refl _)
  have d1_0_7 : η1 0 7 = η1 0 7 := rfl
  have v7 : zEq (η1 0 6) (η 0 6) := (k4.1.2.2.2.1 0 6 (by decide +kernel)).trans rfl
  have d1_0_6 : η1 0 6 = η 0 6 := v7
  have w1_0_8 : (0 : Int) ≤ η1 0 8 ∧ η1 0 8 ≤ 6 := wf_ok (a := 8) (b := 8) (z := (0, 6)) k4.1.1 (by decide +kernel) (Nat.le_refl _) (Nat.le_refl _)
  have d1_0_8 : η1 0 8 = η1 0 8 := rfl
  have v9 : zEq (η1 0 19) (η 0 19) := (k4.1.2.2.2.1 0 19 (by decide +kernel)).trans rfl
  have d1_0_19 : η1 0 19 = η 0 19 := v9
  have v10 : zEq (η1 0 44) (η 0 44) := (k4.1.2.2.2.1 0 44 (by decide +kernel)).trans rfl
  have d1_0_44 : η1 0 44 = η 0 44 := v10
  have c1_0_7 : η1 0 7 = η1 0 7 := rfl
  have c1_0_6 : η1 0 6 = η 0 6 := v7
  have c1_0_8 : η1 0 8 = η1 0 8 := rfl
  have c1_0_19 : η1 0 19 = η 0 19 := v9
  have c1_0_44 : η1 0 44 = η 0 44 := v10
  have bx5 : (0 : Int) ≤ x5 ∧ x5 ≤ 1 := k5.1.2.1
  have v11 : zEq (η2 0 7) (η1 0 7) := (k5.1.2.2.2.1 0 7 (by decide +kernel)).trans rfl
  have d2_0_7 : η2 0 7 = η1 0 7 := v11
  have v12 : zEq (η2 0 6) (η 0 6) := (k5.1.2.2.2.1 0 6 (by decide +kernel)).trans v7
  have d2_0_6 : η2 0 6 = η 0 6 := v12
  have v13 : zEq (η2 0 8) (η1 0 8) := (k5.1.2.2.2.1 0 8 (by decide +kernel)).trans rfl
  have d2_0_8 : η2 0 8 = η1 0 8 := v13
  have v14 : zEq (η2 0 19) (η 0 19) := (k5.1.2.2.2.1 0 19 (by decide +kernel)).trans v9
  have d2_0_19 : η2 0 19 = η 0 19 := v14
  have v15 : zEq (η2 0 44) (η 0 44) := (k5.1.2.2.2.1 0 44 (by decide +kernel)).trans v10
  have d2_0_44 : η2 0 44 = η 0 44 := v15
  have fr16_0 : ∀ j, η 16 j = η 16 j := fun _ => rfl
  have v16 : ∀ j, η1 16 j = η 16 j := fun j => k4.1.2.2.2.1 16 _ (zinr_not (by decide +kernel))
  have fr16_1 : ∀ j, η1 16 j = η 16 j := v16
  have v17 : ∀ j, η2 16 j = η 16 j := fun j => (k5.1.2.2.2.1 16 _ (zinr_not (by decide +kernel))).trans (v16 j)
  have fr16_2 : ∀ j, η2 16 j = η 16 j := v17
  have fr18_0 : ∀ j, η 18 j = η 18 j := fun _ => rfl
  have v18 : ∀ j, η1 18 j = η 18 j := fun j => k4.1.2.2.2.1 18 _ (zinr_not (by decide +kernel))
  have fr18_1 : ∀ j, η1 18 j = η 18 j := v18
  have v19 : ∀ j, η2 18 j = η 18 j := fun j => (k5.1.2.2.2.1 18 _ (zinr_not (by decide +kernel))).trans (v18 j)
  have fr18_2 : ∀ j, η2 18 j = η 18 j := v19
  have f0_7 : η2 0 7 = η1 0 7 := v11
  have f0_6 : η2 0 6 = η 0 6 := v12
  have f0_8 : η2 0 8 = η1 0 8 := v13
  have f0_19 : η2 0 19 = η 0 19 := v14
  have f0_44 : η2 0 44 = η 0 44 := v15
  have qn4 : ¬ x4 = 0 → 10 * (η1 0 6 - η1 0 7) + η1 0 8 < 10 * (η 0 6 - η 0 7) + η 0 8 := k4.2.2
  have qs5 : ¬ x5 = 0 → η1 0 8 = 4 := k5.2.2
  exact ⟨k5.2.1.1, k5.2.1.2⟩
set_option maxHeartbeats 8000000 in
theorem zne_lineRead_o47 {ro : Nat → List Int32} (η : zE) (hp : sP wl_ne zTr zPne_lineRead [] η) (hpp : pPne_lineRead [] η) : ∀ x1 : Int, x1 = η 0 (Int.toNat 8) → zok 0 x1 → (x1 = 1) → ∀ x2 : Int, x2 = η 0 (Int.toNat 9) → zok 0 x2 → (x2 ≤ 6) → ∀ x3 : Int, x3 = η 0 (Int.toNat 9) → zok 0 x3 → (x3 = 1) → ∀ (x4 : Int) (η1 : zE), ((gC2 wl_ne [(nat_lit 0, zPne_wrong, zOne_wrong, zMne_wrong), (nat_lit 1, zPne_isSign, zOne_isSign, zMne_isSign), (nat_lit 2, zPne_token1, zOne_token1, zMne_token1), (nat_lit 3, zPne_grooveLine, zOne_grooveLine, zMne_grooveLine), (nat_lit 4, zPne_scratLine, zOne_scratLine, zMne_scratLine), (nat_lit 5, zPne_guestLine, zOne_guestLine, zMne_guestLine), (nat_lit 6, zPne_onceLine0, zOne_onceLine0, zMne_onceLine0), (nat_lit 7, zPne_onceLine1, zOne_onceLine1, zMne_onceLine1), (nat_lit 8, zPne_onceLine2, zOne_onceLine2, zMne_onceLine2), (nat_lit 9, zPne_sumRead, zOne_sumRead, zMne_sumRead)] pCne_lineRead qCne_lineRead) 4).2 [] η x4 η1 → (¬ x4 = 0) → ∀ (x5 : Int) (η2 : zE), ((gC2 wl_ne [(nat_lit 0, zPne_wrong, zOne_wrong, zMne_wrong), (nat_lit 1, zPne_isSign, zOne_isSign, zMne_isSign), (nat_lit 2, zPne_token1, zOne_token1, zMne_token1), (nat_lit 3, zPne_grooveLine, zOne_grooveLine, zMne_grooveLine), (nat_lit 4, zPne_scratLine, zOne_scratLine, zMne_scratLine), (nat_lit 5, zPne_guestLine, zOne_guestLine, zMne_guestLine), (nat_lit 6, zPne_onceLine0, zOne_onceLine0, zMne_onceLine0), (nat_lit 7, zPne_onceLine1, zOne_onceLine1, zMne_onceLine1), (nat_lit 8, zPne_onceLine2, zOne_onceLine2, zMne_onceLine2), (nat_lit 9, zPne_sumRead, zOne_sumRead, zMne_sumRead)] pCne_lineRead qCne_lineRead) 1).2 [59] η1 x5 η2 → (x5 = 0) → ∀ (x6 : Int) (η3 : zE), ((gC2 wl_ne [(nat_lit 0, zPne_wrong, zOne_wrong, zMne_wrong), (nat_lit 1, zPne_isSign, zOne_isSign, zMne_isSign), (nat_lit 2, zPne_token1, zOne_token1, zMne_token1), (nat_lit 3, zPne_grooveLine, zOne_grooveLine, zMne_grooveLine), (nat_lit 4, zPne_scratLine, zOne_scratLine, zMne_scratLine), (nat_lit 5, zPne_guestLine, zOne_guestLine, zMne_guestLine), (nat_lit 6, zPne_onceLine0, zOne_onceLine0, zMne_onceLine0), (nat_lit 7, zPne_onceLine1, zOne_onceLine1, zMne_onceLine1), (nat_lit 8, zPne_onceLine2, zOne_onceLine2, zMne_onceLine2), (nat_lit 9, zPne_sumRead, zOne_sumRead, zMne_sumRead)] pCne_lineRead qCne_lineRead) 0).2 [1] η2 x6 η3 → (fun (_ : Nat) (y : Int) (η' : zE) => pQne_lineRead [] η y η') 0 x6 η3 := by
  intro x1 e1 r1 c1 x2 e2 r2 c2 x3 e3 r3 c3 x4 η1 h4 c4 x5 η2 h5 c5 x6 η3 h6
  have y4 : fQne_scratLine [] η x4 η1 := h4.2.2
  have k4 : sQ wl_ne zTr zOne_scratLine zMne_scratLine [] η x4 η1 ∧ oQne_scratLine [] η x4 η1 := ⟨h4.1, h4.2.1⟩
  have y5 : fQne_isSign [59] η1 x5 η2 := h5.2.2
  have k5 : sQ wl_ne zTr zOne_isSign zMne_isSign [59] η1 x5 η2 ∧ oQne_isSign [59] η1 x5 η2 := ⟨h5.1, h5.2.1⟩
  have y6 : fQne_wrong [1] η2 x6 η3 := h6.2.2
  have k6 : sQ wl_ne zTr zOne_wrong zMne_wrong [1] η2 x6 η3 ∧ oQne_wrong [1] η2 x6 η3 := ⟨h6.1, h6.2.1⟩
  refine yj_a ?_ ?_
  · have y4 : fQne_scratLine [] η x4 η1 := h4.2.2
    have k4 : sQ wl_ne zTr zOne_scratLine zMne_scratLine [] η x4 η1 ∧ oQne_scratLine [] η x4 η1 := ⟨h4.1, h4.2.1⟩
    have y5 : fQne_isSign [59] η1 x5 η2 := h5.2.2
    have k5 : sQ wl_ne zTr zOne_isSign zMne_isSign [59] η1 x5 η2 ∧ oQne_isSign [59] η1 x5 η2 := ⟨h5.1, h5.2.1⟩
    have y6 : fQne_wrong [1] η2 x6 η3 := h6.2.2
    have k6 : sQ wl_ne zTr zOne_wrong zMne_wrong [1] η2 x6 η3 ∧ oQne_wrong [1] η2 x6 η3 := ⟨h6.1, h6.2.1⟩
    have w0_0_8 : (0 : Int) ≤ η 0 8 ∧ η 0 8 ≤ 6 := wf_ok (a := 8) (b := 8) (z := (0, 6)) hp.1 (by decide +kernel) (Nat.le_refl _) (Nat.le_refl _)
    replace e1 : x1 = η 0 8 := e1
    replace e2 : x2 = η 0 9 := e2
    replace r2 : -2147483648 ≤ x2 ∧ x2 ≤ 2147483647 := r2
    replace e3 : x3 = η 0 9 := e3
    replace r3 : -2147483648 ≤ x3 ∧ x3 ≤ 2147483647 := r3
    have w0_0_7 : (0 : Int) ≤ η 0 7 ∧ η 0 7 ≤ 700 := wf_ok (a := 7) (b := 7) (z := (0, 700)) hp.1 (by decide +kernel) (Nat.le_refl _) (Nat.le_refl _)
    have c0_0_7 : η 0 7 = η 0 7 := rfl
    have w0_0_6 : (0 : Int) ≤ η 0 6 ∧ η 0 6 ≤ 700 := wf_ok (a := 6) (b := 6) (z := (0, 700)) hp.1 (by decide +kernel) (Nat.le_refl _) (Nat.le_refl _)
    have c0_0_6 : η 0 6 = η 0 6 := rfl
    have c0_0_8 : η 0 8 = η 0 8 := rfl
    have w0_0_19 : (0 : Int) ≤ η 0 19 ∧ η 0 19 ≤ 64 := wf_ok (a := 19) (b := 19) (z := (0, 64)) hp.1 (by decide +kernel) (Nat.le_refl _) (Nat.le_refl _)
    have c0_0_19 : η 0 19 = η 0 19 := rfl
    have w0_0_44 : (0 : Int) ≤ η 0 44 ∧ η 0 44 ≤ 64 := wf_ok (a := 44) (b := 44) (z := (0, 64)) hp.1 (by decide +kernel) (Nat.le_refl _) (Nat.le_refl _)
    have c0_0_44 : η 0 44 = η 0 44 := rfl
    have bx4 : (0 : Int) ≤ x4 ∧ x4 ≤ 1 := k4.1.2.1
    have w1_0_7 : (0 : Int) ≤ η1 0 7 ∧ η1 0 7 ≤ 700 := wf_ok (a := 7) (b := 7) (z := (0, 700)) k4.1.1 (by decide +kernel) (Nat.le_refl _) (Nat.le_refl _)
    have d1_0_7 : η1 0 7 = η1 0 7 := rfl
    have v7 : zEq (η1 0 6) (η 0 6) := (k4.1.2.2.2.1 0 6 (by decide +kernel)).trans rfl
    have d1_0_6 : η1 0 6 = η 0 6 := v7
    have w1_0_8 : (0 : Int) ≤ η1 0 8 ∧ η1 0 8 ≤ 6 := wf_ok (a := 8) (b := 8) (z := (0, 6)) k4.1.1 (by decide +kernel) (Nat.le_refl _) (Nat.le_refl _)
    have d1_0_8 : η1 0 8 = η1 0 8 := rfl
    have v9 : zEq (η1 0 19) (η 0 19) := (k4.1.2.2.2.1 0 19 (by decide +kernel)).trans rfl
    have d1_0_19 : η1 0 19 = η 0 19 := v9
    have v10 : zEq (η1 0 44) (η 0 44) := (k4.1.2.2.2.1 0 44 (by decide +kernel)).trans rfl
    have d1_0_44 : η1 0 44 = η 0 44 := v10
    have c1_0_7 : η1 0 7 = η1 0 7 := rfl
    have c1_0_6 : η1 0 6 = η 0 6 := v7
    have c1_0_8 : η1 0 8 = η1 0 8 := rfl
    have c1_0_19 : η1 0 19 = η 0 19 := v9
    have c1_0_44 : η1 0 44 = η 0 44 := v10
    have bx5 : (0 : Int) ≤ x5 ∧ x5 ≤ 1 := k5.1.2.1
    have v11 : zEq (η2 0 7) (η1 0 7) := (k5.1.2.2.2.1 0 7 (by decide +kernel)).trans rfl
    have d2_0_7 : η2 0 7 = η1 0 7 := v11
    have v12 : zEq (η2 0 6) (η 0 6) := (k5.1.2.2.2.1 0 6 (by decide +kernel)).trans v7
    have d2_0_6 : η2 0 6 = η 0 6 := v12
    have v13 : zEq (η2 0 8) (η1 0 8) := (k5.1.2.2.2.1 0 8 (by decide +kernel)).trans rfl
    have d2_0_8 : η2 0 8 = η1 0 8 := v13
    have v14 : zEq (η2 0 19) (η 0 19) := (k5.1.2.2.2.1 0 19 (by decide +kernel)).trans v9
    have d2_0_19 : η2 0 19 = η 0 19 := v14
    have v15 : zEq (η2 0 44) (η 0 44) := (k5.1.2.2.2.1 0 44 (by decide +kernel)).trans v10
    have d2_0_44 : η2 0 44 = η 0 44 := v15
    have c2_0_7 : η2 0 7 = η1 0 7 := v11
    have c2_0_6 : η2 0 6 = η 0 6 := v12
    have c2_0_8 : η2 0 8 = η1 0 8 := v13
    have c2_0_19 : η2 0 19 = η 0 19 := v14
    have c2_0_44 : η2 0 44 = η 0 44 := v15
    have bx6 : (0 : Int) ≤ x6 ∧ x6 ≤ 0 := k6.1.2.1
    have v16 : zEq (η3 0 7) (η1 0 7) := (k6.1.2.2.2.1 0 7 (by decide +kernel)).trans v11
    have d3_0_7 : η3 0 7 = η1 0 7 := v16
    have v17 : zEq (η3 0 6) (η 0 6) := (k6.1.2.2.2.1 0 6 (by decide +kernel)).trans v12
    have d3_0_6 : η3 0 6 = η 0 6 := v17
    have v18 : zEq (η3 0 8) (η1 0 8) := (k6.1.2.2.2.1 0 8 (by decide +kernel)).trans v13
    have d3_0_8 : η3 0 8 = η1 0 8 := v18
    have v19 : zEq (η3 0 19) (η 0 19) := (k6.1.2.2.2.1 0 19 (by decide +kernel)).trans v14
    have d3_0_19 : η3 0 19 = η 0 19 := v19
    have v20 : zEq (η3 0 44) (η 0 44) := (k6.1.2.2.2.1 0 44 (by decide +kernel)).trans v15
    have d3_0_44 : η3 0 44 = η 0 44 := v20
    have fr16_0 : ∀ j, η 16 j = η 16 j := fun _ => rfl
    have v21 : ∀ j, η1 16 j = η 16 j := fun j => k4.1.2.2.2.1 16 _ (zinr_not (by decide +kernel))
    have fr16_1 : ∀ j, η1 16 j = η 16 j := v21
    have v22 : ∀ j, η2 16 j = η 16 j := fun j => (k5.1.2.2.2.1 16 _ (zinr_not (by decide +kernel))).trans (v21 j)
    have fr16_2 : ∀ j, η2 16 j = η 16 j := v22
    have v23 : ∀ j, η3 16 j = η 16 j := fun j => (k6.1.2.2.2.1 16 _ (zinr_not (by decide +kernel))).trans (v22 j)
    have fr16_3 : ∀ j, η3 16 j = η 16 j := v23
    have fr18_0 : ∀ j, η 18 j = η 18 j := fun _ => rfl
    have v24 : ∀ j, η1 18 j = η 18 j := fun j => k4.1.2.2.2.1 18 _ (zinr_not (by decide +kernel))
    have fr18_1 : ∀ j, η1 18 j = η 18 j := v24
    have v25 : ∀ j, η2 18 j = η 18 j := fun j => (k5.1.2.2.2.1 18 _ (zinr_not (by decide +kernel))).trans (v24 j)
    have fr18_2 : ∀ j, η2 18 j = η 18 j := v25
    have v26 : ∀ j, η3 18 j = η 18 j := fun j => (k6.1.2.2.2.1 18 _ (zinr_not (by decide +kernel))).trans (v25 j)
    have fr18_3 : ∀ j, η3 18 j = η 18 j := v26
    have f0_7 : η3 0 7 = η1 0 7 := v16
    have f0_6 : η3 0 6 = η 0 6 := v17
    have f0_8 : η3 0 8 = η1 0 8 := v18
    have f0_19 : η3 0 19 = η 0 19 := v19
    have f0_44 : η3 0 44 = η 0 44 := v20
    have qn4 : ¬ x4 = 0 → 10 * (η1 0 6 - η1 0 7) + η1 0 8 < 10 * (η 0 6 - η 0 7) + η 0 8 := k4.2.2
    have qs5 : ¬ x5 = 0 → η1 0 8 = 4 := k5.2.2
    exact ⟨k6.2.1.1, pl_d (k6.2.2) (by decide), fun w => absurd (show (x6 : Int) = 0 by apply Int.le_antisymm <;> omega) w⟩
  · have e1 : x1 = η 0 8 := e1
    have e2 : x2 = η 0 9 := e2
    have e3 : x3 = η 0 9 := e3
    have f3 : x2 = x3 := e2.trans e3.symm
    subst f3
    obtain ⟨a4, b4⟩ : x4 = (yq_scl η).1 ∧ η1 = (yq_scl η).2 := y4
    obtain ⟨a5, b5⟩ : x5 = (yq_isS 59 η1) ∧ η1 = η2 := ⟨y5.1, y5.2.symm⟩
    subst b5
    obtain ⟨a6, b6⟩ : x6 = 0 ∧ η3 = (yq_wr 1 η1) := y6
    show x6 = (yq_lnr η).1 ∧ η3 = (yq_lnr η).2
    simp only [yq_lnr, yq_le, yq_law, yq_lw1, yq_lw2, yq_no, ← e1, ← e2, ← a4, ← b4, ← a5, ← b6, a6]
    all_goals (repeat (first | rw [if_pos (by omega)] | rw [if_neg (by omega)]))
    all_goals exact ⟨rfl, rfl⟩
set_option maxHeartbeats 8000000 in
theorem zne_lineRead_o48 {ro : Nat → List Int32} (η : zE) (hp : sP wl_ne zTr zPne_lineRead [] η) (hpp : pPne_lineRead [] η) : ∀ x1 : Int, x1 = η 0 (Int.toNat 8) → zok 0 x1 → (x1 = 1) → ∀ x2 : Int, x2 = η 0 (Int.toNat 9) → zok 0 x2 → (x2 ≤ 6) → ∀ x3 : Int, x3 = η 0 (Int.toNat 9) → zok 0 x3 → (x3 = 1) → ∀ (x4 : Int) (η1 : zE), ((gC2 wl_ne [(nat_lit 0, zPne_wrong, zOne_wrong, zMne_wrong), (nat_lit 1, zPne_isSign, zOne_isSign, zMne_isSign), (nat_lit 2, zPne_token1, zOne_token1, zMne_token1), (nat_lit 3, zPne_grooveLine, zOne_grooveLine, zMne_grooveLine), (nat_lit 4, zPne_scratLine, zOne_scratLine, zMne_scratLine), (nat_lit 5, zPne_guestLine, zOne_guestLine, zMne_guestLine), (nat_lit 6, zPne_onceLine0, zOne_onceLine0, zMne_onceLine0), (nat_lit 7, zPne_onceLine1, zOne_onceLine1, zMne_onceLine1), (nat_lit 8, zPne_onceLine2, zOne_onceLine2, zMne_onceLine2), (nat_lit 9, zPne_sumRead, zOne_sumRead, zMne_sumRead)] pCne_lineRead qCne_lineRead) 4).2 [] η x4 η1 → (x4 = 0) → (fun (_ : Nat) (y : Int) (η' : zE) => pQne_lineRead [] η y η') 0 0 η1 := by
  intro x1 e1 r1 c1 x2 e2 r2 c2 x3 e3 r3 c3 x4 η1 h4 c4
  have y4 : fQne_scratLine [] η x4 η1 := h4.2.2
  have k4 : sQ wl_ne zTr zOne_scratLine zMne_scratLine [] η x4 η1 ∧ oQne_scratLine [] η x4 η1 := ⟨h4.1, h4.2.1⟩
  refine yj_a ?_ ?_
  · have y4 : fQne_scratLine [] η x4 η1 := h4.2.2
    have k4 : sQ wl_ne zTr zOne_scratLine zMne_scratLine [] η x4 η1 ∧ oQne_scratLine [] η x4 η1 := ⟨h4.1, h4.2.1⟩
    have w0_0_8 : (0 : Int) ≤ η 0 8 ∧ η 0 8 ≤ 6 := wf_ok (a := 8) (b := 8) (z := (0, 6)) hp.1 (by decide +kernel) (Nat.le_refl _) (Nat.le_refl _)
    replace e1 : x1 = η 0 8 := e1
    replace e2 : x2 = η 0 9 := e2
    replace r2 : -2147483648 ≤ x2 ∧ x2 ≤ 2147483647 := r2
    replace e3 : x3 = η 0 9 := e3
    replace r3 : -2147483648 ≤ x3 ∧ x3 ≤ 2147483647 := r3
    have w0_0_7 : (0 : Int) ≤ η 0 7 ∧ η 0 7 ≤ 700 := wf_ok (a := 7) (b := 7) (z := (0, 700)) hp.1 (by decide +kernel) (Nat.le_refl _) (Nat.le_refl _)
    have c0_0_7 : η 0 7 = η 0 7 := rfl
    have w0_0_6 : (0 : Int) ≤ η 0 6 ∧ η 0 6 ≤ 700 := wf_ok (a := 6) (b := 6) (z := (0, 700)) hp.1 (by decide +kernel) (Nat.le_refl _) (Nat.le_refl _)
    have c0_0_6 : η 0 6 = η 0 6 := rfl
    have c0_0_8 : η 0 8 = η 0 8 := rfl
    have w0_0_19 : (0 : Int) ≤ η 0 19 ∧ η 0 19 ≤ 64 := wf_ok (a := 19) (b := 19) (z := (0, 64)) hp.1 (by decide +kernel) (Nat.le_refl _) (Nat.le_refl _)
    have c0_0_19 : η 0 19 = η 0 19 := rfl
    have w0_0_44 : (0 : Int) ≤ η 0 44 ∧ η 0 44 ≤ 64 := wf_ok (a := 44) (b := 44) (z := (0, 64)) hp.1 (by decide +kernel) (Nat.le_refl _) (Nat.le_refl _)
    have c0_0_44 : η 0 44 = η 0 44 := rfl
    have bx4 : (0 : Int) ≤ x4 ∧ x4 ≤ 1 := k4.1.2.1
    have w1_0_7 : (0 : Int) ≤ η1 0 7 ∧ η1 0 7 ≤ 700 := wf_ok (a := 7) (b := 7) (z := (0, 700)) k4.1.1 (by decide +kernel) (Nat.le_refl _) (Nat.le_refl _)
    have d1_0_7 : η1 0 7 = η1 0 7 := rfl
    have v7 : zEq (η1 0 6) (η 0 6) := (k4.1.2.2.2.1 0 6 (by decide +kernel)).trans rfl
    have d1_0_6 : η1 0 6 = η 0 6 := v7
    have w1_0_8 : (0 : Int) ≤ η1 0 8 ∧ η1 0 8 ≤ 6 := wf_ok (a := 8) (b := 8) (z := (0, 6)) k4.1.1 (by decide +kernel) (Nat.le_refl _) (Nat.le_refl _)
    have d1_0_8 : η1 0 8 = η1 0 8 := rfl
    have v9 : zEq (η1 0 19) (η 0 19) := (k4.1.2.2.2.1 0 19 (by decide +kernel)).trans rfl
    have d1_0_19 : η1 0 19 = η 0 19 := v9
    have v10 : zEq (η1 0 44) (η 0 44) := (k4.1.2.2.2.1 0 44 (by decide +kernel)).trans rfl
    have d1_0_44 : η1 0 44 = η 0 44 := v10
    have fr16_0 : ∀ j, η 16 j = η 16 j := fun _ => rfl
    have v11 : ∀ j, η1 16 j = η 16 j := fun j => k4.1.2.2.2.1 16 _ (zinr_not (by decide +kernel))
    have fr16_1 : ∀ j, η1 16 j = η 16 j := v11
    have fr18_0 : ∀ j, η 18 j = η 18 j := fun _ => rfl
    have v12 : ∀ j, η1 18 j = η 18 j := fun j => k4.1.2.2.2.1 18 _ (zinr_not (by decide +kernel))
    have fr18_1 : ∀ j, η1 18 j = η 18 j := v12
    have f0_7 : η1 0 7 = η1 0 7 := rfl
    have f0_6 : η1 0 6 = η 0 6 := v7
    have f0_8 : η1 0 8 = η1 0 8 := rfl
    have f0_19 : η1 0 19 = η 0 19 := v9
    have f0_44 : η1 0 44 = η 0 44 := v10
    have qn4 : ¬ x4 = 0 → 10 * (η1 0 6 - η1 0 7) + η1 0 8 < 10 * (η 0 6 - η 0 7) + η 0 8 := k4.2.2
    exact ⟨k4.2.1.1.1, pl_d (k4.2.1.2) (by decide), fun w => absurd (show (0 : Int) = 0 by apply Int.le_antisymm <;> omega) w⟩
  · have e1 : x1 = η 0 8 := e1
    have e2 : x2 = η 0 9 := e2
    have e3 : x3 = η 0 9 := e3
    have f3 : x2 = x3 := e2.trans e3.symm
    subst f3
    obtain ⟨a4, b4⟩ : x4 = (yq_scl η).1 ∧ η1 = (yq_scl η).2 := y4
    show 0 = (yq_lnr η).1 ∧ η1 = (yq_lnr η).2
    simp only [yq_lnr, yq_le, yq_law, yq_lw1, yq_lw2, yq_no, ← e1, ← e2, ← a4, ← b4]
    all_goals (repeat (first | rw [if_pos (by omega)] | rw [if_neg (by omega)]))
    all_goals exact ⟨rfl, rfl⟩
set_option maxHeartbeats 8000000 in
theorem zne_lineRead_o49 {ro : Nat → List Int32} (η : zE) (hp : sP wl_ne zTr zPne_lineRead [] η) (hpp : pPne_lineRead [] η) : ∀ x1 : Int, x1 = η 0 (Int.toNat 8) → zok 0 x1 → (x1 = 1) → ∀ x2 : Int, x2 = η 0 (Int.toNat 9) → zok 0 x2 → (x2 ≤ 6) → ∀ x3 : Int, x3 = η 0 (Int.toNat 9) → zok 0 x3 → (x3 = 2) → ((gC2 wl_ne [(nat_lit 0, zPne_wrong, zOne_wrong, zMne_wrong), (nat_lit 1, zPne_isSign, zOne_isSign, zMne_isSign), (nat_lit 2, zPne_token1, zOne_token1, zMne_token1), (nat_lit 3, zPne_grooveLine, zOne_grooveLine, zMne_grooveLine), (nat_lit 4, zPne_scratLine, zOne_scratLine, zMne_scratLine), (nat_lit 5, zPne_guestLine, zOne_guestLine, zMne_guestLine), (nat_lit 6, zPne_onceLine0, zOne_onceLine0, zMne_onceLine0), (nat_lit 7, zPne_onceLine1, zOne_onceLine1, zMne_onceLine1), (nat_lit 8, zPne_onceLine2, zOne_onceLine2, zMne_onceLine2), (nat_lit 9, zPne_sumRead, zOne_sumRead, zMne_sumRead)] pCne_lineRead qCne_lineRead) 5).1 [] η := by
  intro x1 e1 r1 c1 x2 e2 r2 c2 x3 e3 r3 c3
  have w0_0_8 : (0 : Int) ≤ η 0 8 ∧ η 0 8 ≤ 6 := wf_ok (a := 8) (b := 8) (z := (0, 6)) hp.1 (by decide +kernel) (Nat.le_refl _) (Nat.le_refl _)
  replace e1 : x1 = η 0 8 := e1
  replace e2 : x2 = η 0 9 := e2
  replace r2 : -2147483648 ≤ x2 ∧ x2 ≤ 2147483647 := r2
  replace e3 : x3 = η 0 9 := e3
  replace r3 : -2147483648 ≤ x3 ∧ x3 ≤ 2147483647 := r3
  have fr16_0 : ∀ j, η 16 j = η 16 j := fun _ => rfl
  have fr18_0 : ∀ j, η 18 j = η 18 j := fun _ => rfl
  have w0_0_7 : (0 : Int) ≤ η 0 7 ∧ η 0 7 ≤ 700 := wf_ok (a := 7) (b := 7) (z := (0, 700)) hp.1 (by decide +kernel) (Nat.le_refl _) (Nat.le_refl _)
  have f0_7 : η 0 7 = η 0 7 := rfl
  have w0_0_6 : (0 : Int) ≤ η 0 6 ∧ η 0 6 ≤ 700 := wf_ok (a := 6) (b := 6) (z := (0, 700)) hp.1 (by decide +kernel) (Nat.le_refl _) (Nat.le_refl _)
  have f0_6 : η 0 6 = η 0 6 := rfl
  have f0_8 : η 0 8 = η 0 8 := rfl
  have w0_0_19 : (0 : Int) ≤ η 0 19 ∧ η 0 19 ≤ 64 := wf_ok (a := 19) (b := 19) (z := (0, 64)) hp.1 (by decide +kernel) (Nat.le_refl _) (Nat.le_refl _)
  have f0_19 : η 0 19 = η 0 19 := rfl
  have w0_0_44 : (0 : Int) ≤ η 0 44 ∧ η 0 44 ≤ 64 := wf_ok (a := 44) (b := 44) (z := (0, 64)) hp.1 (by decide +kernel) (Nat.le_refl _) (Nat.le_refl _)
  have f0_44 : η 0 44 = η 0 44 := rfl
  exact ⟨⟨hpp.1, hpp.2⟩, show ¬ η 0 8 = 0 by omega⟩
set_option maxHeartbeats 8000000 in
theorem zne_lineRead_o50 {ro : Nat → List Int32} (η : zE) (hp : sP wl_ne zTr zPne_lineRead [] η) (hpp : pPne_lineRead [] η) : ∀ x1 : Int, x1 = η 0 (Int.toNat 8) → zok 0 x1 → (x1 = 1) → ∀ x2 : Int, x2 = η 0 (Int.toNat 9) → zok 0 x2 → (x2 ≤ 6) → ∀ x3 : Int, x3 = η 0 (Int.toNat 9) → zok 0 x3 → (x3 = 2) → ∀ (x4 : Int) (η1 : zE), ((gC2 wl_ne [(nat_lit 0, zPne_wrong, zOne_wrong, zMne_wrong), (nat_lit 1, zPne_isSign, zOne_isSign, zMne_isSign), (nat_lit 2, zPne_token1, zOne_token1, zMne_token1), (nat_lit 3, zPne_grooveLine, zOne_grooveLine, zMne_grooveLine), (nat_lit 4, zPne_scratLine, zOne_scratLine, zMne_scratLine), (nat_lit 5, zPne_guestLine, zOne_guestLine, zMne_guestLine), (nat_lit 6, zPne_onceLine0, zOne_onceLine0, zMne_onceLine0), (nat_lit 7, zPne_onceLine1, zOne_onceLine1, zMne_onceLine1), (nat_lit 8, zPne_onceLine2, zOne_onceLine2, zMne_onceLine2), (nat_lit 9, zPne_sumRead, zOne_sumRead, zMne_sumRead)] pCne_lineRead qCne_lineRead) 5).2 [] η x4 η1 → (¬ x4 = 0) → ((gC2 wl_ne [(nat_lit 0, zPne_wrong, zOne_wrong, zMne_wrong), (nat_lit 1, zPne_isSign, zOne_isSign, zMne_isSign), (nat_lit 2, zPne_token1, zOne_token1, zMne_token1), (nat_lit 3, zPne_grooveLine, zOne_grooveLine, zMne_grooveLine), (nat_lit 4, zPne_scratLine, zOne_scratLine, zMne_scratLine), (nat_lit 5, zPne_guestLine, zOne_guestLine, zMne_guestLine), (nat_lit 6, zPne_onceLine0, zOne_onceLine0, zMne_onceLine0), (nat_lit 7, zPne_onceLine1, zOne_onceLine1, zMne_onceLine1), (nat_lit 8, zPne_onceLine2, zOne_onceLine2, zMne_onceLine2), (nat_lit 9, zPne_sumRead, zOne_sumRead, zMne_sumRead)] pCne_lineRead qCne_lineRead) 1).1 [59] η1 := by
  intro x1 e1 r1 c1 x2 e2 r2 c2 x3 e3 r3 c3 x4 η1 h4 c4
  have y4 : fQne_guestLine [] η x4 η1 := h4.2.2
  have k4 : sQ wl_ne zTr zOne_guestLine zMne_guestLine [] η x4 η1 ∧ oQne_guestLine [] η x4 η1 := ⟨h4.1, h4.2.1⟩
  have w0_0_8 : (0 : Int) ≤ η 0 8 ∧ η 0 8 ≤ 6 := wf_ok (a := 8) (b := 8) (z := (0, 6)) hp.1 (by decide +kernel) (Nat.le_refl _) (Nat.le_refl _)
  replace e1 : x1 = η 0 8 := e1
  replace e2 : x2 = η 0 9 := e2
  replace r2 : -2147483648 ≤ x2 ∧ x2 ≤ 2147483647 := r2
  replace e3 : x3 = η 0 9 := e3
  replace r3 : -2147483648 ≤ x3 ∧ x3 ≤ 2147483647 := r3
  have w0_0_7 : (0 : Int) ≤ η 0 7 ∧ η 0 7 ≤ 700 := wf_ok (a := 7) (b := 7) (z := (0, 700)) hp.1 (by decide +kernel) (Nat.le_refl _) (Nat.le_refl _)
  have c0_0_7 : η 0 7 = η 0 7 := rfl
  have w0_0_6 : (0 : Int) ≤ η 0 6 ∧ η 0 6 ≤ 700 := wf_ok (a := 6) (b := 6) (z := (0, 700)) hp.1 (by decide +kernel) (Nat.le_refl _) (Nat.le_refl _)
  have c0_0_6 : η 0 6 = η 0 6 := rfl
  have c0_0_8 : η 0 8 = η 0 8 := rfl
  have w0_0_19 : (0 : Int) ≤ η 0 19 ∧ η 0 19 ≤ 64 := wf_ok (a := 19) (b := 19) (z := (0, 64)) hp.1 (by decide +kernel) (Nat.le_refl _) (Nat.le_refl _)
  have c0_0_19 : η 0 19 = η 0 19 := rfl
  have w0_0_44 : (0 : Int) ≤ η 0 44 ∧ η 0 44 ≤ 64 := wf_ok (a := 44) (b := 44) (z := (0, 64)) hp.1 (by decide +kernel) (Nat.le_refl _) (Nat.le_refl _)
  have c0_0_44 : η 0 44 = η 0 44 := rfl
  have bx4 : (0 : Int) ≤ x4 ∧ x4 ≤ 1 := k4.1.2.1
  have w1_0_7 : (0 : Int) ≤ η1 0 7 ∧ η1 0 7 ≤ 700 := wf_ok (a := 7) (b := 7) (z := (0, 700)) k4.1.1 (by decide +kernel) (Nat.le_refl _) (Nat.le_refl _)
  have d1_0_7 : η1 0 7 = η1 0 7 := rfl
  have v7 : zEq (η1 0 6) (η 0 6) := (k4.1.2.2.2.1 0 6 (by decide +kernel)).trans rfl
  have d1_0_6 : η1 0 6 = η 0 6 := v7
  have w1_0_8 : (0 : Int) ≤ η1 0 8 ∧ η1 0 8 ≤ 6 := wf_ok (a := 8) (b := 8) (z := (0, 6)) k4.1.1 (by decide +kernel) (Nat.le_refl _) (Nat.le_refl _)
  have d1_0_8 : η1 0 8 = η1 0 8 := rfl
  have v9 : zEq (η1 0 19) (η 0 19) := (k4.1.2.2.2.1 0 19 (by decide +kernel)).trans rfl
  have d1_0_19 : η1 0 19 = η 0 19 := v9
  have v10 : zEq (η1 0 44) (η 0 44) := (k4.1.2.2.2.1 0 44 (by decide +kernel)).trans rfl
  have d1_0_44 : η1 0 44 = η 0 44 := v10
  have fr16_0 : ∀ j, η 16 j = η 16 j := fun _ => rfl
  have v11 : ∀ j, η1 16 j = η 16 j := fun j => k4.1.2.2.2.1 16 _ (zinr_not (by decide +kernel))
  have fr16_1 : ∀ j, η1 16 j = η 16 j := v11
  have fr18_0 : ∀ j, η 18 j = η 18 j := fun _ => rfl
  have v12 : ∀ j, η1 18 j = η 18 j := fun j => k4.1.2.2.2.1 18 _ (zinr_not (by decide +kernel))
  have fr18_1 : ∀ j, η1 18 j = η 18 j := v12
  have f0_7 : η1 0 7 = η1 0 7 := rfl
  have f0_6 : η1 0 6 = η 0 6 := v7
  have f0_8 : η1 0 8 = η1 0 8 := rfl
  have f0_19 : η1 0 19 = η 0 19 := v9
  have f0_44 : η1 0 44 = η 0 44 := v10
  have qn4 : ¬ x4 = 0 → 10 * (η1 0 6 - η1 0 7) + η1 0 8 < 10 * (η 0 6 - η 0 7) + η 0 8 := k4.2.2
  exact ⟨k4.2.1.1, k4.2.1.2⟩
set_option maxHeartbeats 8000000 in
theorem zne_lineRead_o51 {ro : Nat → List Int32} (η : zE) (hp : sP wl_ne zTr zPne_lineRead [] η) (hpp : pPne_lineRead [] η) : ∀ x1 : Int, x1 = η 0 (Int.toNat 8) → zok 0 x1 → (x1 = 1) → ∀ x2 : Int, x2 = η 0 (Int.toNat 9) → zok 0 x2 → (x2 ≤ 6) → ∀ x3 : Int, x3 = η 0 (Int.toNat 9) → zok 0 x3 → (x3 = 2) → ∀ (x4 : Int) (η1 : zE), ((gC2 wl_ne [(nat_lit 0, zPne_wrong, zOne_wrong, zMne_wrong), (nat_lit 1, zPne_isSign, zOne_isSign, zMne_isSign), (nat_lit 2, zPne_token1, zOne_token1, zMne_token1), (nat_lit 3, zPne_grooveLine, zOne_grooveLine, zMne_grooveLine), (nat_lit 4, zPne_scratLine, zOne_scratLine, zMne_scratLine), (nat_lit 5, zPne_guestLine, zOne_guestLine, zMne_guestLine), (nat_lit 6, zPne_onceLine0, zOne_onceLine0, zMne_onceLine0), (nat_lit 7, zPne_onceLine1, zOne_onceLine1, zMne_onceLine1), (nat_lit 8, zPne_onceLine2, zOne_onceLine2, zMne_onceLine2), (nat_lit 9, zPne_sumRead, zOne_sumRead, zMne_sumRead)] pCne_lineRead qCne_lineRead) 5).2 [] η x4 η1 → (¬ x4 = 0) → ∀ (x5 : Int) (η2 : zE), ((gC2 wl_ne [(nat_lit 0, zPne_wrong, zOne_wrong, zMne_wrong), (nat_lit 1, zPne_isSign, zOne_isSign, zMne_isSign), (nat_lit 2, zPne_token1, zOne_token1, zMne_token1), (nat_lit 3, zPne_grooveLine, zOne_grooveLine, zMne_grooveLine), (nat_lit 4, zPne_scratLine, zOne_scratLine, zMne_scratLine), (nat_lit 5, zPne_guestLine, zOne_guestLine, zMne_guestLine), (nat_lit 6, zPne_onceLine0, zOne_onceLine0, zMne_onceLine0), (nat_lit 7, zPne_onceLine1, zOne_onceLine1, zMne_onceLine1), (nat_lit 8, zPne_onceLine2, zOne_onceLine2, zMne_onceLine2), (nat_lit 9, zPne_sumRead, zOne_sumRead, zMne_sumRead)] pCne_lineRead qCne_lineRead) 1).2 [59] η1 x5 η2 → (¬ x5 = 0) → ((gC2 wl_ne [(nat_lit 0, zPne_wrong, zOne_wrong, zMne_wrong), (nat_lit 1, zPne_isSign, zOne_isSign, zMne_isSign), (nat_lit 2, zPne_token1, zOne_token1, zMne_token1), (nat_lit 3, zPne_grooveLine, zOne_grooveLine, zMne_grooveLine), (nat_lit 4, zPne_scratLine, zOne_scratLine, zMne_scratLine), (nat_lit 5, zPne_guestLine, zOne_guestLine, zMne_guestLine), (nat_lit 6, zPne_onceLine0, zOne_onceLine0, zMne_onceLine0), (nat_lit 7, zPne_onceLine1, zOne_onceLine1, zMne_onceLine1), (nat_lit 8, zPne_onceLine2, zOne_onceLine2, zMne_onceLine2), (nat_lit 9, zPne_sumRead, zOne_sumRead, zMne_sumRead)] pCne_lineRead qCne_lineRead) 2).1 [] η2 := by
  intro x1 e1 r1 c1 x2 e2 r2 c2 x3 e3 r3 c3 x4 η1 h4 c4 x5 η2 h5 c5
  have y4 : fQne_guestLine [] η x4 η1 := h4.2.2
  have k4 : sQ wl_ne zTr zOne_guestLine zMne_guestLine [] η x4 η1 ∧ oQne_guestLine [] η x4 η1 := ⟨h4.1, h4.2.1⟩
  have y5 : fQne_isSign [59] η1 x5 η2 := h5.2.2
  have k5 : sQ wl_ne zTr zOne_isSign zMne_isSign [59] η1 x5 η2 ∧ oQne_isSign [59] η1 x5 η2 := ⟨h5.1, h5.2.1⟩
  have w0_0_8 : (0 : Int) ≤ η 0 8 ∧ η 0 8 ≤ 6 := wf_ok (a := 8) (b := 8) (z := (0, 6)) hp.1 (by decide +kernel) (Nat.le_refl _) (Nat.le_refl _)
  replace e1 : x1 = η 0 8 := e1
  replace e2 : x2 = η 0 9 := e2
  replace r2 : -2147483648 ≤ x2 ∧ x2 ≤ 2147483647 := r2
  replace e3 : x3 = η 0 9 := e3
  replace r3 : -2147483648 ≤ x3 ∧ x3 ≤ 2147483647 := r3
  have w0_0_7 : (0 : Int) ≤ η 0 7 ∧ η 0 7 ≤ 700 := wf_ok (a := 7) (b := 7) (z := (0, 700)) hp.1 (by decide +kernel) (Nat.le_refl _) (Nat.le_refl _)
  have c0_0_7 : η 0 7 = η 0 7 := rfl
  have w0_0_6 : (0 : Int) ≤ η 0 6 ∧ η 0 6 ≤ 700 := wf_ok (a := 6) (b := 6) (z := (0, 700)) hp.1 (by decide +kernel) (Nat.le_refl _) (Nat.le_refl _)
  have c0_0_6 : η 0 6 = η 0 6 := rfl
  have c0_0_8 : η 0 8 = η 0 8 := rfl
  have w0_0_19 : (0 : Int) ≤ η 0 19 ∧ η 0 19 ≤ 64 := wf_ok (a := 19) (b := 19) (z := (0, 64)) hp.1 (by decide +kernel) (Nat.le_refl _) (Nat.le_refl _)
  have c0_0_19 : η 0 19 = η 0 19 := rfl
  have w0_0_44 : (0 : Int) ≤ η 0 44 ∧ η 0 44 ≤ 64 := wf_ok (a := 44) (b := 44) (z := (0, 64)) hp.1 (by decide +kernel) (Nat.le_refl _) (Nat.le_refl _)
  have c0_0_44 : η 0 44 = η 0 44 := rfl
  have bx4 : (0 : Int) ≤ x4 ∧ x4 ≤ 1 := k4.1.2.1
  have w1_0_7 : (0 : Int) ≤ η1 0 7 ∧ η1 0 7 ≤ 700 := wf_ok (a := 7) (b := 7) (z := (0, 700)) k4.1.1 (by decide +kernel) (Nat.le_refl _) (Nat.le_refl _)
  have d1_0_7 : η1 0 7 = η1 0 7 := rfl
  have v7 : zEq (η1 0 6) (η 0 6) := (k4.1.2.2.2.1 0 6 (by decide +kernel)).trans rfl
  have d1_0_6 : η1 0 6 = η 0 6 := v7
  have w1_0_8 : (0 : Int) ≤ η1 0 8 ∧ η1 0 8 ≤ 6 := wf_ok (a := 8) (b := 8) (z := (0, 6)) k4.1.1 (by decide +kernel) (Nat.le_refl _) (Nat.le_refl _)
  have d1_0_8 : η1 0 8 = η1 0 8 := rfl
  have v9 : zEq (η1 0 19) (η 0 19) := (k4.1.2.2.2.1 0 19 (by decide +kernel)).trans rfl
  have d1_0_19 : η1 0 19 = η 0 19 := v9
  have v10 : zEq (η1 0 44) (η 0 44) := (k4.1.2.2.2.1 0 44 (by decide +kernel)).trans rfl
  have d1_0_44 : η1 0 44 = η 0 44 := v10
  have c1_0_7 : η1 0 7 = η1 0 7 := rfl
  have c1_0_6 : η1 0 6 = η 0 6 := v7
  have c1_0_8 : η1 0 8 = η1 0 8 := rfl
  have c1_0_19 : η1 0 19 = η 0 19 := v9
  have c1_0_44 : η1 0 44 = η 0 44 := v10
  have bx5 : (0 : Int) ≤ x5 ∧ x5 ≤ 1 := k5.1.2.1
  have v11 : zEq (η2 0 7) (η1 0 7) := (k5.1.2.2.2.1 0 7 (by decide +kernel)).trans rfl
  have d2_0_7 : η2 0 7 = η1 0 7 := v11
  have v12 : zEq (η2 0 6) (η 0 6) := (k5.1.2.2.2.1 0 6 (by decide +kernel)).trans v7
  have d2_0_6 : η2 0 6 = η 0 6 := v12
  have v13 : zEq (η2 0 8) (η1 0 8) := (k5.1.2.2.2.1 0 8 (by decide +kernel)).trans rfl
  have d2_0_8 : η2 0 8 = η1 0 8 := v13
  have v14 : zEq (η2 0 19) (η 0 19) := (k5.1.2.2.2.1 0 19 (by decide +kernel)).trans v9
  have d2_0_19 : η2 0 19 = η 0 19 := v14
  have v15 : zEq (η2 0 44) (η 0 44) := (k5.1.2.2.2.1 0 44 (by decide +kernel)).trans v10
  have d2_0_44 : η2 0 44 = η 0 44 := v15
  have fr16_0 : ∀ j, η 16 j = η 16 j := fun _ => rfl
  have v16 : ∀ j, η1 16 j = η 16 j := fun j => k4.1.2.2.2.1 16 _ (zinr_not (by decide +kernel))
  have fr16_1 : ∀ j, η1 16 j = η 16 j := v16
  have v17 : ∀ j, η2 16 j = η 16 j := fun j => (k5.1.2.2.2.1 16 _ (zinr_not (by decide +kernel))).trans (v16 j)
  have fr16_2 : ∀ j, η2 16 j = η 16 j := v17
  have fr18_0 : ∀ j, η 18 j = η 18 j := fun _ => rfl
  have v18 : ∀ j, η1 18 j = η 18 j := fun j => k4.1.2.2.2.1 18 _ (zinr_not (by decide +kernel))
  have fr18_1 : ∀ j, η1 18 j = η 18 j := v18
  have v19 : ∀ j, η2 18 j = η 18 j := fun j => (k5.1.2.2.2.1 18 _ (zinr_not (by decide +kernel))).trans (v18 j)
  have fr18_2 : ∀ j, η2 18 j = η 18 j := v19
  have f0_7 : η2 0 7 = η1 0 7 := v11
  have f0_6 : η2 0 6 = η 0 6 := v12
  have f0_8 : η2 0 8 = η1 0 8 := v13
  have f0_19 : η2 0 19 = η 0 19 := v14
  have f0_44 : η2 0 44 = η 0 44 := v15
  have qn4 : ¬ x4 = 0 → 10 * (η1 0 6 - η1 0 7) + η1 0 8 < 10 * (η 0 6 - η 0 7) + η 0 8 := k4.2.2
  have qs5 : ¬ x5 = 0 → η1 0 8 = 4 := k5.2.2
  exact k5.2.1.1
set_option maxHeartbeats 8000000 in
theorem zne_lineRead_o52 {ro : Nat → List Int32} (η : zE) (hp : sP wl_ne zTr zPne_lineRead [] η) (hpp : pPne_lineRead [] η) : ∀ x1 : Int, x1 = η 0 (Int.toNat 8) → zok 0 x1 → (x1 = 1) → ∀ x2 : Int, x2 = η 0 (Int.toNat 9) → zok 0 x2 → (x2 ≤ 6) → ∀ x3 : Int, x3 = η 0 (Int.toNat 9) → zok 0 x3 → (x3 = 2) → ∀ (x4 : Int) (η1 : zE), ((gC2 wl_ne [(nat_lit 0, zPne_wrong, zOne_wrong, zMne_wrong), (nat_lit 1, zPne_isSign, zOne_isSign, zMne_isSign), (nat_lit 2, zPne_token1, zOne_token1, zMne_token1), (nat_lit 3, zPne_grooveLine, zOne_grooveLine, zMne_grooveLine), (nat_lit 4, zPne_scratLine, zOne_scratLine, zMne_scratLine), (nat_lit 5, zPne_guestLine, zOne_guestLine, zMne_guestLine), (nat_lit 6, zPne_onceLine0, zOne_onceLine0, zMne_onceLine0), (nat_lit 7, zPne_onceLine1, zOne_onceLine1, zMne_onceLine1), (nat_lit 8, zPne_onceLine2, zOne_onceLine2, zMne_onceLine2), (nat_lit 9, zPne_sumRead, zOne_sumRead, zMne_sumRead)] pCne_lineRead qCne_lineRead) 5).2 [] η x4 η1 → (¬ x4 = 0) → ∀ (x5 : Int) (η2 : zE), ((gC2 wl_ne [(nat_lit 0, zPne_wrong, zOne_wrong, zMne_wrong), (nat_lit 1, zPne_isSign, zOne_isSign, zMne_isSign), (nat_lit 2, zPne_token1, zOne_token1, zMne_token1), (nat_lit 3, zPne_grooveLine, zOne_grooveLine, zMne_grooveLine), (nat_lit 4, zPne_scratLine, zOne_scratLine, zMne_scratLine), (nat_lit 5, zPne_guestLine, zOne_guestLine, zMne_guestLine), (nat_lit 6, zPne_onceLine0, zOne_onceLine0, zMne_onceLine0), (nat_lit 7, zPne_onceLine1, zOne_onceLine1, zMne_onceLine1), (nat_lit 8, zPne_onceLine2, zOne_onceLine2, zMne_onceLine2), (nat_lit 9, zPne_sumRead, zOne_sumRead, zMne_sumRead)] pCne_lineRead qCne_lineRead) 1).2 [59] η1 x5 η2 → (¬ x5 = 0) → ∀ (x6 : Int) (η3 : zE), ((gC2 wl_ne [(nat_lit 0, zPne_wrong, zOne_wrong, zMne_wrong), (nat_lit 1, zPne_isSign, zOne_isSign, zMne_isSign), (nat_lit 2, zPne_token1, zOne_token1, zMne_token1), (nat_lit 3, zPne_grooveLine, zOne_grooveLine, zMne_grooveLine), (nat_lit 4, zPne_scratLine, zOne_scratLine, zMne_scratLine), (nat_lit 5, zPne_guestLine, zOne_guestLine, zMne_guestLine), (nat_lit 6, zPne_onceLine0, zOne_onceLine0, zMne_onceLine0), (nat_lit 7, zPne_onceLine1, zOne_onceLine1, zMne_onceLine1), (nat_lit 8, zPne_onceLine2, zOne_onceLine2, zMne_onceLine2), (nat_lit 9, zPne_sumRead, zOne_sumRead, zMne_sumRead)] pCne_lineRead qCne_lineRead) 2).2 [] η2 x6 η3 → (fun (_ : Nat) (y : Int) (η' : zE) => pQne_lineRead [] η y η') 0 1 η3 := by
  intro x1 e1 r1 c1 x2 e2 r2 c2 x3 e3 r3 c3 x4 η1 h4 c4 x5 η2 h5 c5 x6 η3 h6
  have y4 : fQne_guestLine [] η x4 η1 := h4.2.2
  have k4 : sQ wl_ne zTr zOne_guestLine zMne_guestLine [] η x4 η1 ∧ oQne_guestLine [] η x4 η1 := ⟨h4.1, h4.2.1⟩
  have y5 : fQne_isSign [59] η1 x5 η2 := h5.2.2
  have k5 : sQ wl_ne zTr zOne_isSign zMne_isSign [59] η1 x5 η2 ∧ oQne_isSign [59] η1 x5 η2 := ⟨h5.1, h5.2.1⟩
  have y6 : fQne_token1 [] η2 x6 η3 := h6.2.2
  have k6 : sQ wl_ne zTr zOne_token1 zMne_token1 [] η2 x6 η3 ∧ oQne_token1 [] η2 x6 η3 := ⟨h6.1, h6.2.1⟩
  refine yj_a ?_ ?_
  · have y4 : fQne_guestLine [] η x4 η1 := h4.2.2
    have k4 : sQ wl_ne zTr zOne_guestLine zMne_guestLine [] η x4 η1 ∧ oQne_guestLine [] η x4 η1 := ⟨h4.1, h4.2.1⟩
    have y5 : fQne_isSign [59] η1 x5 η2 := h5.2.2
    have k5 : sQ wl_ne zTr zOne_isSign zMne_isSign [59] η1 x5 η2 ∧ oQne_isSign [59] η1 x5 η2 := ⟨h5.1, h5.2.1⟩
    have y6 : fQne_token1 [] η2 x6 η3 := h6.2.2
    have k6 : sQ wl_ne zTr zOne_token1 zMne_token1 [] η2 x6 η3 ∧ oQne_token1 [] η2 x6 η3 := ⟨h6.1, h6.2.1⟩
    have w0_0_8 : (0 : Int) ≤ η 0 8 ∧ η 0 8 ≤ 6 := wf_ok (a := 8) (b := 8) (z := (0, 6)) hp.1 (by decide +kernel) (Nat.le_refl _) (Nat.le_refl _)
    replace e1 : x1 = η 0 8 := e1
    replace e2 : x2 = η 0 9 := e2
    replace r2 : -2147483648 ≤ x2 ∧ x2 ≤ 2147483647 := r2
    replace e3 : x3 = η 0 9 := e3
    replace r3 : -2147483648 ≤ x3 ∧ x3 ≤ 2147483647 := r3
    have w0_0_7 : (0 : Int) ≤ η 0 7 ∧ η 0 7 ≤ 700 := wf_ok (a := 7) (b := 7) (z := (0, 700)) hp.1 (by decide +kernel) (Nat.le_refl _) (Nat.le_refl _)
    have c0_0_7 : η 0 7 = η 0 7 := rfl
    have w0_0_6 : (0 : Int) ≤ η 0 6 ∧ η 0 6 ≤ 700 := wf_ok (a := 6) (b := 6) (z := (0, 700)) hp.1 (by decide +kernel) (Nat.le_refl _) (Nat.le_refl _)
    have c0_0_6 : η 0 6 = η 0 6 := rfl
    have c0_0_8 : η 0 8 = η 0 8 := rfl
    have w0_0_19 : (0 : Int) ≤ η 0 19 ∧ η 0 19 ≤ 64 := wf_ok (a := 19) (b := 19) (z := (0, 64)) hp.1 (by decide +kernel) (Nat.le_refl _) (Nat.le_refl _)
    have c0_0_19 : η 0 19 = η 0 19 := rfl
    have w0_0_44 : (0 : Int) ≤ η 0 44 ∧ η 0 44 ≤ 64 := wf_ok (a := 44) (b := 44) (z := (0, 64)) hp.1 (by decide +kernel) (Nat.le_refl _) (Nat.le_refl _)
    have c0_0_44 : η 0 44 = η 0 44 := rfl
    have bx4 : (0 : Int) ≤ x4 ∧ x4 ≤ 1 := k4.1.2.1
    have w1_0_7 : (0 : Int) ≤ η1 0 7 ∧ η1 0 7 ≤ 700 := wf_ok (a := 7) (b := 7) (z := (0, 700)) k4.1.1 (by decide +kernel) (Nat.le_refl _) (Nat.le_refl _)
    have d1_0_7 : η1 0 7 = η1 0 7 := rfl
    have v7 : zEq (η1 0 6) (η 0 6) := (k4.1.2.2.2.1 0 6 (by decide +kernel)).trans rfl
    have d1_0_6 : η1 0 6 = η 0 6 := v7
    have w1_0_8 : (0 : Int) ≤ η1 0 8 ∧ η1 0 8 ≤ 6 := wf_ok (a := 8) (b := 8) (z := (0, 6)) k4.1.1 (by decide +kernel) (Nat.le_refl _) (Nat.le_refl _)
    have d1_0_8 : η1 0 8 = η1 0 8 := rfl
    have v9 : zEq (η1 0 19) (η 0 19) := (k4.1.2.2.2.1 0 19 (by decide +kernel)).trans rfl
    have d1_0_19 : η1 0 19 = η 0 19 := v9
    have v10 : zEq (η1 0 44) (η 0 44) := (k4.1.2.2.2.1 0 44 (by decide +kernel)).trans rfl
    have d1_0_44 : η1 0 44 = η 0 44 := v10
    have c1_0_7 : η1 0 7 = η1 0 7 := rfl
    have c1_0_6 : η1 0 6 = η 0 6 := v7
    have c1_0_8 : η1 0 8 = η1 0 8 := rfl
    have c1_0_19 : η1 0 19 = η 0 19 := v9
    have c1_0_44 : η1 0 44 = η 0 44 := v10
    have bx5 : (0 : Int) ≤ x5 ∧ x5 ≤ 1 := k5.1.2.1
    have v11 : zEq (η2 0 7) (η1 0 7) := (k5.1.2.2.2.1 0 7 (by decide +kernel)).trans rfl
    have d2_0_7 : η2 0 7 = η1 0 7 := v11
    have v12 : zEq (η2 0 6) (η 0 6) := (k5.1.2.2.2.1 0 6 (by decide +kernel)).trans v7
    have d2_0_6 : η2 0 6 = η 0 6 := v12
    have v13 : zEq (η2 0 8) (η1 0 8) := (k5.1.2.2.2.1 0 8 (by decide +kernel)).trans rfl
    have d2_0_8 : η2 0 8 = η1 0 8 := v13
    have v14 : zEq (η2 0 19) (η 0 19) := (k5.1.2.2.2.1 0 19 (by decide +kernel)).trans v9
    have d2_0_19 : η2 0 19 = η 0 19 := v14
    have v15 : zEq (η2 0 44) (η 0 44) := (k5.1.2.2.2.1 0 44 (by decide +kernel)).trans v10
    have d2_0_44 : η2 0 44 = η 0 44 := v15
    have c2_0_7 : η2 0 7 = η1 0 7 := v11
    have c2_0_6 : η2 0 6 = η 0 6 := v12
    have c2_0_8 : η2 0 8 = η1 0 8 := v13
    have c2_0_19 : η2 0 19 = η 0 19 := v14
    have c2_0_44 : η2 0 44 = η 0 44 := v15
    have bx6 : (0 : Int) ≤ x6 ∧ x6 ≤ 0 := k6.1.2.1
    have w3_0_7 : (0 : Int) ≤ η3 0 7 ∧ η3 0 7 ≤ 700 := wf_ok (a := 7) (b := 7) (z := (0, 700)) k6.1.1 (by decide +kernel) (Nat.le_refl _) (Nat.le_refl _)
    have d3_0_7 : η3 0 7 = η3 0 7 := rfl
    have v17 : zEq (η3 0 6) (η 0 6) := (k6.1.2.2.2.1 0 6 (by decide +kernel)).trans v12
    have d3_0_6 : η3 0 6 = η 0 6 := v17
    have w3_0_8 : (0 : Int) ≤ η3 0 8 ∧ η3 0 8 ≤ 6 := wf_ok (a := 8) (b := 8) (z := (0, 6)) k6.1.1 (by decide +kernel) (Nat.le_refl _) (Nat.le_refl _)
    have d3_0_8 : η3 0 8 = η3 0 8 := rfl
    have v19 : zEq (η3 0 19) (η 0 19) := (k6.1.2.2.2.1 0 19 (by decide +kernel)).trans v14
    have d3_0_19 : η3 0 19 = η 0 19 := v19
    have v20 : zEq (η3 0 44) (η 0 44) := (k6.1.2.2.2.1 0 44 (by decide +kernel)).trans v15
    have d3_0_44 : η3 0 44 = η 0 44 := v20
    have fr16_0 : ∀ j, η 16 j = η 16 j := fun _ => rfl
    have v21 : ∀ j, η1 16 j = η 16 j := fun j => k4.1.2.2.2.1 16 _ (zinr_not (by decide +kernel))
    have fr16_1 : ∀ j, η1 16 j = η 16 j := v21
    have v22 : ∀ j, η2 16 j = η 16 j := fun j => (k5.1.2.2.2.1 16 _ (zinr_not (by decide +kernel))).trans (v21 j)
    have fr16_2 : ∀ j, η2 16 j = η 16 j := v22
    have v23 : ∀ j, η3 16 j = η 16 j := fun j => (k6.1.2.2.2.1 16 _ (zinr_not (by decide +kernel))).trans (v22 j)
    have fr16_3 : ∀ j, η3 16 j = η 16 j := v23
    have fr18_0 : ∀ j, η 18 j = η 18 j := fun _ => rfl
    have v24 : ∀ j, η1 18 j = η 18 j := fun j => k4.1.2.2.2.1 18 _ (zinr_not (by decide +kernel))
    have fr18_1 : ∀ j, η1 18 j = η 18 j := v24
    have v25 : ∀ j, η2 18 j = η 18 j := fun j => (k5.1.2.2.2.1 18 _ (zinr_not (by decide +kernel))).trans (v24 j)
    have fr18_2 : ∀ j, η2 18 j = η 18 j := v25
    have v26 : ∀ j, η3 18 j = η 18 j := fun j => (k6.1.2.2.2.1 18 _ (zinr_not (by decide +kernel))).trans (v25 j)
    have fr18_3 : ∀ j, η3 18 j = η 18 j := v26
    have f0_7 : η3 0 7 = η3 0 7 := rfl
    have f0_6 : η3 0 6 = η 0 6 := v17
    have f0_8 : η3 0 8 = η3 0 8 := rfl
    have f0_19 : η3 0 19 = η 0 19 := v19
    have f0_44 : η3 0 44 = η 0 44 := v20
    have qn4 : ¬ x4 = 0 → 10 * (η1 0 6 - η1 0 7) + η1 0 8 < 10 * (η 0 6 - η 0 7) + η 0 8 := k4.2.2
    have qs5 : ¬ x5 = 0 → η1 0 8 = 4 := k5.2.2
    have qt6 : ¬ η2 0 8 = 0 → 10 * (η3 0 6 - η3 0 7) + η3 0 8 < 10 * (η2 0 6 - η2 0 7) + η2 0 8 := k6.2.2
    have P3 : PL_n 6 η3 := zGk_fm2 plk_n (k5.2.1.2) k6.1.2.2.2.1 (by decide +kernel)
    exact ⟨k6.2.1.1, pl_d (P3) (by decide), fun _ => ⟨⟨k6.2.1, P3⟩, show 10 * (η3 0 6 - η3 0 7) + η3 0 8 < 10 * (η 0 6 - η 0 7) + η 0 8 by omega⟩⟩
  · have e1 : x1 = η 0 8 := e1
    have e2 : x2 = η 0 9 := e2
    have e3 : x3 = η 0 9 := e3
    have f3 : x2 = x3 := e2.trans e3.symm
    subst f3
    obtain ⟨a4, b4⟩ : x4 = (yq_gul η).1 ∧ η1 = (yq_gul η).2 := y4
    obtain ⟨a5, b5⟩ : x5 = (yq_isS 59 η1) ∧ η1 = η2 := ⟨y5.1, y5.2.symm⟩
    subst b5
    have b6 : η3 = (yq_tok η1) := y6
    show 1 = (yq_lnr η).1 ∧ η3 = (yq_lnr η).2
    simp only [yq_lnr, yq_le, yq_law, yq_lw1, yq_lw2, yq_no, ← e1, ← e2, ← a4, ← b4, ← a5, ← b6]
    all_goals (repeat (first | rw [if_pos (by omega)] | rw [if_neg (by omega)]))
    all_goals exact ⟨rfl, rfl⟩
set_option maxHeartbeats 8000000 in
theorem zne_lineRead_o53 {ro : Nat → List Int32} (η : zE) (hp : sP wl_ne zTr zPne_lineRead [] η) (hpp : pPne_lineRead [] η) : ∀ x1 : Int, x1 = η 0 (Int.toNat 8) → zok 0 x1 → (x1 = 1) → ∀ x2 : Int, x2 = η 0 (Int.toNat 9) → zok 0 x2 → (x2 ≤ 6) → ∀ x3 : Int, x3 = η 0 (Int.toNat 9) → zok 0 x3 → (x3 = 2) → ∀ (x4 : Int) (η1 : zE), ((gC2 wl_ne [(nat_lit 0, zPne_wrong, zOne_wrong, zMne_wrong), (nat_lit 1, zPne_isSign, zOne_isSign, zMne_isSign), (nat_lit 2, zPne_token1, zOne_token1, zMne_token1), (nat_lit 3, zPne_grooveLine, zOne_grooveLine, zMne_grooveLine), (nat_lit 4, zPne_scratLine, zOne_scratLine, zMne_scratLine), (nat_lit 5, zPne_guestLine, zOne_guestLine, zMne_guestLine), (nat_lit 6, zPne_onceLine0, zOne_onceLine0, zMne_onceLine0), (nat_lit 7, zPne_onceLine1, zOne_onceLine1, zMne_onceLine1), (nat_lit 8, zPne_onceLine2, zOne_onceLine2, zMne_onceLine2), (nat_lit 9, zPne_sumRead, zOne_sumRead, zMne_sumRead)] pCne_lineRead qCne_lineRead) 5).2 [] η x4 η1 → (¬ x4 = 0) → ∀ (x5 : Int) (η2 : zE), ((gC2 wl_ne [(nat_lit 0, zPne_wrong, zOne_wrong, zMne_wrong), (nat_lit 1, zPne_isSign, zOne_isSign, zMne_isSign), (nat_lit 2, zPne_token1, zOne_token1, zMne_token1), (nat_lit 3, zPne_grooveLine, zOne_grooveLine, zMne_grooveLine), (nat_lit 4, zPne_scratLine, zOne_scratLine, zMne_scratLine), (nat_lit 5, zPne_guestLine, zOne_guestLine, zMne_guestLine), (nat_lit 6, zPne_onceLine0, zOne_onceLine0, zMne_onceLine0), (nat_lit 7, zPne_onceLine1, zOne_onceLine1, zMne_onceLine1), (nat_lit 8, zPne_onceLine2, zOne_onceLine2, zMne_onceLine2), (nat_lit 9, zPne_sumRead, zOne_sumRead, zMne_sumRead)] pCne_lineRead qCne_lineRead) 1).2 [59] η1 x5 η2 → (x5 = 0) → ((gC2 wl_ne [(nat_lit 0, zPne_wrong, zOne_wrong, zMne_wrong), (nat_lit 1, zPne_isSign, zOne_isSign, zMne_isSign), (nat_lit 2, zPne_token1, zOne_token1, zMne_token1), (nat_lit 3, zPne_grooveLine, zOne_grooveLine, zMne_grooveLine), (nat_lit 4, zPne_scratLine, zOne_scratLine, zMne_scratLine), (nat_lit 5, zPne_guestLine, zOne_guestLine, zMne_guestLine), (nat_lit 6, zPne_onceLine0, zOne_onceLine0, zMne_onceLine0), (nat_lit 7, zPne_onceLine1, zOne_onceLine1, zMne_onceLine1), (nat_lit 8, zPne_onceLine2, zOne_onceLine2, zMne_onceLine2), (nat_lit 9, zPne_sumRead, zOne_sumRead, zMne_sumRead)] pCne_lineRead qCne_lineRead) 0).1 [1] η2 := by
  intro x1 e1 r1 c1 x2 e2 r2 c2 x3 e3 r3 c3 x4 η1 h4 c4 x5 η2 h5 c5
  have y4 : fQne_guestLine [] η x4 η1 := h4.2.2
  have k4 : sQ wl_ne zTr zOne_guestLine zMne_guestLine [] η x4 η1 ∧ oQne_guestLine [] η x4 η1 := ⟨h4.1, h4.2.1⟩
  have y5 : fQne_isSign [59] η1 x5 η2 := h5.2.2
  have k5 : sQ wl_ne zTr zOne_isSign zMne_isSign [59] η1 x5 η2 ∧ oQne_isSign [59] η1 x5 η2 := ⟨h5.1, h5.2.1⟩
  have w0_0_8 : (0 : Int) ≤ η 0 8 ∧ η 0 8 ≤ 6 := wf_ok (a := 8) (b := 8) (z := (0, 6)) hp.1 (by decide +kernel) (Nat.le_refl _) (Nat.le_refl _)
  replace e1 : x1 = η 0 8 := e1
  replace e2 : x2 = η 0 9 := e2
  replace r2 : -2147483648 ≤ x2 ∧ x2 ≤ 2147483647 := r2
  replace e3 : x3 = η 0 9 := e3
  replace r3 : -2147483648 ≤ x3 ∧ x3 ≤ 2147483647 := r3
  have w0_0_7 : (0 : Int) ≤ η 0 7 ∧ η 0 7 ≤ 700 := wf_ok (a := 7) (b := 7) (z := (0, 700)) hp.1 (by decide +kernel) (Nat.le_refl _) (Nat.le_refl _)
  have c0_0_7 : η 0 7 = η 0 7 := rfl
  have w0_0_6 : (0 : Int) ≤ η 0 6 ∧ η 0 6 ≤ 700 := wf_ok (a := 6) (b := 6) (z := (0, 700)) hp.1 (by decide +kernel) (Nat.le_refl _) (Nat.le_refl _)
  have c0_0_6 : η 0 6 = η 0 6 := rfl
  have c0_0_8 : η 0 8 = η 0 8 := rfl
  have w0_0_19 : (0 : Int) ≤ η 0 19 ∧ η 0 19 ≤ 64 := wf_ok (a := 19) (b := 19) (z := (0, 64)) hp.1 (by decide +kernel) (Nat.le_refl _) (Nat.le_refl _)
  have c0_0_19 : η 0 19 = η 0 19 := rfl
  have w0_0_44 : (0 : Int) ≤ η 0 44 ∧ η 0 44 ≤ 64 := wf_ok (a := 44) (b := 44) (z := (0, 64)) hp.1 (by decide +kernel) (Nat.le_refl _) (Nat.le_refl _)
  have c0_0_44 : η 0 44 = η 0 44 := rfl
  have bx4 : (0 : Int) ≤ x4 ∧ x4 ≤ 1 := k4.1.2.1
  have w1_0_7 : (0 : Int) ≤ η1 0 7 ∧ η1 0 7 ≤ 700 := wf_ok (a := 7) (b := 7) (z := (0, 700)) k4.1.1 (by decide +kernel) (Nat.le_refl _) (Nat.le_refl _)
  have d1_0_7 : η1 0 7 = η1 0 7 := rfl
  have v7 : zEq (η1 0 6) (η 0 6) := (k4.1.2.2.2.1 0 6 (by decide +kernel)).trans rfl
  have d1_0_6 : η1 0 6 = η 0 6 := v7
  have w1_0_8 : (0 : Int) ≤ η1 0 8 ∧ η1 0 8 ≤ 6 := wf_ok (a := 8) (b := 8) (z := (0, 6)) k4.1.1 (by decide +kernel) (Nat.le_refl _) (Nat.le_refl _)
  have d1_0_8 : η1 0 8 = η1 0 8 := rfl
  have v9 : zEq (η1 0 19) (η 0 19) := (k4.1.2.2.2.1 0 19 (by decide +kernel)).trans rfl
  have d1_0_19 : η1 0 19 = η 0 19 := v9
  have v10 : zEq (η1 0 44) (η 0 44) := (k4.1.2.2.2.1 0 44 (by decide +kernel)).trans rfl
  have d1_0_44 : η1 0 44 = η 0 44 := v10
  have c1_0_7 : η1 0 7 = η1 0 7 := rfl
  have c1_0_6 : η1 0 6 = η 0 6 := v7
  have c1_0_8 : η1 0 8 = η1 0 8 := rfl
  have c1_0_19 : η1 0 19 = η 0 19 := v9
  have c1_0_44 : η1 0 44 = η 0 44 := v10
  have bx5 : (0 : Int) ≤ x5 ∧ x5 ≤ 1 := k5.1.2.1
  have v11 : zEq (η2 0 7) (η1 0 7) := (k5.1.2.2.2.1 0 7 (by decide +kernel)).trans rfl
  have d2_0_7 : η2 0 7 = η1 0 7 := v11
  have v12 : zEq (η2 0 6) (η 0 6) := (k5.1.2.2.2.1 0 6 (by decide +kernel)).trans v7
  have d2_0_6 : η2 0 6 = η 0 6 := v12
  have v13 : zEq (η2 0 8) (η1 0 8) := (k5.1.2.2.2.1 0 8 (by decide +kernel)).trans rfl
  have d2_0_8 : η2 0 8 = η1 0 8 := v13
  have v14 : zEq (η2 0 19) (η 0 19) := (k5.1.2.2.2.1 0 19 (by decide +kernel)).trans v9
  have d2_0_19 : η2 0 19 = η 0 19 := v14
  have v15 : zEq (η2 0 44) (η 0 44) := (k5.1.2.2.2.1 0 44 (by decide +kernel)).trans v10
  have d2_0_44 : η2 0 44 = η 0 44 := v15
  have fr16_0 : ∀ j, η 16 j = η 16 j := fun _ => rfl
  have v16 : ∀ j, η1 16 j = η 16 j := fun j => k4.1.2.2.2.1 16 _ (zinr_not (by decide +kernel))
  have fr16_1 : ∀ j, η1 16 j = η 16 j := v16
  have v17 : ∀ j, η2 16 j = η 16 j := fun j => (k5.1.2.2.2.1 16 _ (zinr_not (by decide +kernel))).trans (v16 j)
  have fr16_2 : ∀ j, η2 16 j = η 16 j := v17
  have fr18_0 : ∀ j, η 18 j = η 18 j := fun _ => rfl
  have v18 : ∀ j, η1 18 j = η 18 j := fun j => k4.1.2.2.2.1 18 _ (zinr_not (by decide +kernel))
  have fr18_1 : ∀ j, η1 18 j = η 18 j := v18
  have v19 : ∀ j, η2 18 j = η 18 j := fun j => (k5.1.2.2.2.1 18 _ (zinr_not (by decide +kernel))).trans (v18 j)
  have fr18_2 : ∀ j, η2 18 j = η 18 j := v19
  have f0_7 : η2 0 7 = η1 0 7 := v11
  have f0_6 : η2 0 6 = η 0 6 := v12
  have f0_8 : η2 0 8 = η1 0 8 := v13
  have f0_19 : η2 0 19 = η 0 19 := v14
  have f0_44 : η2 0 44 = η 0 44 := v15
  have qn4 : ¬ x4 = 0 → 10 * (η1 0 6 - η1 0 7) + η1 0 8 < 10 * (η 0 6 - η 0 7) + η 0 8 := k4.2.2
  have qs5 : ¬ x5 = 0 → η1 0 8 = 4 := k5.2.2
  exact ⟨k5.2.1.1, k5.2.1.2⟩
set_option maxHeartbeats 8000000 in
theorem zne_lineRead_o54 {ro : Nat → List Int32} (η : zE) (hp : sP wl_ne zTr zPne_lineRead [] η) (hpp : pPne_lineRead [] η) : ∀ x1 : Int, x1 = η 0 (Int.toNat 8) → zok 0 x1 → (x1 = 1) → ∀ x2 : Int, x2 = η 0 (Int.toNat 9) → zok 0 x2 → (x2 ≤ 6) → ∀ x3 : Int, x3 = η 0 (Int.toNat 9) → zok 0 x3 → (x3 = 2) → ∀ (x4 : Int) (η1 : zE), ((gC2 wl_ne [(nat_lit 0, zPne_wrong, zOne_wrong, zMne_wrong), (nat_lit 1, zPne_isSign, zOne_isSign, zMne_isSign), (nat_lit 2, zPne_token1, zOne_token1, zMne_token1), (nat_lit 3, zPne_grooveLine, zOne_grooveLine, zMne_grooveLine), (nat_lit 4, zPne_scratLine, zOne_scratLine, zMne_scratLine), (nat_lit 5, zPne_guestLine, zOne_guestLine, zMne_guestLine), (nat_lit 6, zPne_onceLine0, zOne_onceLine0, zMne_onceLine0), (nat_lit 7, zPne_onceLine1, zOne_onceLine1, zMne_onceLine1), (nat_lit 8, zPne_onceLine2, zOne_onceLine2, zMne_onceLine2), (nat_lit 9, zPne_sumRead, zOne_sumRead, zMne_sumRead)] pCne_lineRead qCne_lineRead) 5).2 [] η x4 η1 → (¬ x4 = 0) → ∀ (x5 : Int) (η2 : zE), ((gC2 wl_ne [(nat_lit 0, zPne_wrong, zOne_wrong, zMne_wrong), (nat_lit 1, zPne_isSign, zOne_isSign, zMne_isSign), (nat_lit 2, zPne_token1, zOne_token1, zMne_token1), (nat_lit 3, zPne_grooveLine, zOne_grooveLine, zMne_grooveLine), (nat_lit 4, zPne_scratLine, zOne_scratLine, zMne_scratLine), (nat_lit 5, zPne_guestLine, zOne_guestLine, zMne_guestLine), (nat_lit 6, zPne_onceLine0, zOne_onceLine0, zMne_onceLine0), (nat_lit 7, zPne_onceLine1, zOne_onceLine1, zMne_onceLine1), (nat_lit 8, zPne_onceLine2, zOne_onceLine2, zMne_onceLine2), (nat_lit 9, zPne_sumRead, zOne_sumRead, zMne_sumRead)] pCne_lineRead qCne_lineRead) 1).2 [59] η1 x5 η2 → (x5 = 0) → ∀ (x6 : Int) (η3 : zE), ((gC2 wl_ne [(nat_lit 0, zPne_wrong, zOne_wrong, zMne_wrong), (nat_lit 1, zPne_isSign, zOne_isSign, zMne_isSign), (nat_lit 2, zPne_token1, zOne_token1, zMne_token1), (nat_lit 3, zPne_grooveLine, zOne_grooveLine, zMne_grooveLine), (nat_lit 4, zPne_scratLine, zOne_scratLine, zMne_scratLine), (nat_lit 5, zPne_guestLine, zOne_guestLine, zMne_guestLine), (nat_lit 6, zPne_onceLine0, zOne_onceLine0, zMne_onceLine0), (nat_lit 7, zPne_onceLine1, zOne_onceLine1, zMne_onceLine1), (nat_lit 8, zPne_onceLine2, zOne_onceLine2, zMne_onceLine2), (nat_lit 9, zPne_sumRead, zOne_sumRead, zMne_sumRead)] pCne_lineRead qCne_lineRead) 0).2 [1] η2 x6 η3 → (fun (_ : Nat) (y : Int) (η' : zE) => pQne_lineRead [] η y η') 0 x6 η3 := by
  intro x1 e1 r1 c1 x2 e2 r2 c2 x3 e3 r3 c3 x4 η1 h4 c4 x5 η2 h5 c5 x6 η3 h6
  have y4 : fQne_guestLine [] η x4 η1 := h4.2.2
  have k4 : sQ wl_ne zTr zOne_guestLine zMne_guestLine [] η x4 η1 ∧ oQne_guestLine [] η x4 η1 := ⟨h4.1, h4.2.1⟩
  have y5 : fQne_isSign [59] η1 x5 η2 := h5.2.2
  have k5 : sQ wl_ne zTr zOne_isSign zMne_isSign [59] η1 x5 η2 ∧ oQne_isSign [59] η1 x5 η2 := ⟨h5.1, h5.2.1⟩
  have y6 : fQne_wrong [1] η2 x6 η3 := h6.2.2
  have k6 : sQ wl_ne zTr zOne_wrong zMne_wrong [1] η2 x6 η3 ∧ oQne_wrong [1] η2 x6 η3 := ⟨h6.1, h6.2.1⟩
  refine yj_a ?_ ?_
  · have y4 : fQne_guestLine [] η x4 η1 := h4.2.2
    have k4 : sQ wl_ne zTr zOne_guestLine zMne_guestLine [] η x4 η1 ∧ oQne_guestLine [] η x4 η1 := ⟨h4.1, h4.2.1⟩
    have y5 : fQne_isSign [59] η1 x5 η2 := h5.2.2
    have k5 : sQ wl_ne zTr zOne_isSign zMne_isSign [59] η1 x5 η2 ∧ oQne_isSign [59] η1 x5 η2 := ⟨h5.1, h5.2.1⟩
    have y6 : fQne_wrong [1] η2 x6 η3 := h6.2.2
    have k6 : sQ wl_ne zTr zOne_wrong zMne_wrong [1] η2 x6 η3 ∧ oQne_wrong [1] η2 x6 η3 := ⟨h6.1, h6.2.1⟩
    have w0_0_8 : (0 : Int) ≤ η 0 8 ∧ η 0 8 ≤ 6 := wf_ok (a := 8) (b := 8) (z := (0, 6)) hp.1 (by decide +kernel) (Nat.le_refl _) (Nat.le_refl _)
    replace e1 : x1 = η 0 8 := e1
    replace e2 : x2 = η 0 9 := e2
    replace r2 : -2147483648 ≤ x2 ∧ x2 ≤ 2147483647 := r2
    replace e3 : x3 = η 0 9 := e3
    replace r3 : -2147483648 ≤ x3 ∧ x3 ≤ 2147483647 := r3
    have w0_0_7 : (0 : Int) ≤ η 0 7 ∧ η 0 7 ≤ 700 := wf_ok (a := 7) (b := 7) (z := (0, 700)) hp.1 (by decide +kernel) (Nat.le_refl _) (Nat.le_refl _)
    have c0_0_7 : η 0 7 = η 0 7 := rfl
    have w0_0_6 : (0 : Int) ≤ η 0 6 ∧ η 0 6 ≤ 700 := wf_ok (a := 6) (b := 6) (z := (0, 700)) hp.1 (by decide +kernel) (Nat.le_refl _) (Nat.le_refl _)
    have c0_0_6 : η 0 6 = η 0 6 := rfl
    have c0_0_8 : η 0 8 = η 0 8 := rfl
    have w0_0_19 : (0 : Int) ≤ η 0 19 ∧ η 0 19 ≤ 64 := wf_ok (a := 19) (b := 19) (z := (0, 64)) hp.1 (by decide +kernel) (Nat.le_refl _) (Nat.le_refl _)
    have c0_0_19 : η 0 19 = η 0 19 := rfl
    have w0_0_44 : (0 : Int) ≤ η 0 44 ∧ η 0 44 ≤ 64 := wf_ok (a := 44) (b := 44) (z := (0, 64)) hp.1 (by decide +kernel) (Nat.le_refl _) (Nat.le_refl _)
    have c0_0_44 : η 0 44 = η 0 44 := rfl
    have bx4 : (0 : Int) ≤ x4 ∧ x4 ≤ 1 := k4.1.2.1
    have w1_0_7 : (0 : Int) ≤ η1 0 7 ∧ η1 0 7 ≤ 700 := wf_ok (a := 7) (b := 7) (z := (0, 700)) k4.1.1 (by decide +kernel) (Nat.le_refl _) (Nat.le_refl _)
    have d1_0_7 : η1 0 7 = η1 0 7 := rfl
    have v7 : zEq (η1 0 6) (η 0 6) := (k4.1.2.2.2.1 0 6 (by decide +kernel)).trans rfl
    have d1_0_6 : η1 0 6 = η 0 6 := v7
    have w1_0_8 : (0 : Int) ≤ η1 0 8 ∧ η1 0 8 ≤ 6 := wf_ok (a := 8) (b := 8) (z := (0, 6)) k4.1.1 (by decide +kernel) (Nat.le_refl _) (Nat.le_refl _)
    have d1_0_8 : η1 0 8 = η1 0 8 := rfl
    have v9 : zEq (η1 0 19) (η 0 19) := (k4.1.2.2.2.1 0 19 (by decide +kernel)).trans rfl
    have d1_0_19 : η1 0 19 = η 0 19 := v9
    have v10 : zEq (η1 0 44) (η 0 44) := (k4.1.2.2.2.1 0 44 (by decide +kernel)).trans rfl
    have d1_0_44 : η1 0 44 = η 0 44 := v10
    have c1_0_7 : η1 0 7 = η1 0 7 := rfl
    have c1_0_6 : η1 0 6 = η 0 6 := v7
    have c1_0_8 : η1 0 8 = η1 0 8 := rfl
    have c1_0_19 : η1 0 19 = η 0 19 := v9
    have c1_0_44 : η1 0 44 = η 0 44 := v10
    have bx5 : (0 : Int) ≤ x5 ∧ x5 ≤ 1 := k5.1.2.1
    have v11 : zEq (η2 0 7) (η1 0 7) := (k5.1.2.2.2.1 0 7 (by decide +kernel)).trans rfl
    have d2_0_7 : η2 0 7 = η1 0 7 := v11
    have v12 : zEq (η2 0 6) (η 0 6) := (k5.1.2.2.2.1 0 6 (by decide +kernel)).trans v7
    have d2_0_6 : η2 0 6 = η 0 6 := v12
    have v13 : zEq (η2 0 8) (η1 0 8) := (k5.1.2.2.2.1 0 8 (by decide +kernel)).trans rfl
    have d2_0_8 : η2 0 8 = η1 0 8 := v13
    have v14 : zEq (η2 0 19) (η 0 19) := (k5.1.2.2.2.1 0 19 (by decide +kernel)).trans v9
    have d2_0_19 : η2 0 19 = η 0 19 := v14
    have v15 : zEq (η2 0 44) (η 0 44) := (k5.1.2.2.2.1 0 44 (by decide +kernel)).trans v10
    have d2_0_44 : η2 0 44 = η 0 44 := v15
    have c2_0_7 : η2 0 7 = η1 0 7 := v11
    have c2_0_6 : η2 0 6 = η 0 6 := v12
    have c2_0_8 : η2 0 8 = η1 0 8 := v13
    have c2_0_19 : η2 0 19 = η 0 19 := v14
    have c2_0_44 : η2 0 44 = η 0 44 := v15
    have bx6 : (0 : Int) ≤ x6 ∧ x6 ≤ 0 := k6.1.2.1
    have v16 : zEq (η3 0 7) (η1 0 7) := (k6.1.2.2.2.1 0 7 (by decide +kernel)).trans v11
    have d3_0_7 : η3 0 7 = η1 0 7 := v16
    have v17 : zEq (η3 0 6) (η 0 6) := (k6.1.2.2.2.1 0 6 (by decide +kernel)).trans v12
    have d3_0_6 : η3 0 6 = η 0 6 := v17
    have v18 : zEq (η3 0 8) (η1 0 8) := (k6.1.2.2.2.1 0 8 (by decide +kernel)).trans v13
    have d3_0_8 : η3 0 8 = η1 0 8 := v18
    have v19 : zEq (η3 0 19) (η 0 19) := (k6.1.2.2.2.1 0 19 (by decide +kernel)).trans v14
    have d3_0_19 : η3 0 19 = η 0 19 := v19
    have v20 : zEq (η3 0 44) (η 0 44) := (k6.1.2.2.2.1 0 44 (by decide +kernel)).trans v15
    have d3_0_44 : η3 0 44 = η 0 44 := v20
    have fr16_0 : ∀ j, η 16 j = η 16 j := fun _ => rfl
    have v21 : ∀ j, η1 16 j = η 16 j := fun j => k4.1.2.2.2.1 16 _ (zinr_not (by decide +kernel))
    have fr16_1 : ∀ j, η1 16 j = η 16 j := v21
    have v22 : ∀ j, η2 16 j = η 16 j := fun j => (k5.1.2.2.2.1 16 _ (zinr_not (by decide +kernel))).trans (v21 j)
    have fr16_2 : ∀ j, η2 16 j = η 16 j := v22
    have v23 : ∀ j, η3 16 j = η 16 j := fun j => (k6.1.2.2.2.1 16 _ (zinr_not (by decide +kernel))).trans (v22 j)
    have fr16_3 : ∀ j, η3 16 j = η 16 j := v23
    have fr18_0 : ∀ j, η 18 j = η 18 j := fun _ => rfl
    have v24 : ∀ j, η1 18 j = η 18 j := fun j => k4.1.2.2.2.1 18 _ (zinr_not (by decide +kernel))
    have fr18_1 : ∀ j, η1 18 j = η 18 j := v24
    have v25 : ∀ j, η2 18 j = η 18 j := fun j => (k5.1.2.2.2.1 18 _ (zinr_not (by decide +kernel))).trans (v24 j)
    have fr18_2 : ∀ j, η2 18 j = η 18 j := v25
    have v26 : ∀ j, η3 18 j = η 18 j := fun j => (k6.1.2.2.2.1 18 _ (zinr_not (by decide +kernel))).trans (v25 j)
    have fr18_3 : ∀ j, η3 18 j = η 18 j := v26
    have f0_7 : η3 0 7 = η1 0 7 := v16
    have f0_6 : η3 0 6 = η 0 6 := v17
    have f0_8 : η3 0 8 = η1 0 8 := v18
    have f0_19 : η3 0 19 = η 0 19 := v19
    have f0_44 : η3 0 44 = η 0 44 := v20
    have qn4 : ¬ x4 = 0 → 10 * (η1 0 6 - η1 0 7) + η1 0 8 < 10 * (η 0 6 - η 0 7) + η 0 8 := k4.2.2
    have qs5 : ¬ x5 = 0 → η1 0 8 = 4 := k5.2.2
    exact ⟨k6.2.1.1, pl_d (k6.2.2) (by decide), fun w => absurd (show (x6 : Int) = 0 by apply Int.le_antisymm <;> omega) w⟩
  · have e1 : x1 = η 0 8 := e1
    have e2 : x2 = η 0 9 := e2
    have e3 : x3 = η 0 9 := e3
    have f3 : x2 = x3 := e2.trans e3.symm
    subst f3
    obtain ⟨a4, b4⟩ : x4 = (yq_gul η).1 ∧ η1 = (yq_gul η).2 := y4
    obtain ⟨a5, b5⟩ : x5 = (yq_isS 59 η1) ∧ η1 = η2 := ⟨y5.1, y5.2.symm⟩
    subst b5
    obtain ⟨a6, b6⟩ : x6 = 0 ∧ η3 = (yq_wr 1 η1) := y6
    show x6 = (yq_lnr η).1 ∧ η3 = (yq_lnr η).2
    simp only [yq_lnr, yq_le, yq_law, yq_lw1, yq_lw2, yq_no, ← e1, ← e2, ← a4, ← b4, ← a5, ← b6, a6]
    all_goals (repeat (first | rw [if_pos (by omega)] | rw [if_neg (by omega)]))
    all_goals exact ⟨rfl, rfl⟩
set_option maxHeartbeats 8000000 in
theorem zne_lineRead_o55 {ro : Nat → List Int32} (η : zE) (hp : sP wl_ne zTr zPne_lineRead [] η) (hpp : pPne_lineRead [] η) : ∀ x1 : Int, x1 = η 0 (Int.toNat 8) → zok 0 x1 → (x1 = 1) → ∀ x2 : Int, x2 = η 0 (Int.toNat 9) → zok 0 x2 → (x2 ≤ 6) → ∀ x3 : Int, x3 = η 0 (Int.toNat 9) → zok 0 x3 → (x3 = 2) → ∀ (x4 : Int) (η1 : zE), ((gC2 wl_ne [(nat_lit 0, zPne_wrong, zOne_wrong, zMne_wrong), (nat_lit 1, zPne_isSign, zOne_isSign, zMne_isSign), (nat_lit 2, zPne_token1, zOne_token1, zMne_token1), (nat_lit 3, zPne_grooveLine, zOne_grooveLine, zMne_grooveLine), (nat_lit 4, zPne_scratLine, zOne_scratLine, zMne_scratLine), (nat_lit 5, zPne_guestLine, zOne_guestLine, zMne_guestLine), (nat_lit 6, zPne_onceLine0, zOne_onceLine0, zMne_onceLine0), (nat_lit 7, zPne_onceLine1, zOne_onceLine1, zMne_onceLine1), (nat_lit 8, zPne_onceLine2, zOne_onceLine2, zMne_onceLine2), (nat_lit 9, zPne_sumRead, zOne_sumRead, zMne_sumRead)] pCne_lineRead qCne_lineRead) 5).2 [] η x4 η1 → (x4 = 0) → (fun (_ : Nat) (y : Int) (η' : zE) => pQne_lineRead [] η y η') 0 0 η1 := by
  intro x1 e1 r1 c1 x2 e2 r2 c2 x3 e3 r3 c3 x4 η1 h4 c4
  have y4 : fQne_guestLine [] η x4 η1 := h4.2.2
  have k4 : sQ wl_ne zTr zOne_guestLine zMne_guestLine [] η x4 η1 ∧ oQne_guestLine [] η x4 η1 := ⟨h4.1, h4.2.1⟩
  refine yj_a ?_ ?_
  · have y4 : fQne_guestLine [] η x4 η1 := h4.2.2
    have k4 : sQ wl_ne zTr zOne_guestLine zMne_guestLine [] η x4 η1 ∧ oQne_guestLine [] η x4 η1 := ⟨h4.1, h4.2.1⟩
    have w0_0_8 : (0 : Int) ≤ η 0 8 ∧ η 0 8 ≤ 6 := wf_ok (a := 8) (b := 8) (z := (0, 6)) hp.1 (by decide +kernel) (Nat.le_refl _) (Nat.le_refl _)
    replace e1 : x1 = η 0 8 := e1
    replace e2 : x2 = η 0 9 := e2
    replace r2 : -2147483648 ≤ x2 ∧ x2 ≤ 2147483647 := r2
    replace e3 : x3 = η 0 9 := e3
    replace r3 : -2147483648 ≤ x3 ∧ x3 ≤ 2147483647 := r3
    have w0_0_7 : (0 : Int) ≤ η 0 7 ∧ η 0 7 ≤ 700 := wf_ok (a := 7) (b := 7) (z := (0, 700)) hp.1 (by decide +kernel) (Nat.le_refl _) (Nat.le_refl _)
    have c0_0_7 : η 0 7 = η 0 7 := rfl
    have w0_0_6 : (0 : Int) ≤ η 0 6 ∧ η 0 6 ≤ 700 := wf_ok (a := 6) (b := 6) (z := (0, 700)) hp.1 (by decide +kernel) (Nat.le_refl _) (Nat.le_refl _)
    have c0_0_6 : η 0 6 = η 0 6 := rfl
    have c0_0_8 : η 0 8 = η 0 8 := rfl
    have w0_0_19 : (0 : Int) ≤ η 0 19 ∧ η 0 19 ≤ 64 := wf_ok (a := 19) (b := 19) (z := (0, 64)) hp.1 (by decide +kernel) (Nat.le_refl _) (Nat.le_refl _)
    have c0_0_19 : η 0 19 = η 0 19 := rfl
    have w0_0_44 : (0 : Int) ≤ η 0 44 ∧ η 0 44 ≤ 64 := wf_ok (a := 44) (b := 44) (z := (0, 64)) hp.1 (by decide +kernel) (Nat.le_refl _) (Nat.le_refl _)
    have c0_0_44 : η 0 44 = η 0 44 := rfl
    have bx4 : (0 : Int) ≤ x4 ∧ x4 ≤ 1 := k4.1.2.1
    have w1_0_7 : (0 : Int) ≤ η1 0 7 ∧ η1 0 7 ≤ 700 := wf_ok (a := 7) (b := 7) (z := (0, 700)) k4.1.1 (by decide +kernel) (Nat.le_refl _) (Nat.le_refl _)
    have d1_0_7 : η1 0 7 = η1 0 7 := rfl
    have v7 : zEq (η1 0 6) (η 0 6) := (k4.1.2.2.2.1 0 6 (by decide +kernel)).trans rfl
    have d1_0_6 : η1 0 6 = η 0 6 := v7
    have w1_0_8 : (0 : Int) ≤ η1 0 8 ∧ η1 0 8 ≤ 6 := wf_ok (a := 8) (b := 8) (z := (0, 6)) k4.1.1 (by decide +kernel) (Nat.le_refl _) (Nat.le_refl _)
    have d1_0_8 : η1 0 8 = η1 0 8 := rfl
    have v9 : zEq (η1 0 19) (η 0 19) := (k4.1.2.2.2.1 0 19 (by decide +kernel)).trans rfl
    have d1_0_19 : η1 0 19 = η 0 19 := v9
    have v10 : zEq (η1 0 44) (η 0 44) := (k4.1.2.2.2.1 0 44 (by decide +kernel)).trans rfl
    have d1_0_44 : η1 0 44 = η 0 44 := v10
    have fr16_0 : ∀ j, η 16 j = η 16 j := fun _ => rfl
    have v11 : ∀ j, η1 16 j = η 16 j := fun j => k4.1.2.2.2.1 16 _ (zinr_not (by decide +kernel))
    have fr16_1 : ∀ j, η1 16 j = η 16 j := v11
    have fr18_0 : ∀ j, η 18 j = η 18 j := fun _ => rfl
    have v12 : ∀ j, η1 18 j = η 18 j := fun j => k4.1.2.2.2.1 18 _ (zinr_not (by decide +kernel))
    have fr18_1 : ∀ j, η1 18 j = η 18 j := v12
    have f0_7 : η1 0 7 = η1 0 7 := rfl
    have f0_6 : η1 0 6 = η 0 6 := v7
    have f0_8 : η1 0 8 = η1 0 8 := rfl
    have f0_19 : η1 0 19 = η 0 19 := v9
    have f0_44 : η1 0 44 = η 0 44 := v10
    have qn4 : ¬ x4 = 0 → 10 * (η1 0 6 - η1 0 7) + η1 0 8 < 10 * (η 0 6 - η 0 7) + η 0 8 := k4.2.2
    exact ⟨k4.2.1.1.1, pl_d (k4.2.1.2) (by decide), fun w => absurd (show (0 : Int) = 0 by apply Int.le_antisymm <;> omega) w⟩
  · have e1 : x1 = η 0 8 := e1
    have e2 : x2 = η 0 9 := e2
    have e3 : x3 = η 0 9 := e3
    have f3 : x2 = x3 := e2.trans e3.symm
    subst f3
    obtain ⟨a4, b4⟩ : x4 = (yq_gul η).1 ∧ η1 = (yq_gul η).2 := y4
    show 0 = (yq_lnr η).1 ∧ η1 = (yq_lnr η).2
    simp only [yq_lnr, yq_le, yq_law, yq_lw1, yq_lw2, yq_no, ← e1, ← e2, ← a4, ← b4]
    all_goals (repeat (first | rw [if_pos (by omega)] | rw [if_neg (by omega)]))
    all_goals exact ⟨rfl, rfl⟩
set_option maxHeartbeats 8000000 in
theorem zne_lineRead_o56 {ro : Nat → List Int32} (η : zE) (hp : sP wl_ne zTr zPne_lineRead [] η) (hpp : pPne_lineRead [] η) : ∀ x1 : Int, x1 = η 0 (Int.toNat 8) → zok 0 x1 → (x1 = 1) → ∀ x2 : Int, x2 = η 0 (Int.toNat 9) → zok 0 x2 → (x2 ≤ 6) → ∀ x3 : Int, x3 = η 0 (Int.toNat 9) → zok 0 x3 → (x3 = 3) → ((gC2 wl_ne [(nat_lit 0, zPne_wrong, zOne_wrong, zMne_wrong), (nat_lit 1, zPne_isSign, zOne_isSign, zMne_isSign), (nat_lit 2, zPne_token1, zOne_token1, zMne_token1), (nat_lit 3, zPne_grooveLine, zOne_grooveLine, zMne_grooveLine), (nat_lit 4, zPne_scratLine, zOne_scratLine, zMne_scratLine), (nat_lit 5, zPne_guestLine, zOne_guestLine, zMne_guestLine), (nat_lit 6, zPne_onceLine0, zOne_onceLine0, zMne_onceLine0), (nat_lit 7, zPne_onceLine1, zOne_onceLine1, zMne_onceLine1), (nat_lit 8, zPne_onceLine2, zOne_onceLine2, zMne_onceLine2), (nat_lit 9, zPne_sumRead, zOne_sumRead, zMne_sumRead)] pCne_lineRead qCne_lineRead) 6).1 [] η := by
  intro x1 e1 r1 c1 x2 e2 r2 c2 x3 e3 r3 c3
  have w0_0_8 : (0 : Int) ≤ η 0 8 ∧ η 0 8 ≤ 6 := wf_ok (a := 8) (b := 8) (z := (0, 6)) hp.1 (by decide +kernel) (Nat.le_refl _) (Nat.le_refl _)
  replace e1 : x1 = η 0 8 := e1
  replace e2 : x2 = η 0 9 := e2
  replace r2 : -2147483648 ≤ x2 ∧ x2 ≤ 2147483647 := r2
  replace e3 : x3 = η 0 9 := e3
  replace r3 : -2147483648 ≤ x3 ∧ x3 ≤ 2147483647 := r3
  have fr16_0 : ∀ j, η 16 j = η 16 j := fun _ => rfl
  have fr18_0 : ∀ j, η 18 j = η 18 j := fun _ => rfl
  have w0_0_7 : (0 : Int) ≤ η 0 7 ∧ η 0 7 ≤ 700 := wf_ok (a := 7) (b := 7) (z := (0, 700)) hp.1 (by decide +kernel) (Nat.le_refl _) (Nat.le_refl _)
  have f0_7 : η 0 7 = η 0 7 := rfl
  have w0_0_6 : (0 : Int) ≤ η 0 6 ∧ η 0 6 ≤ 700 := wf_ok (a := 6) (b := 6) (z := (0, 700)) hp.1 (by decide +kernel) (Nat.le_refl _) (Nat.le_refl _)
  have f0_6 : η 0 6 = η 0 6 := rfl
  have f0_8 : η 0 8 = η 0 8 := rfl
  have w0_0_19 : (0 : Int) ≤ η 0 19 ∧ η 0 19 ≤ 64 := wf_ok (a := 19) (b := 19) (z := (0, 64)) hp.1 (by decide +kernel) (Nat.le_refl _) (Nat.le_refl _)
  have f0_19 : η 0 19 = η 0 19 := rfl
  have w0_0_44 : (0 : Int) ≤ η 0 44 ∧ η 0 44 ≤ 64 := wf_ok (a := 44) (b := 44) (z := (0, 64)) hp.1 (by decide +kernel) (Nat.le_refl _) (Nat.le_refl _)
  have f0_44 : η 0 44 = η 0 44 := rfl
  exact ⟨⟨hpp.1, hpp.2⟩, show ¬ η 0 8 = 0 by omega⟩
set_option maxHeartbeats 8000000 in
theorem zne_lineRead_o57 {ro : Nat → List Int32} (η : zE) (hp : sP wl_ne zTr zPne_lineRead [] η) (hpp : pPne_lineRead [] η) : ∀ x1 : Int, x1 = η 0 (Int.toNat 8) → zok 0 x1 → (x1 = 1) → ∀ x2 : Int, x2 = η 0 (Int.toNat 9) → zok 0 x2 → (x2 ≤ 6) → ∀ x3 : Int, x3 = η 0 (Int.toNat 9) → zok 0 x3 → (x3 = 3) → ∀ (x4 : Int) (η1 : zE), ((gC2 wl_ne [(nat_lit 0, zPne_wrong, zOne_wrong, zMne_wrong), (nat_lit 1, zPne_isSign, zOne_isSign, zMne_isSign), (nat_lit 2, zPne_token1, zOne_token1, zMne_token1), (nat_lit 3, zPne_grooveLine, zOne_grooveLine, zMne_grooveLine), (nat_lit 4, zPne_scratLine, zOne_scratLine, zMne_scratLine), (nat_lit 5, zPne_guestLine, zOne_guestLine, zMne_guestLine), (nat_lit 6, zPne_onceLine0, zOne_onceLine0, zMne_onceLine0), (nat_lit 7, zPne_onceLine1, zOne_onceLine1, zMne_onceLine1), (nat_lit 8, zPne_onceLine2, zOne_onceLine2, zMne_onceLine2), (nat_lit 9, zPne_sumRead, zOne_sumRead, zMne_sumRead)] pCne_lineRead qCne_lineRead) 6).2 [] η x4 η1 → (¬ x4 = 0) → ((gC2 wl_ne [(nat_lit 0, zPne_wrong, zOne_wrong, zMne_wrong), (nat_lit 1, zPne_isSign, zOne_isSign, zMne_isSign), (nat_lit 2, zPne_token1, zOne_token1, zMne_token1), (nat_lit 3, zPne_grooveLine, zOne_grooveLine, zMne_grooveLine), (nat_lit 4, zPne_scratLine, zOne_scratLine, zMne_scratLine), (nat_lit 5, zPne_guestLine, zOne_guestLine, zMne_guestLine), (nat_lit 6, zPne_onceLine0, zOne_onceLine0, zMne_onceLine0), (nat_lit 7, zPne_onceLine1, zOne_onceLine1, zMne_onceLine1), (nat_lit 8, zPne_onceLine2, zOne_onceLine2, zMne_onceLine2), (nat_lit 9, zPne_sumRead, zOne_sumRead, zMne_sumRead)] pCne_lineRead qCne_lineRead) 1).1 [59] η1 := by
  intro x1 e1 r1 c1 x2 e2 r2 c2 x3 e3 r3 c3 x4 η1 h4 c4
  have y4 : fQne_onceLine0 [] η x4 η1 := h4.2.2
  have k4 : sQ wl_ne zTr zOne_onceLine0 zMne_onceLine0 [] η x4 η1 ∧ oQne_onceLine0 [] η x4 η1 := ⟨h4.1, h4.2.1⟩
  have w0_0_8 : (0 : Int) ≤ η 0 8 ∧ η 0 8 ≤ 6 := wf_ok (a := 8) (b := 8) (z := (0, 6)) hp.1 (by decide +kernel) (Nat.le_refl _) (Nat.le_refl _)
  replace e1 : x1 = η 0 8 := e1
  replace e2 : x2 = η 0 9 := e2
  replace r2 : -2147483648 ≤ x2 ∧ x2 ≤ 2147483647 := r2
  replace e3 : x3 = η 0 9 := e3
  replace r3 : -2147483648 ≤ x3 ∧ x3 ≤ 2147483647 := r3
  have w0_0_7 : (0 : Int) ≤ η 0 7 ∧ η 0 7 ≤ 700 := wf_ok (a := 7) (b := 7) (z := (0, 700)) hp.1 (by decide +kernel) (Nat.le_refl _) (Nat.le_refl _)
  have c0_0_7 : η 0 7 = η 0 7 := rfl
  have w0_0_6 : (0 : Int) ≤ η 0 6 ∧ η 0 6 ≤ 700 := wf_ok (a := 6) (b := 6) (z := (0, 700)) hp.1 (by decide +kernel) (Nat.le_refl _) (Nat.le_refl _)
  have c0_0_6 : η 0 6 = η 0 6 := rfl
  have c0_0_8 : η 0 8 = η 0 8 := rfl
  have w0_0_19 : (0 : Int) ≤ η 0 19 ∧ η 0 19 ≤ 64 := wf_ok (a := 19) (b := 19) (z := (0, 64)) hp.1 (by decide +kernel) (Nat.le_refl _) (Nat.le_refl _)
  have c0_0_19 : η 0 19 = η 0 19 := rfl
  have w0_0_44 : (0 : Int) ≤ η 0 44 ∧ η 0 44 ≤ 64 := wf_ok (a := 44) (b := 44) (z := (0, 64)) hp.1 (by decide +kernel) (Nat.le_refl _) (Nat.le_refl _)
  have c0_0_44 : η 0 44 = η 0 44 := rfl
  have bx4 : (0 : Int) ≤ x4 ∧ x4 ≤ 1 := k4.1.2.1
  have w1_0_7 : (0 : Int) ≤ η1 0 7 ∧ η1 0 7 ≤ 700 := wf_ok (a := 7) (b := 7) (z := (0, 700)) k4.1.1 (by decide +kernel) (Nat.le_refl _) (Nat.le_refl _)
  have d1_0_7 : η1 0 7 = η1 0 7 := rfl
  have v7 : zEq (η1 0 6) (η 0 6) := (k4.1.2.2.2.1 0 6 (by decide +kernel)).trans rfl
  have d1_0_6 : η1 0 6 = η 0 6 := v7
  have w1_0_8 : (0 : Int) ≤ η1 0 8 ∧ η1 0 8 ≤ 6 := wf_ok (a := 8) (b := 8) (z := (0, 6)) k4.1.1 (by decide +kernel) (Nat.le_refl _) (Nat.le_refl _)
  have d1_0_8 : η1 0 8 = η1 0 8 := rfl
  have v9 : zEq (η1 0 19) (η 0 19) := (k4.1.2.2.2.1 0 19 (by decide +kernel)).trans rfl
  have d1_0_19 : η1 0 19 = η 0 19 := v9
  have v10 : zEq (η1 0 44) (η 0 44) := (k4.1.2.2.2.1 0 44 (by decide +kernel)).trans rfl
  have d1_0_44 : η1 0 44 = η 0 44 := v10
  have fr16_0 : ∀ j, η 16 j = η 16 j := fun _ => rfl
  have v11 : ∀ j, η1 16 j = η 16 j := fun j => k4.1.2.2.2.1 16 _ (zinr_not (by decide +kernel))
  have fr16_1 : ∀ j, η1 16 j = η 16 j := v11
  have fr18_0 : ∀ j, η 18 j = η 18 j := fun _ => rfl
  have v12 : ∀ j, η1 18 j = η 18 j := fun j => k4.1.2.2.2.1 18 _ (zinr_not (by decide +kernel))
  have fr18_1 : ∀ j, η1 18 j = η 18 j := v12
  have f0_7 : η1 0 7 = η1 0 7 := rfl
  have f0_6 : η1 0 6 = η 0 6 := v7
  have f0_8 : η1 0 8 = η1 0 8 := rfl
  have f0_19 : η1 0 19 = η 0 19 := v9
  have f0_44 : η1 0 44 = η 0 44 := v10
  have qn4 : ¬ x4 = 0 → 10 * (η1 0 6 - η1 0 7) + η1 0 8 < 10 * (η 0 6 - η 0 7) + η 0 8 := k4.2.2
  exact ⟨k4.2.1.1, k4.2.1.2⟩
set_option maxHeartbeats 8000000 in
theorem zne_lineRead_o58 {ro : Nat → List Int32} (η : zE) (hp : sP wl_ne zTr zPne_lineRead [] η) (hpp : pPne_lineRead [] η) : ∀ x1 : Int, x1 = η 0 (Int.toNat 8) → zok 0 x1 → (x1 = 1) → ∀ x2 : Int, x2 = η 0 (Int.toNat 9) → zok 0 x2 → (x2 ≤ 6) → ∀ x3 : Int, x3 = η 0 (Int.toNat 9) → zok 0 x3 → (x3 = 3) → ∀ (x4 : Int) (η1 : zE), ((gC2 wl_ne [(nat_lit 0, zPne_wrong, zOne_wrong, zMne_wrong), (nat_lit 1, zPne_isSign, zOne_isSign, zMne_isSign), (nat_lit 2, zPne_token1, zOne_token1, zMne_token1), (nat_lit 3, zPne_grooveLine, zOne_grooveLine, zMne_grooveLine), (nat_lit 4, zPne_scratLine, zOne_scratLine, zMne_scratLine), (nat_lit 5, zPne_guestLine, zOne_guestLine, zMne_guestLine), (nat_lit 6, zPne_onceLine0, zOne_onceLine0, zMne_onceLine0), (nat_lit 7, zPne_onceLine1, zOne_onceLine1, zMne_onceLine1), (nat_lit 8, zPne_onceLine2, zOne_onceLine2, zMne_onceLine2), (nat_lit 9, zPne_sumRead, zOne_sumRead, zMne_sumRead)] pCne_lineRead qCne_lineRead) 6).2 [] η x4 η1 → (¬ x4 = 0) → ∀ (x5 : Int) (η2 : zE), ((gC2 wl_ne [(nat_lit 0, zPne_wrong, zOne_wrong, zMne_wrong), (nat_lit 1, zPne_isSign, zOne_isSign, zMne_isSign), (nat_lit 2, zPne_token1, zOne_token1, zMne_token1), (nat_lit 3, zPne_grooveLine, zOne_grooveLine, zMne_grooveLine), (nat_lit 4, zPne_scratLine, zOne_scratLine, zMne_scratLine), (nat_lit 5, zPne_guestLine, zOne_guestLine, zMne_guestLine), (nat_lit 6, zPne_onceLine0, zOne_onceLine0, zMne_onceLine0), (nat_lit 7, zPne_onceLine1, zOne_onceLine1, zMne_onceLine1), (nat_lit 8, zPne_onceLine2, zOne_onceLine2, zMne_onceLine2), (nat_lit 9, zPne_sumRead, zOne_sumRead, zMne_sumRead)] pCne_lineRead qCne_lineRead) 1).2 [59] η1 x5 η2 → (¬ x5 = 0) → ((gC2 wl_ne [(nat_lit 0, zPne_wrong, zOne_wrong, zMne_wrong), (nat_lit 1, zPne_isSign, zOne_isSign, zMne_isSign), (nat_lit 2, zPne_token1, zOne_token1, zMne_token1), (nat_lit 3, zPne_grooveLine, zOne_grooveLine, zMne_grooveLine), (nat_lit 4, zPne_scratLine, zOne_scratLine, zMne_scratLine), (nat_lit 5, zPne_guestLine, zOne_guestLine, zMne_guestLine), (nat_lit 6, zPne_onceLine0, zOne_onceLine0, zMne_onceLine0), (nat_lit 7, zPne_onceLine1, zOne_onceLine1, zMne_onceLine1), (nat_lit 8, zPne_onceLine2, zOne_onceLine2, zMne_onceLine2), (nat_lit 9, zPne_sumRead, zOne_sumRead, zMne_sumRead)] pCne_lineRead qCne_lineRead) 2).1 [] η2 := by
  intro x1 e1 r1 c1 x2 e2 r2 c2 x3 e3 r3 c3 x4 η1 h4 c4 x5 η2 h5 c5
  have y4 : fQne_onceLine0 [] η x4 η1 := h4.2.2
  have k4 : sQ wl_ne zTr zOne_onceLine0 zMne_onceLine0 [] η x4 η1 ∧ oQne_onceLine0 [] η x4 η1 := ⟨h4.1, h4.2.1⟩
  have y5 : fQne_isSign [59] η1 x5 η2 := h5.2.2
  have k5 : sQ wl_ne zTr zOne_isSign zMne_isSign [59] η1 x5 η2 ∧ oQne_isSign [59] η1 x5 η2 := ⟨h5.1, h5.2.1⟩
  have w0_0_8 : (0 : Int) ≤ η 0 8 ∧ η 0 8 ≤ 6 := wf_ok (a := 8) (b := 8) (z := (0, 6)) hp.1 (by decide +kernel) (Nat.le_refl _) (Nat.le_refl _)
  replace e1 : x1 = η 0 8 := e1
  replace e2 : x2 = η 0 9 := e2
  replace r2 : -2147483648 ≤ x2 ∧ x2 ≤ 2147483647 := r2
  replace e3 : x3 = η 0 9 := e3
  replace r3 : -2147483648 ≤ x3 ∧ x3 ≤ 2147483647 := r3
  have w0_0_7 : (0 : Int) ≤ η 0 7 ∧ η 0 7 ≤ 700 := wf_ok (a := 7) (b := 7) (z := (0, 700)) hp.1 (by decide +kernel) (Nat.le_refl _) (Nat.le_refl _)
  have c0_0_7 : η 0 7 = η 0 7 := rfl
  have w0_0_6 : (0 : Int) ≤ η 0 6 ∧ η 0 6 ≤ 700 := wf_ok (a := 6) (b := 6) (z := (0, 700)) hp.1 (by decide +kernel) (Nat.le_refl _) (Nat.le_refl _)
  have c0_0_6 : η 0 6 = η 0 6 := rfl
  have c0_0_8 : η 0 8 = η 0 8 := rfl
  have w0_0_19 : (0 : Int) ≤ η 0 19 ∧ η 0 19 ≤ 64 := wf_ok (a := 19) (b := 19) (z := (0, 64)) hp.1 (by decide +kernel) (Nat.le_refl _) (Nat.le_refl _)
  have c0_0_19 : η 0 19 = η 0 19 := rfl
  have w0_0_44 : (0 : Int) ≤ η 0 44 ∧ η 0 44 ≤ 64 := wf_ok (a := 44) (b := 44) (z := (0, 64)) hp.1 (by decide +kernel) (Nat.le_refl _) (Nat.le_refl _)
  have c0_0_44 : η 0 44 = η 0 44 := rfl
  have bx4 : (0 : Int) ≤ x4 ∧ x4 ≤ 1 := k4.1.2.1
  have w1_0_7 : (0 : Int) ≤ η1 0 7 ∧ η1 0 7 ≤ 700 := wf_ok (a := 7) (b := 7) (z := (0, 700)) k4.1.1 (by decide +kernel) (Nat.le_refl _) (Nat.le_refl _)
  have d1_0_7 : η1 0 7 = η1 0 7 := rfl
  have v7 : zEq (η1 0 6) (η 0 6) := (k4.1.2.2.2.1 0 6 (by decide +kernel)).trans rfl
  have d1_0_6 : η1 0 6 = η 0 6 := v7
  have w1_0_8 : (0 : Int) ≤ η1 0 8 ∧ η1 0 8 ≤ 6 := wf_ok (a := 8) (b := 8) (z := (0, 6)) k4.1.1 (by decide +kernel) (Nat.le_refl _) (Nat.le_refl _)
  have d1_0_8 : η1 0 8 = η1 0 8 := rfl
  have v9 : zEq (η1 0 19) (η 0 19) := (k4.1.2.2.2.1 0 19 (by decide +kernel)).trans rfl
  have d1_0_19 : η1 0 19 = η 0 19 := v9
  have v10 : zEq (η1 0 44) (η 0 44) := (k4.1.2.2.2.1 0 44 (by decide +kernel)).trans rfl
  have d1_0_44 : η1 0 44 = η 0 44 := v10
  have c1_0_7 : η1 0 7 = η1 0 7 := rfl
  have c1_0_6 : η1 0 6 = η 0 6 := v7
  have c1_0_8 : η1 0 8 = η1 0 8 := rfl
  have c1_0_19 : η1 0 19 = η 0 19 := v9
  have c1_0_44 : η1 0 44 = η 0 44 := v10
  have bx5 : (0 : Int) ≤ x5 ∧ x5 ≤ 1 := k5.1.2.1
  have v11 : zEq (η2 0 7) (η1 0 7) := (k5.1.2.2.2.1 0 7 (by decide +kernel)).trans rfl
  have d2_0_7 : η2 0 7 = η1 0 7 := v11
  have v12 : zEq (η2 0 6) (η 0 6) := (k5.1.2.2.2.1 0 6 (by decide +kernel)).trans v7
  have d2_0_6 : η2 0 6 = η 0 6 := v12
  have v13 : zEq (η2 0 8) (η1 0 8) := (k5.1.2.2.2.1 0 8 (by decide +kernel)).trans rfl
  have d2_0_8 : η2 0 8 = η1 0 8 := v13
  have v14 : zEq (η2 0 19) (η 0 19) := (k5.1.2.2.2.1 0 19 (by decide +kernel)).trans v9
  have d2_0_19 : η2 0 19 = η 0 19 := v14
  have v15 : zEq (η2 0 44) (η 0 44) := (k5.1.2.2.2.1 0 44 (by decide +kernel)).trans v10
  have d2_0_44 : η2 0 44 = η 0 44 := v15
  have fr16_0 : ∀ j, η 16 j = η 16 j := fun _ => rfl
  have v16 : ∀ j, η1 16 j = η 16 j := fun j => k4.1.2.2.2.1 16 _ (zinr_not (by decide +kernel))
  have fr16_1 : ∀ j, η1 16 j = η 16 j := v16
  have v17 : ∀ j, η2 16 j = η 16 j := fun j => (k5.1.2.2.2.1 16 _ (zinr_not (by decide +kernel))).trans (v16 j)
  have fr16_2 : ∀ j, η2 16 j = η 16 j := v17
  have fr18_0 : ∀ j, η 18 j = η 18 j := fun _ => rfl
  have v18 : ∀ j, η1 18 j = η 18 j := fun j => k4.1.2.2.2.1 18 _ (zinr_not (by decide +kernel))
  have fr18_1 : ∀ j, η1 18 j = η 18 j := v18
  have v19 : ∀ j, η2 18 j = η 18 j := fun j => (k5.1.2.2.2.1 18 _ (zinr_not (by decide +kernel))).trans (v18 j)
  have fr18_2 : ∀ j, η2 18 j = η 18 j := v19
  have f0_7 : η2 0 7 = η1 0 7 := v11
  have f0_6 : η2 0 6 = η 0 6 := v12
  have f0_8 : η2 0 8 = η1 0 8 := v13
  have f0_19 : η2 0 19 = η 0 19 := v14
  have f0_44 : η2 0 44 = η 0 44 := v15
  have qn4 : ¬ x4 = 0 → 10 * (η1 0 6 - η1 0 7) + η1 0 8 < 10 * (η 0 6 - η 0 7) + η 0 8 := k4.2.2
  have qs5 : ¬ x5 = 0 → η1 0 8 = 4 := k5.2.2
  exact k5.2.1.1
set_option maxHeartbeats 8000000 in
theorem zne_lineRead_o59 {ro : Nat → List Int32} (η : zE) (hp : sP wl_ne zTr zPne_lineRead [] η) (hpp : pPne_lineRead [] η) : ∀ x1 : Int, x1 = η 0 (Int.toNat 8) → zok 0 x1 → (x1 = 1) → ∀ x2 : Int, x2 = η 0 (Int.toNat 9) → zok 0 x2 → (x2 ≤ 6) → ∀ x3 : Int, x3 = η 0 (Int.toNat 9) → zok 0 x3 → (x3 = 3) → ∀ (x4 : Int) (η1 : zE), ((gC2 wl_ne [(nat_lit 0, zPne_wrong, zOne_wrong, zMne_wrong), (nat_lit 1, zPne_isSign, zOne_isSign, zMne_isSign), (nat_lit 2, zPne_token1, zOne_token1, zMne_token1), (nat_lit 3, zPne_grooveLine, zOne_grooveLine, zMne_grooveLine), (nat_lit 4, zPne_scratLine, zOne_scratLine, zMne_scratLine), (nat_lit 5, zPne_guestLine, zOne_guestLine, zMne_guestLine), (nat_lit 6, zPne_onceLine0, zOne_onceLine0, zMne_onceLine0), (nat_lit 7, zPne_onceLine1, zOne_onceLine1, zMne_onceLine1), (nat_lit 8, zPne_onceLine2, zOne_onceLine2, zMne_onceLine2), (nat_lit 9, zPne_sumRead, zOne_sumRead, zMne_sumRead)] pCne_lineRead qCne_lineRead) 6).2 [] η x4 η1 → (¬ x4 = 0) → ∀ (x5 : Int) (η2 : zE), ((gC2 wl_ne [(nat_lit 0, zPne_wrong, zOne_wrong, zMne_wrong), (nat_lit 1, zPne_isSign, zOne_isSign, zMne_isSign), (nat_lit 2, zPne_token1, zOne_token1, zMne_token1), (nat_lit 3, zPne_grooveLine, zOne_grooveLine, zMne_grooveLine), (nat_lit 4, zPne_scratLine, zOne_scratLine, zMne_scratLine), (nat_lit 5, zPne_guestLine, zOne_guestLine, zMne_guestLine), (nat_lit 6, zPne_onceLine0, zOne_onceLine0, zMne_onceLine0), (nat_lit 7, zPne_onceLine1, zOne_onceLine1, zMne_onceLine1), (nat_lit 8, zPne_onceLine2, zOne_onceLine2, zMne_onceLine2), (nat_lit 9, zPne_sumRead, zOne_sumRead, zMne_sumRead)] pCne_lineRead qCne_lineRead) 1).2 [59] η1 x5 η2 → (¬ x5 = 0) → ∀ (x6 : Int) (η3 : zE), ((gC2 wl_ne [(nat_lit 0, zPne_wrong, zOne_wrong, zMne_wrong), (nat_lit 1, zPne_isSign, zOne_isSign, zMne_isSign), (nat_lit 2, zPne_token1, zOne_token1, zMne_token1), (nat_lit 3, zPne_grooveLine, zOne_grooveLine, zMne_grooveLine), (nat_lit 4, zPne_scratLine, zOne_scratLine, zMne_scratLine), (nat_lit 5, zPne_guestLine, zOne_guestLine, zMne_guestLine), (nat_lit 6, zPne_onceLine0, zOne_onceLine0, zMne_onceLine0), (nat_lit 7, zPne_onceLine1, zOne_onceLine1, zMne_onceLine1), (nat_lit 8, zPne_onceLine2, zOne_onceLine2, zMne_onceLine2), (nat_lit 9, zPne_sumRead, zOne_sumRead, zMne_sumRead)] pCne_lineRead qCne_lineRead) 2).2 [] η2 x6 η3 → (fun (_ : Nat) (y : Int) (η' : zE) => pQne_lineRead [] η y η') 0 1 η3 := by
  intro x1 e1 r1 c1 x2 e2 r2 c2 x3 e3 r3 c3 x4 η1 h4 c4 x5 η2 h5 c5 x6 η3 h6
  have y4 : fQne_onceLine0 [] η x4 η1 := h4.2.2
  have k4 : sQ wl_ne zTr zOne_onceLine0 zMne_onceLine0 [] η x4 η1 ∧ oQne_onceLine0 [] η x4 η1 := ⟨h4.1, h4.2.1⟩
  have y5 : fQne_isSign [59] η1 x5 η2 := h5.2.2
  have k5 : sQ wl_ne zTr zOne_isSign zMne_isSign [59] η1 x5 η2 ∧ oQne_isSign [59] η1 x5 η2 := ⟨h5.1, h5.2.1⟩
  have y6 : fQne_token1 [] η2 x6 η3 := h6.2.2
  have k6 : sQ wl_ne zTr zOne_token1 zMne_token1 [] η2 x6 η3 ∧ oQne_token1 [] η2 x6 η3 := ⟨h6.1, h6.2.1⟩
  refine yj_a ?_ ?_
  · have y4 : fQne_onceLine0 [] η x4 η1 := h4.2.2
    have k4 : sQ wl_ne zTr zOne_onceLine0 zMne_onceLine0 [] η x4 η1 ∧ oQne_onceLine0 [] η x4 η1 := ⟨h4.1, h4.2.1⟩
    have y5 : fQne_isSign [59] η1 x5 η2 := h5.2.2
    have k5 : sQ wl_ne zTr zOne_isSign zMne_isSign [59] η1 x5 η2 ∧ oQne_isSign [59] η1 x5 η2 := ⟨h5.1, h5.2.1⟩
    have y6 : fQne_token1 [] η2 x6 η3 := h6.2.2
    have k6 : sQ wl_ne zTr zOne_token1 zMne_token1 [] η2 x6 η3 ∧ oQne_token1 [] η2 x6 η3 := ⟨h6.1, h6.2.1⟩
    have w0_0_8 : (0 : Int) ≤ η 0 8 ∧ η 0 8 ≤ 6 := wf_ok (a := 8) (b := 8) (z := (0, 6)) hp.1 (by decide +kernel) (Nat.le_refl _) (Nat.le_refl _)
    replace e1 : x1 = η 0 8 := e1
    replace e2 : x2 = η 0 9 := e2
    replace r2 : -2147483648 ≤ x2 ∧ x2 ≤ 2147483647 := r2
    replace e3 : x3 = η 0 9 := e3
    replace r3 : -2147483648 ≤ x3 ∧ x3 ≤ 2147483647 := r3
    have w0_0_7 : (0 : Int) ≤ η 0 7 ∧ η 0 7 ≤ 700 := wf_ok (a := 7) (b := 7) (z := (0, 700)) hp.1 (by decide +kernel) (Nat.le_refl _) (Nat.le_refl _)
    have c0_0_7 : η 0 7 = η 0 7 := rfl
    have w0_0_6 : (0 : Int) ≤ η 0 6 ∧ η 0 6 ≤ 700 := wf_ok (a := 6) (b := 6) (z := (0, 700)) hp.1 (by decide +kernel) (Nat.le_refl _) (Nat.le_refl _)
    have c0_0_6 : η 0 6 = η 0 6 := rfl
    have c0_0_8 : η 0 8 = η 0 8 := rfl
    have w0_0_19 : (0 : Int) ≤ η 0 19 ∧ η 0 19 ≤ 64 := wf_ok (a := 19) (b := 19) (z := (0, 64)) hp.1 (by decide +kernel) (Nat.le_refl _) (Nat.le_refl _)
    have c0_0_19 : η 0 19 = η 0 19 := rfl
    have w0_0_44 : (0 : Int) ≤ η 0 44 ∧ η 0 44 ≤ 64 := wf_ok (a := 44) (b := 44) (z := (0, 64)) hp.1 (by decide +kernel) (Nat.le_refl _) (Nat.le_refl _)
    have c0_0_44 : η 0 44 = η 0 44 := rfl
    have bx4 : (0 : Int) ≤ x4 ∧ x4 ≤ 1 := k4.1.2.1
    have w1_0_7 : (0 : Int) ≤ η1 0 7 ∧ η1 0 7 ≤ 700 := wf_ok (a := 7) (b := 7) (z := (0, 700)) k4.1.1 (by decide +kernel) (Nat.le_refl _) (Nat.le_refl _)
    have d1_0_7 : η1 0 7 = η1 0 7 := rfl
    have v7 : zEq (η1 0 6) (η 0 6) := (k4.1.2.2.2.1 0 6 (by decide +kernel)).trans rfl
    have d1_0_6 : η1 0 6 = η 0 6 := v7
    have w1_0_8 : (0 : Int) ≤ η1 0 8 ∧ η1 0 8 ≤ 6 := wf_ok (a := 8) (b := 8) (z := (0, 6)) k4.1.1 (by decide +kernel) (Nat.le_refl _) (Nat.le_refl _)
    have d1_0_8 : η1 0 8 = η1 0 8 := rfl
    have v9 : zEq (η1 0 19) (η 0 19) := (k4.1.2.2.2.1 0 19 (by decide +kernel)).trans rfl
    have d1_0_19 : η1 0 19 = η 0 19 := v9
    have v10 : zEq (η1 0 44) (η 0 44) := (k4.1.2.2.2.1 0 44 (by decide +kernel)).trans rfl
    have d1_0_44 : η1 0 44 = η 0 44 := v10
    have c1_0_7 : η1 0 7 = η1 0 7 := rfl
    have c1_0_6 : η1 0 6 = η 0 6 := v7
    have c1_0_8 : η1 0 8 = η1 0 8 := rfl
    have c1_0_19 : η1 0 19 = η 0 19 := v9
    have c1_0_44 : η1 0 44 = η 0 44 := v10
    have bx5 : (0 : Int) ≤ x5 ∧ x5 ≤ 1 := k5.1.2.1
    have v11 : zEq (η2 0 7) (η1 0 7) := (k5.1.2.2.2.1 0 7 (by decide +kernel)).trans rfl
    have d2_0_7 : η2 0 7 = η1 0 7 := v11
    have v12 : zEq (η2 0 6) (η 0 6) := (k5.1.2.2.2.1 0 6 (by decide +kernel)).trans v7
    have d2_0_6 : η2 0 6 = η 0 6 := v12
    have v13 : zEq (η2 0 8) (η1 0 8) := (k5.1.2.2.2.1 0 8 (by decide +kernel)).trans rfl
    have d2_0_8 : η2 0 8 = η1 0 8 := v13
    have v14 : zEq (η2 0 19) (η 0 19) := (k5.1.2.2.2.1 0 19 (by decide +kernel)).trans v9
    have d2_0_19 : η2 0 19 = η 0 19 := v14
    have v15 : zEq (η2 0 44) (η 0 44) := (k5.1.2.2.2.1 0 44 (by decide +kernel)).trans v10
    have d2_0_44 : η2 0 44 = η 0 44 := v15
    have c2_0_7 : η2 0 7 = η1 0 7 := v11
    have c2_0_6 : η2 0 6 = η 0 6 := v12
    have c2_0_8 : η2 0 8 = η1 0 8 := v13
    have c2_0_19 : η2 0 19 = η 0 19 := v14
    have c2_0_44 : η2 0 44 = η 0 44 := v15
    have bx6 : (0 : Int) ≤ x6 ∧ x6 ≤ 0 := k6.1.2.1
    have w3_0_7 : (0 : Int) ≤ η3 0 7 ∧ η3 0 7 ≤ 700 := wf_ok (a := 7) (b := 7) (z := (0, 700)) k6.1.1 (by decide +kernel) (Nat.le_refl _) (Nat.le_refl _)
    have d3_0_7 : η3 0 7 = η3 0 7 := rfl
    have v17 : zEq (η3 0 6) (η 0 6) := (k6.1.2.2.2.1 0 6 (by decide +kernel)).trans v12
    have d3_0_6 : η3 0 6 = η 0 6 := v17
    have w3_0_8 : (0 : Int) ≤ η3 0 8 ∧ η3 0 8 ≤ 6 := wf_ok (a := 8) (b := 8) (z := (0, 6)) k6.1.1 (by decide +kernel) (Nat.le_refl _) (Nat.le_refl _)
    have d3_0_8 : η3 0 8 = η3 0 8 := rfl
    have v19 : zEq (η3 0 19) (η 0 19) := (k6.1.2.2.2.1 0 19 (by decide +kernel)).trans v14
    have d3_0_19 : η3 0 19 = η 0 19 := v19
    have v20 : zEq (η3 0 44) (η 0 44) := (k6.1.2.2.2.1 0 44 (by decide +kernel)).trans v15
    have d3_0_44 : η3 0 44 = η 0 44 := v20
    have fr16_0 : ∀ j, η 16 j = η 16 j := fun _ => rfl
    have v21 : ∀ j, η1 16 j = η 16 j := fun j => k4.1.2.2.2.1 16 _ (zinr_not (by decide +kernel))
    have fr16_1 : ∀ j, η1 16 j = η 16 j := v21
    have v22 : ∀ j, η2 16 j = η 16 j := fun j => (k5.1.2.2.2.1 16 _ (zinr_not (by decide +kernel))).trans (v21 j)
    have fr16_2 : ∀ j, η2 16 j = η 16 j := v22
    have v23 : ∀ j, η3 16 j = η 16 j := fun j => (k6.1.2.2.2.1 16 _ (zinr_not (by decide +kernel))).trans (v22 j)
    have fr16_3 : ∀ j, η3 16 j = η 16 j := v23
    have fr18_0 : ∀ j, η 18 j = η 18 j := fun _ => rfl
    have v24 : ∀ j, η1 18 j = η 18 j := fun j => k4.1.2.2.2.1 18 _ (zinr_not (by decide +kernel))
    have fr18_1 : ∀ j, η1 18 j = η 18 j := v24
    have v25 : ∀ j, η2 18 j = η 18 j := fun j => (k5.1.2.2.2.1 18 _ (zinr_not (by decide +kernel))).trans (v24 j)
    have fr18_2 : ∀ j, η2 18 j = η 18 j := v25
    have v26 : ∀ j, η3 18 j = η 18 j := fun j => (k6.1.2.2.2.1 18 _ (zinr_not (by decide +kernel))).trans (v25 j)
    have fr18_3 : ∀ j, η3 18 j = η 18 j := v26
    have f0_7 : η3 0 7 = η3 0 7 := rfl
    have f0_6 : η3 0 6 = η 0 6 := v17
    have f0_8 : η3 0 8 = η3 0 8 := rfl
    have f0_19 : η3 0 19 = η 0 19 := v19
    have f0_44 : η3 0 44 = η 0 44 := v20
    have qn4 : ¬ x4 = 0 → 10 * (η1 0 6 - η1 0 7) + η1 0 8 < 10 * (η 0 6 - η 0 7) + η 0 8 := k4.2.2
    have qs5 : ¬ x5 = 0 → η1 0 8 = 4 := k5.2.2
    have qt6 : ¬ η2 0 8 = 0 → 10 * (η3 0 6 - η3 0 7) + η3 0 8 < 10 * (η2 0 6 - η2 0 7) + η2 0 8 := k6.2.2
    have P3 : PL_n 6 η3 := zGk_fm2 plk_n (k5.2.1.2) k6.1.2.2.2.1 (by decide +kernel)
    exact ⟨k6.2.1.1, pl_d (P3) (by decide), fun _ => ⟨⟨k6.2.1, P3⟩, show 10 * (η3 0 6 - η3 0 7) + η3 0 8 < 10 * (η 0 6 - η 0 7) + η 0 8 by omega⟩⟩
  · have e1 : x1 = η 0 8 := e1
    have e2 : x2 = η 0 9 := e2
    have e3 : x3 = η 0 9 := e3
    have f3 : x2 = x3 := e2.trans e3.symm
    subst f3
    obtain ⟨a4, b4⟩ : x4 = (yq_onl 0 4 0 9 η).1 ∧ η1 = (yq_onl 0 4 0 9 η).2 := y4
    obtain ⟨a5, b5⟩ : x5 = (yq_isS 59 η1) ∧ η1 = η2 := ⟨y5.1, y5.2.symm⟩
    subst b5
    have b6 : η3 = (yq_tok η1) := y6
    show 1 = (yq_lnr η).1 ∧ η3 = (yq_lnr η).2
    simp only [yq_lnr, yq_le, yq_law, yq_lw1, yq_lw2, yq_no, ← e1, ← e2, ← a4, ← b4, ← a5, ← b6]
    all_goals (repeat (first | rw [if_pos (by omega)] | rw [if_neg (by omega)]))
    all_goals exact ⟨rfl, rfl⟩
set_option maxHeartbeats 8000000 in
theorem zne_lineRead_o60 {ro : Nat → List Int32} (η : zE) (hp : sP wl_ne zTr zPne_lineRead [] η) (hpp : pPne_lineRead [] η) : ∀ x1 : Int, x1 = η 0 (Int.toNat 8) → zok 0 x1 → (x1 = 1) → ∀ x2 : Int, x2 = η 0 (Int.toNat 9) → zok 0 x2 → (x2 ≤ 6) → ∀ x3 : Int, x3 = η 0 (Int.toNat 9) → zok 0 x3 → (x3 = 3) → ∀ (x4 : Int) (η1 : zE), ((gC2 wl_ne [(nat_lit 0, zPne_wrong, zOne_wrong, zMne_wrong), (nat_lit 1, zPne_isSign, zOne_isSign, zMne_isSign), (nat_lit 2, zPne_token1, zOne_token1, zMne_token1), (nat_lit 3, zPne_grooveLine, zOne_grooveLine, zMne_grooveLine), (nat_lit 4, zPne_scratLine, zOne_scratLine, zMne_scratLine), (nat_lit 5, zPne_guestLine, zOne_guestLine, zMne_guestLine), (nat_lit 6, zPne_onceLine0, zOne_onceLine0, zMne_onceLine0), (nat_lit 7, zPne_onceLine1, zOne_onceLine1, zMne_onceLine1), (nat_lit 8, zPne_onceLine2, zOne_onceLine2, zMne_onceLine2), (nat_lit 9, zPne_sumRead, zOne_sumRead, zMne_sumRead)] pCne_lineRead qCne_lineRead) 6).2 [] η x4 η1 → (¬ x4 = 0) → ∀ (x5 : Int) (η2 : zE), ((gC2 wl_ne [(nat_lit 0, zPne_wrong, zOne_wrong, zMne_wrong), (nat_lit 1, zPne_isSign, zOne_isSign, zMne_isSign), (nat_lit 2, zPne_token1, zOne_token1, zMne_token1), (nat_lit 3, zPne_grooveLine, zOne_grooveLine, zMne_grooveLine), (nat_lit 4, zPne_scratLine, zOne_scratLine, zMne_scratLine), (nat_lit 5, zPne_guestLine, zOne_guestLine, zMne_guestLine), (nat_lit 6, zPne_onceLine0, zOne_onceLine0, zMne_onceLine0), (nat_lit 7, zPne_onceLine1, zOne_onceLine1, zMne_onceLine1), (nat_lit 8, zPne_onceLine2, zOne_onceLine2, zMne_onceLine2), (nat_lit 9, zPne_sumRead, zOne_sumRead, zMne_sumRead)] pCne_lineRead qCne_lineRead) 1).2 [59] η1 x5 η2 → (x5 = 0) → ((gC2 wl_ne [(nat_lit 0, zPne_wrong, zOne_wrong, zMne_wrong), (nat_lit 1, zPne_isSign, zOne_isSign, zMne_isSign), (nat_lit 2, zPne_token1, zOne_token1, zMne_token1), (nat_lit 3, zPne_grooveLine, zOne_grooveLine, zMne_grooveLine), (nat_lit 4, zPne_scratLine, zOne_scratLine, zMne_scratLine), (nat_lit 5, zPne_guestLine, zOne_guestLine, zMne_guestLine), (nat_lit 6, zPne_onceLine0, zOne_onceLine0, zMne_onceLine0), (nat_lit 7, zPne_onceLine1, zOne_onceLine1, zMne_onceLine1), (nat_lit 8, zPne_onceLine2, zOne_onceLine2, zMne_onceLine2), (nat_lit 9, zPne_sumRead, zOne_sumRead, zMne_sumRead)] pCne_lineRead qCne_lineRead) 0).1 [1] η2 := by
  intro x1 e1 r1 c1 x2 e2 r2 c2 x3 e3 r3 c3 x4 η1 h4 c4 x5 η2 h5 c5
  have y4 : fQne_onceLine0 [] η x4 η1 := h4.2.2
  have k4 : sQ wl_ne zTr zOne_onceLine0 zMne_onceLine0 [] η x4 η1 ∧ oQne_onceLine0 [] η x4 η1 := ⟨h4.1, h4.2.1⟩
  have y5 : fQne_isSign [59] η1 x5 η2 := h5.2.2
  have k5 : sQ wl_ne zTr zOne_isSign zMne_isSign [59] η1 x5 η2 ∧ oQne_isSign [59] η1 x5 η2 := ⟨h5.1, h5.2.1⟩
  have w0_0_8 : (0 : Int) ≤ η 0 8 ∧ η 0 8 ≤ 6 := wf_ok (a := 8) (b := 8) (z := (0, 6)) hp.1 (by decide +kernel) (Nat.le_refl _) (Nat.le_refl _)
  replace e1 : x1 = η 0 8 := e1
  replace e2 : x2 = η 0 9 := e2
  replace r2 : -2147483648 ≤ x2 ∧ x2 ≤ 2147483647 := r2
  replace e3 : x3 = η 0 9 := e3
  replace r3 : -2147483648 ≤ x3 ∧ x3 ≤ 2147483647 := r3
  have w0_0_7 : (0 : Int) ≤ η 0 7 ∧ η 0 7 ≤ 700 := wf_ok (a := 7) (b := 7) (z := (0, 700)) hp.1 (by decide +kernel) (Nat.le_refl _) (Nat.le_refl _)
  have c0_0_7 : η 0 7 = η 0 7 := rfl
  have w0_0_6 : (0 : Int) ≤ η 0 6 ∧ η 0 6 ≤ 700 := wf_ok (a := 6) (b := 6) (z := (0, 700)) hp.1 (by decide +kernel) (Nat.le_refl _) (Nat.le_refl _)
  have c0_0_6 : η 0 6 = η 0 6 := rfl
  have c0_0_8 : η 0 8 = η 0 8 := rfl
  have w0_0_19 : (0 : Int) ≤ η 0 19 ∧ η 0 19 ≤ 64 := wf_ok (a := 19) (b := 19) (z := (0, 64)) hp.1 (by decide +kernel) (Nat.le_refl _) (Nat.le_refl _)
  have c0_0_19 : η 0 19 = η 0 19 := rfl
  have w0_0_44 : (0 : Int) ≤ η 0 44 ∧ η 0 44 ≤ 64 := wf_ok (a := 44) (b := 44) (z := (0, 64)) hp.1 (by decide +kernel) (Nat.le_refl _) (Nat.le_refl _)
  have c0_0_44 : η 0 44 = η 0 44 := rfl
  have bx4 : (0 : Int) ≤ x4 ∧ x4 ≤ 1 := k4.1.2.1
  have w1_0_7 : (0 : Int) ≤ η1 0 7 ∧ η1 0 7 ≤ 700 := wf_ok (a := 7) (b := 7) (z := (0, 700)) k4.1.1 (by decide +kernel) (Nat.le_refl _) (Nat.le_refl _)
  have d1_0_7 : η1 0 7 = η1 0 7 := rfl
  have v7 : zEq (η1 0 6) (η 0 6) := (k4.1.2.2.2.1 0 6 (by decide +kernel)).trans rfl
  have d1_0_6 : η1 0 6 = η 0 6 := v7
  have w1_0_8 : (0 : Int) ≤ η1 0 8 ∧ η1 0 8 ≤ 6 := wf_ok (a := 8) (b := 8) (z := (0, 6)) k4.1.1 (by decide +kernel) (Nat.le_refl _) (Nat.le_refl _)
  have d1_0_8 : η1 0 8 = η1 0 8 := rfl
  have v9 : zEq (η1 0 19) (η 0 19) := (k4.1.2.2.2.1 0 19 (by decide +kernel)).trans rfl
  have d1_0_19 : η1 0 19 = η 0 19 := v9
  have v10 : zEq (η1 0 44) (η 0 44) := (k4.1.2.2.2.1 0 44 (by decide +kernel)).trans rfl
  have d1_0_44 : η1 0 44 = η 0 44 := v10
  have c1_0_7 : η1 0 7 = η1 0 7 := rfl
  have c1_0_6 : η1 0 6 = η 0 6 := v7
  have c1_0_8 : η1 0 8 = η1 0 8 := rfl
  have c1_0_19 : η1 0 19 = η 0 19 := v9
  have c1_0_44 : η1 0 44 = η 0 44 := v10
  have bx5 : (0 : Int) ≤ x5 ∧ x5 ≤ 1 := k5.1.2.1
  have v11 : zEq (η2 0 7) (η1 0 7) := (k5.1.2.2.2.1 0 7 (by decide +kernel)).trans rfl
  have d2_0_7 : η2 0 7 = η1 0 7 := v11
  have v12 : zEq (η2 0 6) (η 0 6) := (k5.1.2.2.2.1 0 6 (by decide +kernel)).trans v7
  have d2_0_6 : η2 0 6 = η 0 6 := v12
  have v13 : zEq (η2 0 8) (η1 0 8) := (k5.1.2.2.2.1 0 8 (by decide +kernel)).trans rfl
  have d2_0_8 : η2 0 8 = η1 0 8 := v13
  have v14 : zEq (η2 0 19) (η 0 19) := (k5.1.2.2.2.1 0 19 (by decide +kernel)).trans v9
  have d2_0_19 : η2 0 19 = η 0 19 := v14
  have v15 : zEq (η2 0 44) (η 0 44) := (k5.1.2.2.2.1 0 44 (by decide +kernel)).trans v10
  have d2_0_44 : η2 0 44 = η 0 44 := v15
  have fr16_0 : ∀ j, η 16 j = η 16 j := fun _ => rfl
  have v16 : ∀ j, η1 16 j = η 16 j := fun j => k4.1.2.2.2.1 16 _ (zinr_not (by decide +kernel))
  have fr16_1 : ∀ j, η1 16 j = η 16 j := v16
  have v17 : ∀ j, η2 16 j = η 16 j := fun j => (k5.1.2.2.2.1 16 _ (zinr_not (by decide +kernel))).trans (v16 j)
  have fr16_2 : ∀ j, η2 16 j = η 16 j := v17
  have fr18_0 : ∀ j, η 18 j = η 18 j := fun _ => rfl
  have v18 : ∀ j, η1 18 j = η 18 j := fun j => k4.1.2.2.2.1 18 _ (zinr_not (by decide +kernel))
  have fr18_1 : ∀ j, η1 18 j = η 18 j := v18
  have v19 : ∀ j, η2 18 j = η 18 j := fun j => (k5.1.2.2.2.1 18 _ (zinr_not (by decide +kernel))).trans (v18 j)
  have fr18_2 : ∀ j, η2 18 j = η 18 j := v19
  have f0_7 : η2 0 7 = η1 0 7 := v11
  have f0_6 : η2 0 6 = η 0 6 := v12
  have f0_8 : η2 0 8 = η1 0 8 := v13
  have f0_19 : η2 0 19 = η 0 19 := v14
  have f0_44 : η2 0 44 = η 0 44 := v15
  have qn4 : ¬ x4 = 0 → 10 * (η1 0 6 - η1 0 7) + η1 0 8 < 10 * (η 0 6 - η 0 7) + η 0 8 := k4.2.2
  have qs5 : ¬ x5 = 0 → η1 0 8 = 4 := k5.2.2
  exact ⟨k5.2.1.1, k5.2.1.2⟩
set_option maxHeartbeats 8000000 in
theorem zne_lineRead_o61 {ro : Nat → List Int32} (η : zE) (hp : sP wl_ne zTr zPne_lineRead [] η) (hpp : pPne_lineRead [] η) : ∀ x1 : Int, x1 = η 0 (Int.toNat 8) → zok 0 x1 → (x1 = 1) → ∀ x2 : Int, x2 = η 0 (Int.toNat 9) → zok 0 x2 → (x2 ≤ 6) → ∀ x3 : Int, x3 = η 0 (Int.toNat 9) → zok 0 x3 → (x3 = 3) → ∀ (x4 : Int) (η1 : zE), ((gC2 wl_ne [(nat_lit 0, zPne_wrong, zOne_wrong, zMne_wrong), (nat_lit 1, zPne_isSign, zOne_isSign, zMne_isSign), (nat_lit 2, zPne_token1, zOne_token1, zMne_token1), (nat_lit 3, zPne_grooveLine, zOne_grooveLine, zMne_grooveLine), (nat_lit 4, zPne_scratLine, zOne_scratLine, zMne_scratLine), (nat_lit 5, zPne_guestLine, zOne_guestLine, zMne_guestLine), (nat_lit 6, zPne_onceLine0, zOne_onceLine0, zMne_onceLine0), (nat_lit 7, zPne_onceLine1, zOne_onceLine1, zMne_onceLine1), (nat_lit 8, zPne_onceLine2, zOne_onceLine2, zMne_onceLine2), (nat_lit 9, zPne_sumRead, zOne_sumRead, zMne_sumRead)] pCne_lineRead qCne_lineRead) 6).2 [] η x4 η1 → (¬ x4 = 0) → ∀ (x5 : Int) (η2 : zE), ((gC2 wl_ne [(nat_lit 0, zPne_wrong, zOne_wrong, zMne_wrong), (nat_lit 1, zPne_isSign, zOne_isSign, zMne_isSign), (nat_lit 2, zPne_token1, zOne_token1, zMne_token1), (nat_lit 3, zPne_grooveLine, zOne_grooveLine, zMne_grooveLine), (nat_lit 4, zPne_scratLine, zOne_scratLine, zMne_scratLine), (nat_lit 5, zPne_guestLine, zOne_guestLine, zMne_guestLine), (nat_lit 6, zPne_onceLine0, zOne_onceLine0, zMne_onceLine0), (nat_lit 7, zPne_onceLine1, zOne_onceLine1, zMne_onceLine1), (nat_lit 8, zPne_onceLine2, zOne_onceLine2, zMne_onceLine2), (nat_lit 9, zPne_sumRead, zOne_sumRead, zMne_sumRead)] pCne_lineRead qCne_lineRead) 1).2 [59] η1 x5 η2 → (x5 = 0) → ∀ (x6 : Int) (η3 : zE), ((gC2 wl_ne [(nat_lit 0, zPne_wrong, zOne_wrong, zMne_wrong), (nat_lit 1, zPne_isSign, zOne_isSign, zMne_isSign), (nat_lit 2, zPne_token1, zOne_token1, zMne_token1), (nat_lit 3, zPne_grooveLine, zOne_grooveLine, zMne_grooveLine), (nat_lit 4, zPne_scratLine, zOne_scratLine, zMne_scratLine), (nat_lit 5, zPne_guestLine, zOne_guestLine, zMne_guestLine), (nat_lit 6, zPne_onceLine0, zOne_onceLine0, zMne_onceLine0), (nat_lit 7, zPne_onceLine1, zOne_onceLine1, zMne_onceLine1), (nat_lit 8, zPne_onceLine2, zOne_onceLine2, zMne_onceLine2), (nat_lit 9, zPne_sumRead, zOne_sumRead, zMne_sumRead)] pCne_lineRead qCne_lineRead) 0).2 [1] η2 x6 η3 → (fun (_ : Nat) (y : Int) (η' : zE) => pQne_lineRead [] η y η') 0 x6 η3 := by
  intro x1 e1 r1 c1 x2 e2 r2 c2 x3 e3 r3 c3 x4 η1 h4 c4 x5 η2 h5 c5 x6 η3 h6
  have y4 : fQne_onceLine0 [] η x4 η1 := h4.2.2
  have k4 : sQ wl_ne zTr zOne_onceLine0 zMne_onceLine0 [] η x4 η1 ∧ oQne_onceLine0 [] η x4 η1 := ⟨h4.1, h4.2.1⟩
  have y5 : fQne_isSign [59] η1 x5 η2 := h5.2.2
  have k5 : sQ wl_ne zTr zOne_isSign zMne_isSign [59] η1 x5 η2 ∧ oQne_isSign [59] η1 x5 η2 := ⟨h5.1, h5.2.1⟩
  have y6 : fQne_wrong [1] η2 x6 η3 := h6.2.2
  have k6 : sQ wl_ne zTr zOne_wrong zMne_wrong [1] η2 x6 η3 ∧ oQne_wrong [1] η2 x6 η3 := ⟨h6.1, h6.2.1⟩
  refine yj_a ?_ ?_
  · have y4 : fQne_onceLine0 [] η x4 η1 := h4.2.2
    have k4 : sQ wl_ne zTr zOne_onceLine0 zMne_onceLine0 [] η x4 η1 ∧ oQne_onceLine0 [] η x4 η1 := ⟨h4.1, h4.2.1⟩
    have y5 : fQne_isSign [59] η1 x5 η2 := h5.2.2
    have k5 : sQ wl_ne zTr zOne_isSign zMne_isSign [59] η1 x5 η2 ∧ oQne_isSign [59] η1 x5 η2 := ⟨h5.1, h5.2.1⟩
    have y6 : fQne_wrong [1] η2 x6 η3 := h6.2.2
    have k6 : sQ wl_ne zTr zOne_wrong zMne_wrong [1] η2 x6 η3 ∧ oQne_wrong [1] η2 x6 η3 := ⟨h6.1, h6.2.1⟩
    have w0_0_8 : (0 : Int) ≤ η 0 8 ∧ η 0 8 ≤ 6 := wf_ok (a := 8) (b := 8) (z := (0, 6)) hp.1 (by decide +kernel) (Nat.le_refl _) (Nat.le_refl _)
    replace e1 : x1 = η 0 8 := e1
    replace e2 : x2 = η 0 9 := e2
    replace r2 : -2147483648 ≤ x2 ∧ x2 ≤ 2147483647 := r2
    replace e3 : x3 = η 0 9 := e3
    replace r3 : -2147483648 ≤ x3 ∧ x3 ≤ 2147483647 := r3
    have w0_0_7 : (0 : Int) ≤ η 0 7 ∧ η 0 7 ≤ 700 := wf_ok (a := 7) (b := 7) (z := (0, 700)) hp.1 (by decide +kernel) (Nat.le_refl _) (Nat.le_refl _)
    have c0_0_7 : η 0 7 = η 0 7 := rfl
    have w0_0_6 : (0 : Int) ≤ η 0 6 ∧ η 0 6 ≤ 700 := wf_ok (a := 6) (b := 6) (z := (0, 700)) hp.1 (by decide +kernel) (Nat.le_refl _) (Nat.le_refl _)
    have c0_0_6 : η 0 6 = η 0 6 := rfl
    have c0_0_8 : η 0 8 = η 0 8 := rfl
    have w0_0_19 : (0 : Int) ≤ η 0 19 ∧ η 0 19 ≤ 64 := wf_ok (a := 19) (b := 19) (z := (0, 64)) hp.1 (by decide +kernel) (Nat.le_refl _) (Nat.le_refl _)
    have c0_0_19 : η 0 19 = η 0 19 := rfl
    have w0_0_44 : (0 : Int) ≤ η 0 44 ∧ η 0 44 ≤ 64 := wf_ok (a := 44) (b := 44) (z := (0, 64)) hp.1 (by decide +kernel) (Nat.le_refl _) (Nat.le_refl _)
    have c0_0_44 : η 0 44 = η 0 44 := rfl
    have bx4 : (0 : Int) ≤ x4 ∧ x4 ≤ 1 := k4.1.2.1
    have w1_0_7 : (0 : Int) ≤ η1 0 7 ∧ η1 0 7 ≤ 700 := wf_ok (a := 7) (b := 7) (z := (0, 700)) k4.1.1 (by decide +kernel) (Nat.le_refl _) (Nat.le_refl _)
    have d1_0_7 : η1 0 7 = η1 0 7 := rfl
    have v7 : zEq (η1 0 6) (η 0 6) := (k4.1.2.2.2.1 0 6 (by decide +kernel)).trans rfl
    have d1_0_6 : η1 0 6 = η 0 6 := v7
    have w1_0_8 : (0 : Int) ≤ η1 0 8 ∧ η1 0 8 ≤ 6 := wf_ok (a := 8) (b := 8) (z := (0, 6)) k4.1.1 (by decide +kernel) (Nat.le_refl _) (Nat.le_refl _)
    have d1_0_8 : η1 0 8 = η1 0 8 := rfl
    have v9 : zEq (η1 0 19) (η 0 19) := (k4.1.2.2.2.1 0 19 (by decide +kernel)).trans rfl
    have d1_0_19 : η1 0 19 = η 0 19 := v9
    have v10 : zEq (η1 0 44) (η 0 44) := (k4.1.2.2.2.1 0 44 (by decide +kernel)).trans rfl
    have d1_0_44 : η1 0 44 = η 0 44 := v10
    have c1_0_7 : η1 0 7 = η1 0 7 := rfl
    have c1_0_6 : η1 0 6 = η 0 6 := v7
    have c1_0_8 : η1 0 8 = η1 0 8 := rfl
    have c1_0_19 : η1 0 19 = η 0 19 := v9
    have c1_0_44 : η1 0 44 = η 0 44 := v10
    have bx5 : (0 : Int) ≤ x5 ∧ x5 ≤ 1 := k5.1.2.1
    have v11 : zEq (η2 0 7) (η1 0 7) := (k5.1.2.2.2.1 0 7 (by decide +kernel)).trans rfl
    have d2_0_7 : η2 0 7 = η1 0 7 := v11
    have v12 : zEq (η2 0 6) (η 0 6) := (k5.1.2.2.2.1 0 6 (by decide +kernel)).trans v7
    have d2_0_6 : η2 0 6 = η 0 6 := v12
    have v13 : zEq (η2 0 8) (η1 0 8) := (k5.1.2.2.2.1 0 8 (by decide +kernel)).trans rfl
    have d2_0_8 : η2 0 8 = η1 0 8 := v13
    have v14 : zEq (η2 0 19) (η 0 19) := (k5.1.2.2.2.1 0 19 (by decide +kernel)).trans v9
    have d2_0_19 : η2 0 19 = η 0 19 := v14
    have v15 : zEq (η2 0 44) (η 0 44) := (k5.1.2.2.2.1 0 44 (by decide +kernel)).trans v10
    have d2_0_44 : η2 0 44 = η 0 44 := v15
    have c2_0_7 : η2 0 7 = η1 0 7 := v11
    have c2_0_6 : η2 0 6 = η 0 6 := v12
    have c2_0_8 : η2 0 8 = η1 0 8 := v13
    have c2_0_19 : η2 0 19 = η 0 19 := v14
    have c2_0_44 : η2 0 44 = η 0 44 := v15
    have bx6 : (0 : Int) ≤ x6 ∧ x6 ≤ 0 := k6.1.2.1
    have v16 : zEq (η3 0 7) (η1 0 7) := (k6.1.2.2.2.1 0 7 (by decide +kernel)).trans v11
    have d3_0_7 : η3 0 7 = η1 0 7 := v16
    have v17 : zEq (η3 0 6) (η 0 6) := (k6.1.2.2.2.1 0 6 (by decide +kernel)).trans v12
    have d3_0_6 : η3 0 6 = η 0 6 := v17
    have v18 : zEq (η3 0 8) (η1 0 8) := (k6.1.2.2.2.1 0 8 (by decide +kernel)).trans v13
    have d3_0_8 : η3 0 8 = η1 0 8 := v18
    have v19 : zEq (η3 0 19) (η 0 19) := (k6.1.2.2.2.1 0 19 (by decide +kernel)).trans v14
    have d3_0_19 : η3 0 19 = η 0 19 := v19
    have v20 : zEq (η3 0 44) (η 0 44) := (k6.1.2.2.2.1 0 44 (by decide +kernel)).trans v15
    have d3_0_44 : η3 0 44 = η 0 44 := v20
    have fr16_0 : ∀ j, η 16 j = η 16 j := fun _ => rfl
    have v21 : ∀ j, η1 16 j = η 16 j := fun j => k4.1.2.2.2.1 16 _ (zinr_not (by decide +kernel))
    have fr16_1 : ∀ j, η1 16 j = η 16 j := v21
    have v22 : ∀ j, η2 16 j = η 16 j := fun j => (k5.1.2.2.2.1 16 _ (zinr_not (by decide +kernel))).trans (v21 j)
    have fr16_2 : ∀ j, η2 16 j = η 16 j := v22
    have v23 : ∀ j, η3 16 j = η 16 j := fun j => (k6.1.2.2.2.1 16 _ (zinr_not (by decide +kernel))).trans (v22 j)
    have fr16_3 : ∀ j, η3 16 j = η 16 j := v23
    have fr18_0 : ∀ j, η 18 j = η 18 j := fun _ => rfl
    have v24 : ∀ j, η1 18 j = η 18 j := fun j => k4.1.2.2.2.1 18 _ (zinr_not (by decide +kernel))
    have fr18_1 : ∀ j, η1 18 j = η 18 j := v24
    have v25 : ∀ j, η2 18 j = η 18 j := fun j => (k5.1.2.2.2.1 18 _ (zinr_not (by decide +kernel))).trans (v24 j)
    have fr18_2 : ∀ j, η2 18 j = η 18 j := v25
    have v26 : ∀ j, η3 18 j = η 18 j := fun j => (k6.1.2.2.2.1 18 _ (zinr_not (by decide +kernel))).trans (v25 j)
    have fr18_3 : ∀ j, η3 18 j = η 18 j := v26
    have f0_7 : η3 0 7 = η1 0 7 := v16
    have f0_6 : η3 0 6 = η 0 6 := v17
    have f0_8 : η3 0 8 = η1 0 8 := v18
    have f0_19 : η3 0 19 = η 0 19 := v19
    have f0_44 : η3 0 44 = η 0 44 := v20
    have qn4 : ¬ x4 = 0 → 10 * (η1 0 6 - η1 0 7) + η1 0 8 < 10 * (η 0 6 - η 0 7) + η 0 8 := k4.2.2
    have qs5 : ¬ x5 = 0 → η1 0 8 = 4 := k5.2.2
    exact ⟨k6.2.1.1, pl_d (k6.2.2) (by decide), fun w => absurd (show (x6 : Int) = 0 by apply Int.le_antisymm <;> omega) w⟩
  · have e1 : x1 = η 0 8 := e1
    have e2 : x2 = η 0 9 := e2
    have e3 : x3 = η 0 9 := e3
    have f3 : x2 = x3 := e2.trans e3.symm
    subst f3
    obtain ⟨a4, b4⟩ : x4 = (yq_onl 0 4 0 9 η).1 ∧ η1 = (yq_onl 0 4 0 9 η).2 := y4
    obtain ⟨a5, b5⟩ : x5 = (yq_isS 59 η1) ∧ η1 = η2 := ⟨y5.1, y5.2.symm⟩
    subst b5
    obtain ⟨a6, b6⟩ : x6 = 0 ∧ η3 = (yq_wr 1 η1) := y6
    show x6 = (yq_lnr η).1 ∧ η3 = (yq_lnr η).2
    simp only [yq_lnr, yq_le, yq_law, yq_lw1, yq_lw2, yq_no, ← e1, ← e2, ← a4, ← b4, ← a5, ← b6, a6]
    all_goals (repeat (first | rw [if_pos (by omega)] | rw [if_neg (by omega)]))
    all_goals exact ⟨rfl, rfl⟩
set_option maxHeartbeats 8000000 in
theorem zne_lineRead_o62 {ro : Nat → List Int32} (η : zE) (hp : sP wl_ne zTr zPne_lineRead [] η) (hpp : pPne_lineRead [] η) : ∀ x1 : Int, x1 = η 0 (Int.toNat 8) → zok 0 x1 → (x1 = 1) → ∀ x2 : Int, x2 = η 0 (Int.toNat 9) → zok 0 x2 → (x2 ≤ 6) → ∀ x3 : Int, x3 = η 0 (Int.toNat 9) → zok 0 x3 → (x3 = 3) → ∀ (x4 : Int) (η1 : zE), ((gC2 wl_ne [(nat_lit 0, zPne_wrong, zOne_wrong, zMne_wrong), (nat_lit 1, zPne_isSign, zOne_isSign, zMne_isSign), (nat_lit 2, zPne_token1, zOne_token1, zMne_token1), (nat_lit 3, zPne_grooveLine, zOne_grooveLine, zMne_grooveLine), (nat_lit 4, zPne_scratLine, zOne_scratLine, zMne_scratLine), (nat_lit 5, zPne_guestLine, zOne_guestLine, zMne_guestLine), (nat_lit 6, zPne_onceLine0, zOne_onceLine0, zMne_onceLine0), (nat_lit 7, zPne_onceLine1, zOne_onceLine1, zMne_onceLine1), (nat_lit 8, zPne_onceLine2, zOne_onceLine2, zMne_onceLine2), (nat_lit 9, zPne_sumRead, zOne_sumRead, zMne_sumRead)] pCne_lineRead qCne_lineRead) 6).2 [] η x4 η1 → (x4 = 0) → (fun (_ : Nat) (y : Int) (η' : zE) => pQne_lineRead [] η y η') 0 0 η1 := by
  intro x1 e1 r1 c1 x2 e2 r2 c2 x3 e3 r3 c3 x4 η1 h4 c4
  have y4 : fQne_onceLine0 [] η x4 η1 := h4.2.2
  have k4 : sQ wl_ne zTr zOne_onceLine0 zMne_onceLine0 [] η x4 η1 ∧ oQne_onceLine0 [] η x4 η1 := ⟨h4.1, h4.2.1⟩
  refine yj_a ?_ ?_
  · have y4 : fQne_onceLine0 [] η x4 η1 := h4.2.2
    have k4 : sQ wl_ne zTr zOne_onceLine0 zMne_onceLine0 [] η x4 η1 ∧ oQne_onceLine0 [] η x4 η1 := ⟨h4.1, h4.2.1⟩
    have w0_0_8 : (0 : Int) ≤ η 0 8 ∧ η 0 8 ≤ 6 := wf_ok (a := 8) (b := 8) (z := (0, 6)) hp.1 (by decide +kernel) (Nat.le_refl _) (Nat.le_refl _)
    replace e1 : x1 = η 0 8 := e1
    replace e2 : x2 = η 0 9 := e2
    replace r2 : -2147483648 ≤ x2 ∧ x2 ≤ 2147483647 := r2
    replace e3 : x3 = η 0 9 := e3
    replace r3 : -2147483648 ≤ x3 ∧ x3 ≤ 2147483647 := r3
    have w0_0_7 : (0 : Int) ≤ η 0 7 ∧ η 0 7 ≤ 700 := wf_ok (a := 7) (b := 7) (z := (0, 700)) hp.1 (by decide +kernel) (Nat.le_refl _) (Nat.le_refl _)
    have c0_0_7 : η 0 7 = η 0 7 := rfl
    have w0_0_6 : (0 : Int) ≤ η 0 6 ∧ η 0 6 ≤ 700 := wf_ok (a := 6) (b := 6) (z := (0, 700)) hp.1 (by decide +kernel) (Nat.le_refl _) (Nat.le_refl _)
    have c0_0_6 : η 0 6 = η 0 6 := rfl
    have c0_0_8 : η 0 8 = η 0 8 := rfl
    have w0_0_19 : (0 : Int) ≤ η 0 19 ∧ η 0 19 ≤ 64 := wf_ok (a := 19) (b := 19) (z := (0, 64)) hp.1 (by decide +kernel) (Nat.le_refl _) (Nat.le_refl _)
    have c0_0_19 : η 0 19 = η 0 19 := rfl
    have w0_0_44 : (0 : Int) ≤ η 0 44 ∧ η 0 44 ≤ 64 := wf_ok (a := 44) (b := 44) (z := (0, 64)) hp.1 (by decide +kernel) (Nat.le_refl _) (Nat.le_refl _)
    have c0_0_44 : η 0 44 = η 0 44 := rfl
    have bx4 : (0 : Int) ≤ x4 ∧ x4 ≤ 1 := k4.1.2.1
    have w1_0_7 : (0 : Int) ≤ η1 0 7 ∧ η1 0 7 ≤ 700 := wf_ok (a := 7) (b := 7) (z := (0, 700)) k4.1.1 (by decide +kernel) (Nat.le_refl _) (Nat.le_refl _)
    have d1_0_7 : η1 0 7 = η1 0 7 := rfl
    have v7 : zEq (η1 0 6) (η 0 6) := (k4.1.2.2.2.1 0 6 (by decide +kernel)).trans rfl
    have d1_0_6 : η1 0 6 = η 0 6 := v7
    have w1_0_8 : (0 : Int) ≤ η1 0 8 ∧ η1 0 8 ≤ 6 := wf_ok (a := 8) (b := 8) (z := (0, 6)) k4.1.1 (by decide +kernel) (Nat.le_refl _) (Nat.le_refl _)
    have d1_0_8 : η1 0 8 = η1 0 8 := rfl
    have v9 : zEq (η1 0 19) (η 0 19) := (k4.1.2.2.2.1 0 19 (by decide +kernel)).trans rfl
    have d1_0_19 : η1 0 19 = η 0 19 := v9
    have v10 : zEq (η1 0 44) (η 0 44) := (k4.1.2.2.2.1 0 44 (by decide +kernel)).trans rfl
    have d1_0_44 : η1 0 44 = η 0 44 := v10
    have fr16_0 : ∀ j, η 16 j = η 16 j := fun _ => rfl
    have v11 : ∀ j, η1 16 j = η 16 j := fun j => k4.1.2.2.2.1 16 _ (zinr_not (by decide +kernel))
    have fr16_1 : ∀ j, η1 16 j = η 16 j := v11
    have fr18_0 : ∀ j, η 18 j = η 18 j := fun _ => rfl
    have v12 : ∀ j, η1 18 j = η 18 j := fun j => k4.1.2.2.2.1 18 _ (zinr_not (by decide +kernel))
    have fr18_1 : ∀ j, η1 18 j = η 18 j := v12
    have f0_7 : η1 0 7 = η1 0 7 := rfl
    have f0_6 : η1 0 6 = η 0 6 := v7
    have f0_8 : η1 0 8 = η1 0 8 := rfl
    have f0_19 : η1 0 19 = η 0 19 := v9
    have f0_44 : η1 0 44 = η 0 44 := v10
    have qn4 : ¬ x4 = 0 → 10 * (η1 0 6 - η1 0 7) + η1 0 8 < 10 * (η 0 6 - η 0 7) + η 0 8 := k4.2.2
    exact ⟨k4.2.1.1.1, pl_d (k4.2.1.2) (by decide), fun w => absurd (show (0 : Int) = 0 by apply Int.le_antisymm <;> omega) w⟩
  · have e1 : x1 = η 0 8 := e1
    have e2 : x2 = η 0 9 := e2
    have e3 : x3 = η 0 9 := e3
    have f3 : x2 = x3 := e2.trans e3.symm
    subst f3
    obtain ⟨a4, b4⟩ : x4 = (yq_onl 0 4 0 9 η).1 ∧ η1 = (yq_onl 0 4 0 9 η).2 := y4
    show 0 = (yq_lnr η).1 ∧ η1 = (yq_lnr η).2
    simp only [yq_lnr, yq_le, yq_law, yq_lw1, yq_lw2, yq_no, ← e1, ← e2, ← a4, ← b4]
    all_goals (repeat (first | rw [if_pos (by omega)] | rw [if_neg (by omega)]))
    all_goals exact ⟨rfl, rfl⟩
set_option maxHeartbeats 8000000 in
theorem zne_lineRead_o63 {ro : Nat → List Int32} (η : zE) (hp : sP wl_ne zTr zPne_lineRead [] η) (hpp : pPne_lineRead [] η) : ∀ x1 : Int, x1 = η 0 (Int.toNat 8) → zok 0 x1 → (x1 = 1) → ∀ x2 : Int, x2 = η 0 (Int.toNat 9) → zok 0 x2 → (x2 ≤ 6) → ∀ x3 : Int, x3 = η 0 (Int.toNat 9) → zok 0 x3 → (x3 = 4) → ((gC2 wl_ne [(nat_lit 0, zPne_wrong, zOne_wrong, zMne_wrong), (nat_lit 1, zPne_isSign, zOne_isSign, zMne_isSign), (nat_lit 2, zPne_token1, zOne_token1, zMne_token1), (nat_lit 3, zPne_grooveLine, zOne_grooveLine, zMne_grooveLine), (nat_lit 4, zPne_scratLine, zOne_scratLine, zMne_scratLine), (nat_lit 5, zPne_guestLine, zOne_guestLine, zMne_guestLine), (nat_lit 6, zPne_onceLine0, zOne_onceLine0, zMne_onceLine0), (nat_lit 7, zPne_onceLine1, zOne_onceLine1, zMne_onceLine1), (nat_lit 8, zPne_onceLine2, zOne_onceLine2, zMne_onceLine2), (nat_lit 9, zPne_sumRead, zOne_sumRead, zMne_sumRead)] pCne_lineRead qCne_lineRead) 7).1 [] η := by
  intro x1 e1 r1 c1 x2 e2 r2 c2 x3 e3 r3 c3
  have w0_0_8 : (0 : Int) ≤ η 0 8 ∧ η 0 8 ≤ 6 := wf_ok (a := 8) (b := 8) (z := (0, 6)) hp.1 (by decide +kernel) (Nat.le_refl _) (Nat.le_refl _)
  replace e1 : x1 = η 0 8 := e1
  replace e2 : x2 = η 0 9 := e2
  replace r2 : -2147483648 ≤ x2 ∧ x2 ≤ 2147483647 := r2
  replace e3 : x3 = η 0 9 := e3
  replace r3 : -2147483648 ≤ x3 ∧ x3 ≤ 2147483647 := r3
  have fr16_0 : ∀ j, η 16 j = η 16 j := fun _ => rfl
  have fr18_0 : ∀ j, η 18 j = η 18 j := fun _ => rfl
  have w0_0_7 : (0 : Int) ≤ η 0 7 ∧ η 0 7 ≤ 700 := wf_ok (a := 7) (b := 7) (z := (0, 700)) hp.1 (by decide +kernel) (Nat.le_refl _) (Nat.le_refl _)
  have f0_7 : η 0 7 = η 0 7 := rfl
  have w0_0_6 : (0 : Int) ≤ η 0 6 ∧ η 0 6 ≤ 700 := wf_ok (a := 6) (b := 6) (z := (0, 700)) hp.1 (by decide +kernel) (Nat.le_refl _) (Nat.le_refl _)
  have f0_6 : η 0 6 = η 0 6 := rfl
  have f0_8 : η 0 8 = η 0 8 := rfl
  have w0_0_19 : (0 : Int) ≤ η 0 19 ∧ η 0 19 ≤ 64 := wf_ok (a := 19) (b := 19) (z := (0, 64)) hp.1 (by decide +kernel) (Nat.le_refl _) (Nat.le_refl _)
  have f0_19 : η 0 19 = η 0 19 := rfl
  have w0_0_44 : (0 : Int) ≤ η 0 44 ∧ η 0 44 ≤ 64 := wf_ok (a := 44) (b := 44) (z := (0, 64)) hp.1 (by decide +kernel) (Nat.le_refl _) (Nat.le_refl _)
  have f0_44 : η 0 44 = η 0 44 := rfl
  exact ⟨⟨hpp.1, hpp.2⟩, show ¬ η 0 8 = 0 by omega⟩
set_option maxHeartbeats 8000000 in
theorem zne_lineRead_o64 {ro : Nat → List Int32} (η : zE) (hp : sP wl_ne zTr zPne_lineRead [] η) (hpp : pPne_lineRead [] η) : ∀ x1 : Int, x1 = η 0 (Int.toNat 8) → zok 0 x1 → (x1 = 1) → ∀ x2 : Int, x2 = η 0 (Int.toNat 9) → zok 0 x2 → (x2 ≤ 6) → ∀ x3 : Int, x3 = η 0 (Int.toNat 9) → zok 0 x3 → (x3 = 4) → ∀ (x4 : Int) (η1 : zE), ((gC2 wl_ne [(nat_lit 0, zPne_wrong, zOne_wrong, zMne_wrong), (nat_lit 1, zPne_isSign, zOne_isSign, zMne_isSign), (nat_lit 2, zPne_token1, zOne_token1, zMne_token1), (nat_lit 3, zPne_grooveLine, zOne_grooveLine, zMne_grooveLine), (nat_lit 4, zPne_scratLine, zOne_scratLine, zMne_scratLine), (nat_lit 5, zPne_guestLine, zOne_guestLine, zMne_guestLine), (nat_lit 6, zPne_onceLine0, zOne_onceLine0, zMne_onceLine0), (nat_lit 7, zPne_onceLine1, zOne_onceLine1, zMne_onceLine1), (nat_lit 8, zPne_onceLine2, zOne_onceLine2, zMne_onceLine2), (nat_lit 9, zPne_sumRead, zOne_sumRead, zMne_sumRead)] pCne_lineRead qCne_lineRead) 7).2 [] η x4 η1 → (¬ x4 = 0) → ((gC2 wl_ne [(nat_lit 0, zPne_wrong, zOne_wrong, zMne_wrong), (nat_lit 1, zPne_isSign, zOne_isSign, zMne_isSign), (nat_lit 2, zPne_token1, zOne_token1, zMne_token1), (nat_lit 3, zPne_grooveLine, zOne_grooveLine, zMne_grooveLine), (nat_lit 4, zPne_scratLine, zOne_scratLine, zMne_scratLine), (nat_lit 5, zPne_guestLine, zOne_guestLine, zMne_guestLine), (nat_lit 6, zPne_onceLine0, zOne_onceLine0, zMne_onceLine0), (nat_lit 7, zPne_onceLine1, zOne_onceLine1, zMne_onceLine1), (nat_lit 8, zPne_onceLine2, zOne_onceLine2, zMne_onceLine2), (nat_lit 9, zPne_sumRead, zOne_sumRead, zMne_sumRead)] pCne_lineRead qCne_lineRead) 1).1 [59] η1 := by
  intro x1 e1 r1 c1 x2 e2 r2 c2 x3 e3 r3 c3 x4 η1 h4 c4
  have y4 : fQne_onceLine1 [] η x4 η1 := h4.2.2
  have k4 : sQ wl_ne zTr zOne_onceLine1 zMne_onceLine1 [] η x4 η1 ∧ oQne_onceLine1 [] η x4 η1 := ⟨h4.1, h4.2.1⟩
  have w0_0_8 : (0 : Int) ≤ η 0 8 ∧ η 0 8 ≤ 6 := wf_ok (a := 8) (b := 8) (z := (0, 6)) hp.1 (by decide +kernel) (Nat.le_refl _) (Nat.le_refl _)
  replace e1 : x1 = η 0 8 := e1
  replace e2 : x2 = η 0 9 := e2
  replace r2 : -2147483648 ≤ x2 ∧ x2 ≤ 2147483647 := r2
  replace e3 : x3 = η 0 9 := e3
  replace r3 : -2147483648 ≤ x3 ∧ x3 ≤ 2147483647 := r3
  have w0_0_7 : (0 : Int) ≤ η 0 7 ∧ η 0 7 ≤ 700 := wf_ok (a := 7) (b := 7) (z := (0, 700)) hp.1 (by decide +kernel) (Nat.le_refl _) (Nat.le_refl _)
  have c0_0_7 : η 0 7 = η 0 7 := rfl
  have w0_0_6 : (0 : Int) ≤ η 0 6 ∧ η 0 6 ≤ 700 := wf_ok (a := 6) (b := 6) (z := (0, 700)) hp.1 (by decide +kernel) (Nat.le_refl _) (Nat.le_refl _)
  have c0_0_6 : η 0 6 = η 0 6 := rfl
  have c0_0_8 : η 0 8 = η 0 8 := rfl
  have w0_0_19 : (0 : Int) ≤ η 0 19 ∧ η 0 19 ≤ 64 := wf_ok (a := 19) (b := 19) (z := (0, 64)) hp.1 (by decide +kernel) (Nat.le_refl _) (Nat.le_refl _)
  have c0_0_19 : η 0 19 = η 0 19 := rfl
  have w0_0_44 : (0 : Int) ≤ η 0 44 ∧ η 0 44 ≤ 64 := wf_ok (a := 44) (b := 44) (z := (0, 64)) hp.1 (by decide +kernel) (Nat.le_refl _) (Nat.le_refl _)
  have c0_0_44 : η 0 44 = η 0 44 := rfl
  have bx4 : (0 : Int) ≤ x4 ∧ x4 ≤ 1 := k4.1.2.1
  have w1_0_7 : (0 : Int) ≤ η1 0 7 ∧ η1 0 7 ≤ 700 := wf_ok (a := 7) (b := 7) (z := (0, 700)) k4.1.1 (by decide +kernel) (Nat.le_refl _) (Nat.le_refl _)
  have d1_0_7 : η1 0 7 = η1 0 7 := rfl
  have v7 : zEq (η1 0 6) (η 0 6) := (k4.1.2.2.2.1 0 6 (by decide +kernel)).trans rfl
  have d1_0_6 : η1 0 6 = η 0 6 := v7
  have w1_0_8 : (0 : Int) ≤ η1 0 8 ∧ η1 0 8 ≤ 6 := wf_ok (a := 8) (b := 8) (z := (0, 6)) k4.1.1 (by decide +kernel) (Nat.le_refl _) (Nat.le_refl _)
  have d1_0_8 : η1 0 8 = η1 0 8 := rfl
  have v9 : zEq (η1 0 19) (η 0 19) := (k4.1.2.2.2.1 0 19 (by decide +kernel)).trans rfl
  have d1_0_19 : η1 0 19 = η 0 19 := v9
  have v10 : zEq (η1 0 44) (η 0 44) := (k4.1.2.2.2.1 0 44 (by decide +kernel)).trans rfl
  have d1_0_44 : η1 0 44 = η 0 44 := v10
  have fr16_0 : ∀ j, η 16 j = η 16 j := fun _ => rfl
  have v11 : ∀ j, η1 16 j = η 16 j := fun j => k4.1.2.2.2.1 16 _ (zinr_not (by decide +kernel))
  have fr16_1 : ∀ j, η1 16 j = η 16 j := v11
  have fr18_0 : ∀ j, η 18 j = η 18 j := fun _ => rfl
  have v12 : ∀ j, η1 18 j = η 18 j := fun j => k4.1.2.2.2.1 18 _ (zinr_not (by decide +kernel))
  have fr18_1 : ∀ j, η1 18 j = η 18 j := v12
  have f0_7 : η1 0 7 = η1 0 7 := rfl
  have f0_6 : η1 0 6 = η 0 6 := v7
  have f0_8 : η1 0 8 = η1 0 8 := rfl
  have f0_19 : η1 0 19 = η 0 19 := v9
  have f0_44 : η1 0 44 = η 0 44 := v10
  have qn4 : ¬ x4 = 0 → 10 * (η1 0 6 - η1 0 7) + η1 0 8 < 10 * (η 0 6 - η 0 7) + η 0 8 := k4.2.2
  exact ⟨k4.2.1.1, k4.2.1.2⟩
set_option maxHeartbeats 8000000 in
theorem zne_lineRead_o65 {ro : Nat → List Int32} (η : zE) (hp : sP wl_ne zTr zPne_lineRead [] η) (hpp : pPne_lineRead [] η) : ∀ x1 : Int, x1 = η 0 (Int.toNat 8) → zok 0 x1 → (x1 = 1) → ∀ x2 : Int, x2 = η 0 (Int.toNat 9) → zok 0 x2 → (x2 ≤ 6) → ∀ x3 : Int, x3 = η 0 (Int.toNat 9) → zok 0 x3 → (x3 = 4) → ∀ (x4 : Int) (η1 : zE), ((gC2 wl_ne [(nat_lit 0, zPne_wrong, zOne_wrong, zMne_wrong), (nat_lit 1, zPne_isSign, zOne_isSign, zMne_isSign), (nat_lit 2, zPne_token1, zOne_token1, zMne_token1), (nat_lit 3, zPne_grooveLine, zOne_grooveLine, zMne_grooveLine), (nat_lit 4, zPne_scratLine, zOne_scratLine, zMne_scratLine), (nat_lit 5, zPne_guestLine, zOne_guestLine, zMne_guestLine), (nat_lit 6, zPne_onceLine0, zOne_onceLine0, zMne_onceLine0), (nat_lit 7, zPne_onceLine1, zOne_onceLine1, zMne_onceLine1), (nat_lit 8, zPne_onceLine2, zOne_onceLine2, zMne_onceLine2), (nat_lit 9, zPne_sumRead, zOne_sumRead, zMne_sumRead)] pCne_lineRead qCne_lineRead) 7).2 [] η x4 η1 → (¬ x4 = 0) → ∀ (x5 : Int) (η2 : zE), ((gC2 wl_ne [(nat_lit 0, zPne_wrong, zOne_wrong, zMne_wrong), (nat_lit 1, zPne_isSign, zOne_isSign, zMne_isSign), (nat_lit 2, zPne_token1, zOne_token1, zMne_token1), (nat_lit 3, zPne_grooveLine, zOne_grooveLine, zMne_grooveLine), (nat_lit 4, zPne_scratLine, zOne_scratLine, zMne_scratLine), (nat_lit 5, zPne_guestLine, zOne_guestLine, zMne_guestLine), (nat_lit 6, zPne_onceLine0, zOne_onceLine0, zMne_onceLine0), (nat_lit 7, zPne_onceLine1, zOne_onceLine1, zMne_onceLine1), (nat_lit 8, zPne_onceLine2, zOne_onceLine2, zMne_onceLine2), (nat_lit 9, zPne_sumRead, zOne_sumRead, zMne_sumRead)] pCne_lineRead qCne_lineRead) 1).2 [59] η1 x5 η2 → (¬ x5 = 0) → ((gC2 wl_ne [(nat_lit 0, zPne_wrong, zOne_wrong, zMne_wrong), (nat_lit 1, zPne_isSign, zOne_isSign, zMne_isSign), (nat_lit 2, zPne_token1, zOne_token1, zMne_token1), (nat_lit 3, zPne_grooveLine, zOne_grooveLine, zMne_grooveLine), (nat_lit 4, zPne_scratLine, zOne_scratLine, zMne_scratLine), (nat_lit 5, zPne_guestLine, zOne_guestLine, zMne_guestLine), (nat_lit 6, zPne_onceLine0, zOne_onceLine0, zMne_onceLine0), (nat_lit 7, zPne_onceLine1, zOne_onceLine1, zMne_onceLine1), (nat_lit 8, zPne_onceLine2, zOne_onceLine2, zMne_onceLine2), (nat_lit 9, zPne_sumRead, zOne_sumRead, zMne_sumRead)] pCne_lineRead qCne_lineRead) 2).1 [] η2 := by
  intro x1 e1 r1 c1 x2 e2 r2 c2 x3 e3 r3 c3 x4 η1 h4 c4 x5 η2 h5 c5
  have y4 : fQne_onceLine1 [] η x4 η1 := h4.2.2
  have k4 : sQ wl_ne zTr zOne_onceLine1 zMne_onceLine1 [] η x4 η1 ∧ oQne_onceLine1 [] η x4 η1 := ⟨h4.1, h4.2.1⟩
  have y5 : fQne_isSign [59] η1 x5 η2 := h5.2.2
  have k5 : sQ wl_ne zTr zOne_isSign zMne_isSign [59] η1 x5 η2 ∧ oQne_isSign [59] η1 x5 η2 := ⟨h5.1, h5.2.1⟩
  have w0_0_8 : (0 : Int) ≤ η 0 8 ∧ η 0 8 ≤ 6 := wf_ok (a := 8) (b := 8) (z := (0, 6)) hp.1 (by decide +kernel) (Nat.le_refl _) (Nat.le_refl _)
  replace e1 : x1 = η 0 8 := e1
  replace e2 : x2 = η 0 9 := e2
  replace r2 : -2147483648 ≤ x2 ∧ x2 ≤ 2147483647 := r2
  replace e3 : x3 = η 0 9 := e3
  replace r3 : -2147483648 ≤ x3 ∧ x3 ≤ 2147483647 := r3
  have w0_0_7 : (0 : Int) ≤ η 0 7 ∧ η 0 7 ≤ 700 := wf_ok (a := 7) (b := 7) (z := (0, 700)) hp.1 (by decide +kernel) (Nat.le_refl _) (Nat.le_refl _)
  have c0_0_7 : η 0 7 = η 0 7 := rfl
  have w0_0_6 : (0 : Int) ≤ η 0 6 ∧ η 0 6 ≤ 700 := wf_ok (a := 6) (b := 6) (z := (0, 700)) hp.1 (by decide +kernel) (Nat.le_refl _) (Nat.le_refl _)
  have c0_0_6 : η 0 6 = η 0 6 := rfl
  have c0_0_8 : η 0 8 = η 0 8 := rfl
  have w0_0_19 : (0 : Int) ≤ η 0 19 ∧ η 0 19 ≤ 64 := wf_ok (a := 19) (b := 19) (z := (0, 64)) hp.1 (by decide +kernel) (Nat.le_refl _) (Nat.le_refl _)
  have c0_0_19 : η 0 19 = η 0 19 := rfl
  have w0_0_44 : (0 : Int) ≤ η 0 44 ∧ η 0 44 ≤ 64 := wf_ok (a := 44) (b := 44) (z := (0, 64)) hp.1 (by decide +kernel) (Nat.le_refl _) (Nat.le_refl _)
  have c0_0_44 : η 0 44 = η 0 44 := rfl
  have bx4 : (0 : Int) ≤ x4 ∧ x4 ≤ 1 := k4.1.2.1
  have w1_0_7 : (0 : Int) ≤ η1 0 7 ∧ η1 0 7 ≤ 700 := wf_ok (a := 7) (b := 7) (z := (0, 700)) k4.1.1 (by decide +kernel) (Nat.le_refl _) (Nat.le_refl _)
  have d1_0_7 : η1 0 7 = η1 0 7 := rfl
  have v7 : zEq (η1 0 6) (η 0 6) := (k4.1.2.2.2.1 0 6 (by decide +kernel)).trans rfl
  have d1_0_6 : η1 0 6 = η 0 6 := v7
  have w1_0_8 : (0 : Int) ≤ η1 0 8 ∧ η1 0 8 ≤ 6 := wf_ok (a := 8) (b := 8) (z := (0, 6)) k4.1.1 (by decide +kernel) (Nat.le_refl _) (Nat.le_refl _)
  have d1_0_8 : η1 0 8 = η1 0 8 := rfl
  have v9 : zEq (η1 0 19) (η 0 19) := (k4.1.2.2.2.1 0 19 (by decide +kernel)).trans rfl
  have d1_0_19 : η1 0 19 = η 0 19 := v9
  have v10 : zEq (η1 0 44) (η 0 44) := (k4.1.2.2.2.1 0 44 (by decide +kernel)).trans rfl
  have d1_0_44 : η1 0 44 = η 0 44 := v10
  have c1_0_7 : η1 0 7 = η1 0 7 := rfl
  have c1_0_6 : η1 0 6 = η 0 6 := v7
  have c1_0_8 : η1 0 8 = η1 0 8 := rfl
  have c1_0_19 : η1 0 19 = η 0 19 := v9
  have c1_0_44 : η1 0 44 = η 0 44 := v10
  have bx5 : (0 : Int) ≤ x5 ∧ x5 ≤ 1 := k5.1.2.1
  have v11 : zEq (η2 0 7) (η1 0 7) := (k5.1.2.2.2.1 0 7 (by decide +kernel)).trans rfl
  have d2_0_7 : η2 0 7 = η1 0 7 := v11
  have v12 : zEq (η2 0 6) (η 0 6) := (k5.1.2.2.2.1 0 6 (by decide +kernel)).trans v7
  have d2_0_6 : η2 0 6 = η 0 6 := v12
  have v13 : zEq (η2 0 8) (η1 0 8) := (k5.1.2.2.2.1 0 8 (by decide +kernel)).trans rfl
  have d2_0_8 : η2 0 8 = η1 0 8 := v13
  have v14 : zEq (η2 0 19) (η 0 19) := (k5.1.2.2.2.1 0 19 (by decide +kernel)).trans v9
  have d2_0_19 : η2 0 19 = η 0 19 := v14
  have v15 : zEq (η2 0 44) (η 0 44) := (k5.1.2.2.2.1 0 44 (by decide +kernel)).trans v10
  have d2_0_44 : η2 0 44 = η 0 44 := v15
  have fr16_0 : ∀ j, η 16 j = η 16 j := fun _ => rfl
  have v16 : ∀ j, η1 16 j = η 16 j := fun j => k4.1.2.2.2.1 16 _ (zinr_not (by decide +kernel))
  have fr16_1 : ∀ j, η1 16 j = η 16 j := v16
  have v17 : ∀ j, η2 16 j = η 16 j := fun j => (k5.1.2.2.2.1 16 _ (zinr_not (by decide +kernel))).trans (v16 j)
  have fr16_2 : ∀ j, η2 16 j = η 16 j := v17
  have fr18_0 : ∀ j, η 18 j = η 18 j := fun _ => rfl
  have v18 : ∀ j, η1 18 j = η 18 j := fun j => k4.1.2.2.2.1 18 _ (zinr_not (by decide +kernel))
  have fr18_1 : ∀ j, η1 18 j = η 18 j := v18
  have v19 : ∀ j, η2 18 j = η 18 j := fun j => (k5.1.2.2.2.1 18 _ (zinr_not (by decide +kernel))).trans (v18 j)
  have fr18_2 : ∀ j, η2 18 j = η 18 j := v19
  have f0_7 : η2 0 7 = η1 0 7 := v11
  have f0_6 : η2 0 6 = η 0 6 := v12
  have f0_8 : η2 0 8 = η1 0 8 := v13
  have f0_19 : η2 0 19 = η 0 19 := v14
  have f0_44 : η2 0 44 = η 0 44 := v15
  have qn4 : ¬ x4 = 0 → 10 * (η1 0 6 - η1 0 7) + η1 0 8 < 10 * (η 0 6 - η 0 7) + η 0 8 := k4.2.2
  have qs5 : ¬ x5 = 0 → η1 0 8 = 4 := k5.2.2
  exact k5.2.1.1
