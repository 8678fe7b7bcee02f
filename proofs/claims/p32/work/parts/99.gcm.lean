set_option maxHeartbeats 8000000 in
theorem zne_lineRead_o66 {ro : Nat → List Int32} (η : zE) (hp : sP wl_ne zTr zPne_lineRead [] η) (hpp : pPne_lineRead [] η) : ∀ x1 : Int, x1 = η 0 (Int.toNat 8) → zok 0 x1 → (x1 = 1) → ∀ x2 : Int, x2 = η 0 (Int.toNat 9) → zok 0 x2 → (x2 ≤ 6) → ∀ x3 : Int, x3 = η 0 (Int.toNat 9) → zok 0 x3 → (x3 = 4) → ∀ (x4 : Int) (η1 : zE), ((gC2 wl_ne [(nat_lit 0, zPne_wrong, zOne_wrong, zMne_wrong), (nat_lit 1, zPne_isSign, zOne_isSign, zMne_isSign), (nat_lit 2, zPne_token1, zOne_token1, zMne_token1), (nat_lit 3, zPne_grooveLine, zOne_grooveLine, zMne_grooveLine), (nat_lit 4, zPne_scratLine, zOne_scratLine, zMne_scratLine), (nat_lit 5, zPne_guestLine, zOne_guestLine, zMne_guestLine), (nat_lit 6, zPne_onceLine0, zOne_onceLine0, zMne_onceLine0), (nat_lit 7, zPne_onceLine1, zOne_onceLine1, zMne_onceLine1), (nat_lit 8, zPne_onceLine2, zOne_onceLine2, zMne_onceLine2), (nat_lit 9, zPne_sumRead, zOne_sumRead, zMne_sumRead)] pCne_lineRead qCne_lineRead) 7).2 [] η x4 η1 → (¬ x4 = 0) → ∀ (x5 : Int) (η2 : zE), ((gC2 wl_ne [(nat_lit 0, zPne_wrong, zOne_wrong, zMne_wrong), (nat_lit 1, zPne_isSign, zOne_isSign, zMne_isSign), (nat_lit 2, zPne_token1, zOne_token1, zMne_token1), (nat_lit 3, zPne_grooveLine, zOne_grooveLine, zMne_grooveLine), (nat_lit 4, zPne_scratLine, zOne_scratLine, zMne_scratLine), (nat_lit 5, zPne_guestLine, zOne_guestLine, zMne_guestLine), (nat_lit 6, zPne_onceLine0, zOne_onceLine0, zMne_onceLine0), (nat_lit 7, zPne_onceLine1, zOne_onceLine1, zMne_onceLine1), (nat_lit 8, zPne_onceLine2, zOne_onceLine2, zMne_onceLine2), (nat_lit 9, zPne_sumRead, zOne_sumRead, zMne_sumRead)] pCne_lineRead qCne_lineRead) 1).2 [59] η1 x5 η2 → (¬ x5 = 0) → ∀ (x6 : Int) (η3 : zE), ((gC2 wl_ne [(nat_lit 0, zPne_wrong, zOne_wrong, zMne_wrong), (nat_lit 1, zPne_isSign, zOne_isSign, zMne_isSign), (nat_lit 2, zPne_token1, zOne_token1, zMne_token1), (nat_lit 3, zPne_grooveLine, zOne_grooveLine, zMne_grooveLine), (nat_lit 4, zPne_scratLine, zOne_scratLine, zMne_scratLine), (nat_lit 5, zPne_guestLine, zOne_guestLine, zMne_guestLine), (nat_lit 6, zPne_onceLine0, zOne_onceLine0, zMne_onceLine0), (nat_lit 7, zPne_onceLine1, zOne_onceLine1, zMne_onceLine1), (nat_lit 8, zPne_onceLine2, zOne_onceLine2, zMne_onceLine2), (nat_lit 9, zPne_sumRead, zOne_sumRead, zMne_sumRead)] pCne_lineRead qCne_lineRead) 2).2 [] η2 x6 η3 → (fun (_ : Nat) (y : Int) (η' : zE) => pQne_lineRead [] η y η') 0 1 η3 := by
  intro x1 e1 r1 c1 x2 e2 r2 c2 x3 e3 r3 c3 x4 η1 h4 c4 x5 η2 h5 c5 x6 η3 h6
  have y4 : fQne_onceLine1 [] η x4 η1 := h4.2.2
  have k4 : sQ wl_ne zTr zOne_onceLine1 zMne_onceLine1 [] η x4 η1 ∧ oQne_onceLine1 [] η x4 η1 := ⟨h4.1, h4.2.1⟩
  have y5 : fQne_isSign [59] η1 x5 η2 := h5.2.2
  have k5 : sQ wl_ne zTr zOne_isSign zMne_isSign [59] η1 x5 η2 ∧ oQne_isSign [59] η1 x5 η2 := ⟨h5.1, h5.2.1⟩
  have y6 : fQne_token1 [] η2 x6 η3 := h6.2.2
  have k6 : sQ wl_ne zTr zOne_token1 zMne_token1 [] η2 x6 η3 ∧ oQne_token1 [] η2 x6 η3 := ⟨h6.1, h6.2.1⟩
  refine yj_a ?_ ?_
  · have y4 : fQne_onceLine1 [] η x4 η1 := h4.2.2
    have k4 : sQ wl_ne zTr zOne_onceLine1 zMne_onceLine1 [] η x4 η1 ∧ oQne_onceLine1 [] η x4 η1 := ⟨h4.1, h4.2.1⟩
    have y5 : fQne_isSign [59] η1 x5 η2 := h5.2.2
    have k5 : sQ wl_ne zTr zOne_isSign zMne_isSign [59] η1 x5 η2 ∧ oQne_isSign [59] η1 x5 η2 := ⟨h5.1, h5.2.1⟩
    have y6 : fQne_token1 [] η2 x6 η3 := h6.2.2
    have k6 : sQ wl_ne zTr zOne_token1 zMne_token1 [] η2 x6 η3 ∧ oQne_token1 [] η2 x6 η3 := ⟨h6.1, h6.2.1⟩
    have w0_0_8 : (0 : Int) ≤ η 0 8 ∧ η 0 8 ≤ 6 := wf_ok (a := 8) (b := 8) (z := (0, 6)) hp.1 (by decide +kernel) (Nat.le_refl _) (Nat.le_refl _)
    replace e1 : x1 = η 0 8 := e1
    replace e2 : x2 = η 0 9 := e2
    replace r2 : -2147483648 ≤ x2 ∧ x2 ≤ 2147483647 := r2
    replace e3 : x3 = η 0 9 := e3
    replace r3 : -2147483648 ≤ x3 ∧ x3 ≤ 2147483647 := r3
    have w0_0_7 : (0 : Int) ≤ η 0 7 ∧ η 0 7 ≤ 700 := wf_ok (a := 7) (b := 7) (z := (0, 700)) hp.1 (by decide +kernel) (Nat.le_refl _) (Nat.le_refl _)
    have c0_0_7 : η 0 7 = η 0 7 := rfl
    have w0_0_6 : (0 : Int) ≤ η 0 6 ∧ η 0 6 ≤ 700 := wf_ok (a := 6) (b := 6) (z := (0, 700)) hp.1 (by decide +kernel) (Nat.le_refl _) (Nat.le_refl _)
    have c0_0_6 : η 0 6 = η 0 6 := rfl
    have c0_0_8 : η 0 8 = η 0 8 := rfl
    have w0_0_19 : (0 : Int) ≤ η 0 19 ∧ η 0 19 ≤ 64 := wf_ok (a := 19) (b := 19) (z := (0, 64)) hp.1 (by decide +kernel) (Nat.le_refl _) (Nat.le_refl _)
    have c0_0_19 : η 0 19 = η 0 19 := rfl
    have w0_0_44 : (0 : Int) ≤ η 0 44 ∧ η 0 44 ≤ 64 := wf_ok (a := 44) (b := 44) (z := (0, 64)) hp.1 (by decide +kernel) (Nat.le_refl _) (Nat.le_refl _)
    have c0_0_44 : η 0 44 = η 0 44 := rfl
    have bx4 : (0 : Int) ≤ x4 ∧ x4 ≤ 1 := k4.1.2.1
    have w1_0_7 : (0 : Int) ≤ η1 0 7 ∧ η1 0 7 ≤ 700 := wf_ok (a := 7) (b := 7) (z := (0, 700)) k4.1.1 (by decide +kernel) (Nat.le_refl _) (Nat.le_refl _)
    have d1_0_7 : η1 0 7 = η1 0 7 := rfl
    have v7 : zEq (η1 0 6) (η 0 6) := (k4.1.2.2.2.1 0 6 (by decide +kernel)).trans rfl
    have d1_0_6 : η1 0 6 = η 0 6 := v7
    have w1_0_8 : (0 : Int) ≤ η1 0 8 ∧ η1 0 8 ≤ 6 := wf_ok (a := 8) (b := 8) (z := (0, 6)) k4.1.1 (by decide +kernel) (Nat.le_refl _) (Nat.le_refl _)
    have d1_0_8 : η1 0 8 = η1 0 8 := rfl
    have v9 : zEq (η1 0 19) (η 0 19) := (k4.1.2.2.2.1 0 19 (by decide +kernel)).trans rfl
    have d1_0_19 : η1 0 19 = η 0 19 := v9
    have v10 : zEq (η1 0 44) (η 0 44) := (k4.1.2.2.2.1 0 44 (by decide +kernel)).trans rfl
    have d1_0_44 : η1 0 44 = η 0 44 := v10
    have c1_0_7 : η1 0 7 = η1 0 7 := rfl
    have c1_0_6 : η1 0 6 = η 0 6 := v7
    have c1_0_8 : η1 0 8 = η1 0 8 := rfl
    have c1_0_19 : η1 0 19 = η 0 19 := v9
    have c1_0_44 : η1 0 44 = η 0 44 := v10
    have bx5 : (0 : Int) ≤ x5 ∧ x5 ≤ 1 := k5.1.2.1
    have v11 : zEq (η2 0 7) (η1 0 7) := (k5.1.2.2.2.1 0 7 (by decide +kernel)).trans rfl
    have d2_0_7 : η2 0 7 = η1 0 7 := v11
    have v12 : zEq (η2 0 6) (η 0 6) := (k5.1.2.2.2.1 0 6 (by decide +kernel)).trans v7
    have d2_0_6 : η2 0 6 = η 0 6 := v12
    have v13 : zEq (η2 0 8) (η1 0 8) := (k5.1.2.2.2.1 0 8 (by decide +kernel)).trans rfl
    have d2_0_8 : η2 0 8 = η1 0 8 := v13
    have v14 : zEq (η2 0 19) (η 0 19) := (k5.1.2.2.2.1 0 19 (by decide +kernel)).trans v9
    have d2_0_19 : η2 0 19 = η 0 19 := v14
    have v15 : zEq (η2 0 44) (η 0 44) := (k5.1.2.2.2.1 0 44 (by decide +kernel)).trans v10
    have d2_0_44 : η2 0 44 = η 0 44 := v15
    have c2_0_7 : η2 0 7 = η1 0 7 := v11
    have c2_0_6 : η2 0 6 = η 0 6 := v12
    have c2_0_8 : η2 0 8 = η1 0 8 := v13
    have c2_0_19 : η2 0 19 = η 0 19 := v14
    have c2_0_44 : η2 0 44 = η 0 44 := v15
    have bx6 : (0 : Int) ≤ x6 ∧ x6 ≤ 0 := k6.1.2.1
    have w3_0_7 : (0 : Int) ≤ η3 0 7 ∧ η3 0 7 ≤ 700 := wf_ok (a := 7) (b := 7) (z := (0, 700)) k6.1.1 (by decide +kernel) (Nat.le_refl _) (Nat.le_refl _)
    have d3_0_7 : η3 0 7 = η3 0 7 := rfl
    have v17 : zEq (η3 0 6) (η 0 6) := (k6.1.2.2.2.1 0 6 (by decide +kernel)).trans v12
    have d3_0_6 : η3 0 6 = η 0 6 := v17
    have w3_0_8 : (0 : Int) ≤ η3 0 8 ∧ η3 0 8 ≤ 6 := wf_ok (a := 8) (b := 8) (z := (0, 6)) k6.1.1 (by decide +kernel) (Nat.le_refl _) (Nat.le_refl _)
    have d3_0_8 : η3 0 8 = η3 0 8 := rfl
    have v19 : zEq (η3 0 19) (η 0 19) := (k6.1.2.2.2.1 0 19 (by decide +kernel)).trans v14
    have d3_0_19 : η3 0 19 = η 0 19 := v19
    have v20 : zEq (η3 0 44) (η 0 44) := (k6.1.2.2.2.1 0 44 (by decide +kernel)).trans v15
    have d3_0_44 : η3 0 44 = η 0 44 := v20
    have fr16_0 : ∀ j, η 16 j = η 16 j := fun _ => rfl
    have v21 : ∀ j, η1 16 j = η 16 j := fun j => k4.1.2.2.2.1 16 _ (zinr_not (by decide +kernel))
    have fr16_1 : ∀ j, η1 16 j = η 16 j := v21
    have v22 : ∀ j, η2 16 j = η 16 j := fun j => (k5.1.2.2.2.1 16 _ (zinr_not (by decide +kernel))).trans (v21 j)
    have fr16_2 : ∀ j, η2 16 j = η 16 j := v22
    have v23 : ∀ j, η3 16 j = η 16 j := fun j => (k6.1.2.2.2.1 16 _ (zinr_not (by decide +kernel))).trans (v22 j)
    have fr16_3 : ∀ j, η3 16 j = η 16 j := v23
    have fr18_0 : ∀ j, η 18 j = η 18 j := fun _ => rfl
    have v24 : ∀ j, η1 18 j = η 18 j := fun j => k4.1.2.2.2.1 18 _ (zinr_not (by decide +kernel))
    have fr18_1 : ∀ j, η1 18 j = η 18 j := v24
    have v25 : ∀ j, η2 18 j = η 18 j := fun j => (k5.1.2.2.2.1 18 _ (zinr_not (by decide +kernel))).trans (v24 j)
    have fr18_2 : ∀ j, η2 18 j = η 18 j := v25
    have v26 : ∀ j, η3 18 j = η 18 j := fun j => (k6.1.2.2.2.1 18 _ (zinr_not (by decide +kernel))).trans (v25 j)
    have fr18_3 : ∀ j, η3 18 j = η 18 j := v26
    have f0_7 : η3 0 7 = η3 0 7 := rfl
    have f0_6 : η3 0 6 = η 0 6 := v17
    have f0_8 : η3 0 8 = η3 0 8 := rfl
    have f0_19 : η3 0 19 = η 0 19 := v19
    have f0_44 : η3 0 44 = η 0 44 := v20
    have qn4 : ¬ x4 = 0 → 10 * (η1 0 6 - η1 0 7) + η1 0 8 < 10 * (η 0 6 - η 0 7) + η 0 8 := k4.2.2
    have qs5 : ¬ x5 = 0 → η1 0 8 = 4 := k5.2.2
    have qt6 : ¬ η2 0 8 = 0 → 10 * (η3 0 6 - η3 0 7) + η3 0 8 < 10 * (η2 0 6 - η2 0 7) + η2 0 8 := k6.2.2
    have P3 : PL_n 6 η3 := zGk_fm2 plk_n (k5.2.1.2) k6.1.2.2.2.1 (by decide +kernel)
    exact ⟨k6.2.1.1, pl_d (P3) (by decide), fun _ => ⟨⟨k6.2.1, P3⟩, show 10 * (η3 0 6 - η3 0 7) + η3 0 8 < 10 * (η 0 6 - η 0 7) + η 0 8 by omega⟩⟩
  · have e1 : x1 = η 0 8 := e1
    have e2 : x2 = η 0 9 := e2
    have e3 : x3 = η 0 9 := e3
    have f3 : x2 = x3 := e2.trans e3.symm
    subst f3
    obtain ⟨a4, b4⟩ : x4 = (yq_onl 1 5 1 99 η).1 ∧ η1 = (yq_onl 1 5 1 99 η).2 := y4
    obtain ⟨a5, b5⟩ : x5 = (yq_isS 59 η1) ∧ η1 = η2 := ⟨y5.1, y5.2.symm⟩
    subst b5
    have b6 : η3 = (yq_tok η1) := y6
    show 1 = (yq_lnr η).1 ∧ η3 = (yq_lnr η).2
    simp only [yq_lnr, yq_le, yq_law, yq_lw1, yq_lw2, yq_no, ← e1, ← e2, ← a4, ← b4, ← a5, ← b6]
    all_goals (repeat (first | rw [if_pos (by omega)] | rw [if_neg (by omega)]))
    all_goals exact ⟨rfl, rfl⟩
set_option maxHeartbeats 8000000 in
theorem zne_lineRead_o67 {ro : Nat → List Int32} (η : zE) (hp : sP wl_ne zTr zPne_lineRead [] η) (hpp : pPne_lineRead [] η) : ∀ x1 : Int, x1 = η 0 (Int.toNat 8) → zok 0 x1 → (x1 = 1) → ∀ x2 : Int, x2 = η 0 (Int.toNat 9) → zok 0 x2 → (x2 ≤ 6) → ∀ x3 : Int, x3 = η 0 (Int.toNat 9) → zok 0 x3 → (x3 = 4) → ∀ (x4 : Int) (η1 : zE), ((gC2 wl_ne [(nat_lit 0, zPne_wrong, zOne_wrong, zMne_wrong), (nat_lit 1, zPne_isSign, zOne_isSign, zMne_isSign), (nat_lit 2, zPne_token1, zOne_token1, zMne_token1), (nat_lit 3, zPne_grooveLine, zOne_grooveLine, zMne_grooveLine), (nat_lit 4, zPne_scratLine, zOne_scratLine, zMne_scratLine), (nat_lit 5, zPne_guestLine, zOne_guestLine, zMne_guestLine), (nat_lit 6, zPne_onceLine0, zOne_onceLine0, zMne_onceLine0), (nat_lit 7, zPne_onceLine1, zOne_onceLine1, zMne_onceLine1), (nat_lit 8, zPne_onceLine2, zOne_onceLine2, zMne_onceLine2), (nat_lit 9, zPne_sumRead, zOne_sumRead, zMne_sumRead)] pCne_lineRead qCne_lineRead) 7).2 [] η x4 η1 → (¬ x4 = 0) → ∀ (x5 : Int) (η2 : zE), ((gC2 wl_ne [(nat_lit 0, zPne_wrong, zOne_wrong, zMne_wrong), (nat_lit 1, zPne_isSign, zOne_isSign, zMne_isSign), (nat_lit 2, zPne_token1, zOne_token1, zMne_token1), (nat_lit 3, zPne_grooveLine, zOne_grooveLine, zMne_grooveLine), (nat_lit 4, zPne_scratLine, zOne_scratLine, zMne_scratLine), (nat_lit 5, zPne_guestLine, zOne_guestLine, zMne_guestLine), (nat_lit 6, zPne_onceLine0, zOne_onceLine0, zMne_onceLine0), (nat_lit 7, zPne_onceLine1, zOne_onceLine1, zMne_onceLine1), (nat_lit 8, zPne_onceLine2, zOne_onceLine2, zMne_onceLine2), (nat_lit 9, zPne_sumRead, zOne_sumRead, zMne_sumRead)] pCne_lineRead qCne_lineRead) 1).2 [59] η1 x5 η2 → (x5 = 0) → ((gC2 wl_ne [(nat_lit 0, zPne_wrong, zOne_wrong, zMne_wrong), (nat_lit 1, zPne_isSign, zOne_isSign, zMne_isSign), (nat_lit 2, zPne_token1, zOne_token1, zMne_token1), (nat_lit 3, zPne_grooveLine, zOne_grooveLine, zMne_grooveLine), (nat_lit 4, zPne_scratLine, zOne_scratLine, zMne_scratLine), (nat_lit 5, zPne_guestLine, zOne_guestLine, zMne_guestLine), (nat_lit 6, zPne_onceLine0, zOne_onceLine0, zMne_onceLine0), (nat_lit 7, zPne_onceLine1, zOne_onceLine1, zMne_onceLine1), (nat_lit 8, zPne_onceLine2, zOne_onceLine2, zMne_onceLine2), (nat_lit 9, zPne_sumRead, zOne_sumRead, zMne_sumRead)] pCne_lineRead qCne_lineRead) 0).1 [1] η2 := by
  intro x1 e1 r1 c1 x2 e2 r2 c2 x3 e3 r3 c3 x4 η1 h4 c4 x5 η2 h5 c5
  have y4 : fQne_onceLine1 [] η x4 η1 := h4.2.2
  have k4 : sQ wl_ne zTr zOne_onceLine1 zMne_onceLine1 [] η x4 η1 ∧ oQne_onceLine1 [] η x4 η1 := ⟨h4.1, h4.2.1⟩
  have y5 : fQne_isSign [59] η1 x5 η2 := h5.2.2
  have k5 : sQ wl_ne zTr zOne_isSign zMne_isSign [59] η1 x5 η2 ∧ oQne_isSign [59] η1 x5 η2 := ⟨h5.1, h5.2.1⟩
  have w0_0_8 : (0 : Int) ≤ η 0 8 ∧ η 0 8 ≤ 6 := wf_ok (a := 8) (b := 8) (z := (0, 6)) hp.1 (by decide +kernel) (Nat.le_refl _) (Nat.le_refl _)
  replace e1 : x1 = η 0 8 := e1
  replace e2 : x2 = η 0 9 := e2
  replace r2 : -2147483648 ≤ x2 ∧ x2 ≤ 2147483647 := r2
  replace e3 : x3 = η 0 9 := e3
  replace r3 : -2147483648 ≤ x3 ∧ x3 ≤ 2147483647 := r3
  have w0_0_7 : (0 : Int) ≤ η 0 7 ∧ η 0 7 ≤ 700 := wf_ok (a := 7) (b := 7) (z := (0, 700)) hp.1 (by decide +kernel) (Nat.le_refl _) (Nat.le_refl _)
  have c0_0_7 : η 0 7 = η 0 7 := rfl
  have w0_0_6 : (0 : Int) ≤ η 0 6 ∧ η 0 6 ≤ 700 := wf_ok (a := 6) (b := 6) (z := (0, 700)) hp.1 (by decide +kernel) (Nat.le_refl _) (Nat.le_refl _)
  have c0_0_6 : η 0 6 = η 0 6 := rfl
  have c0_0_8 : η 0 8 = η 0 8 := rfl
  have w0_0_19 : (0 : Int) ≤ η 0 19 ∧ η 0 19 ≤ 64 := wf_ok (a := 19) (b := 19) (z := (0, 64)) hp.1 (by decide +kernel) (Nat.le_refl _) (Nat.le_refl _)
  have c0_0_19 : η 0 19 = η 0 19 := rfl
  have w0_0_44 : (0 : Int) ≤ η 0 44 ∧ η 0 44 ≤ 64 := wf_ok (a := 44) (b := 44) (z := (0, 64)) hp.1 (by decide +kernel) (Nat.le_refl _) (Nat.le_refl _)
  have c0_0_44 : η 0 44 = η 0 44 := rfl
  have bx4 : (0 : Int) ≤ x4 ∧ x4 ≤ 1 := k4.1.2.1
  have w1_0_7 : (0 : Int) ≤ η1 0 7 ∧ η1 0 7 ≤ 700 := wf_ok (a := 7) (b := 7) (z := (0, 700)) k4.1.1 (by decide +kernel) (Nat.le_refl _) (Nat.le_refl _)
  have d1_0_7 : η1 0 7 = η1 0 7 := rfl
  have v7 : zEq (η1 0 6) (η 0 6) := (k4.1.2.2.2.1 0 6 (by decide +kernel)).trans rfl
  have d1_0_6 : η1 0 6 = η 0 6 := v7
  have w1_0_8 : (0 : Int) ≤ η1 0 8 ∧ η1 0 8 ≤ 6 := wf_ok (a := 8) (b := 8) (z := (0, 6)) k4.1.1 (by decide +kernel) (Nat.le_refl _) (Nat.le_refl _)
  have d1_0_8 : η1 0 8 = η1 0 8 := rfl
  have v9 : zEq (η1 0 19) (η 0 19) := (k4.1.2.2.2.1 0 19 (by decide +kernel)).trans rfl
  have d1_0_19 : η1 0 19 = η 0 19 := v9
  have v10 : zEq (η1 0 44) (η 0 44) := (k4.1.2.2.2.1 0 44 (by decide +kernel)).trans rfl
  have d1_0_44 : η1 0 44 = η 0 44 := v10
  have c1_0_7 : η1 0 7 = η1 0 7 := rfl
  have c1_0_6 : η1 0 6 = η 0 6 := v7
  have c1_0_8 : η1 0 8 = η1 0 8 := rfl
  have c1_0_19 : η1 0 19 = η 0 19 := v9
  have c1_0_44 : η1 0 44 = η 0 44 := v10
  have bx5 : (0 : Int) ≤ x5 ∧ x5 ≤ 1 := k5.1.2.1
  have v11 : zEq (η2 0 7) (η1 0 7) := (k5.1.2.2.2.1 0 7 (by decide +kernel)).trans rfl
  have d2_0_7 : η2 0 7 = η1 0 7 := v11
  have v12 : zEq (η2 0 6) (η 0 6) := (k5.1.2.2.2.1 0 6 (by decide +kernel)).trans v7
  have d2_0_6 : η2 0 6 = η 0 6 := v12
  have v13 : zEq (η2 0 8) (η1 0 8) := (k5.1.2.2.2.1 0 8 (by decide +kernel)).trans rfl
  have d2_0_8 : η2 0 8 = η1 0 8 := v13
  have v14 : zEq (η2 0 19) (η 0 19) := (k5.1.2.2.2.1 0 19 (by decide +kernel)).trans v9
  have d2_0_19 : η2 0 19 = η 0 19 := v14
  have v15 : zEq (η2 0 44) (η 0 44) := (k5.1.2.2.2.1 0 44 (by decide +kernel)).trans v10
  have d2_0_44 : η2 0 44 = η 0 44 := v15
  have fr16_0 : ∀ j, η 16 j = η 16 j := fun _ => rfl
  have v16 : ∀ j, η1 16 j = η 16 j := fun j => k4.1.2.2.2.1 16 _ (zinr_not (by decide +kernel))
  have fr16_1 : ∀ j, η1 16 j = η 16 j := v16
  have v17 : ∀ j, η2 16 j = η 16 j := fun j => (k5.1.2.2.2.1 16 _ (zinr_not (by decide +kernel))).trans (v16 j)
  have fr16_2 : ∀ j, η2 16 j = η 16 j := v17
  have fr18_0 : ∀ j, η 18 j = η 18 j := fun _ => rfl
  have v18 : ∀ j, η1 18 j = η 18 j := fun j => k4.1.2.2.2.1 18 _ (zinr_not (by decide +kernel))
  have fr18_1 : ∀ j, η1 18 j = η 18 j := v18
  have v19 : ∀ j, η2 18 j = η 18 j := fun j => (k5.1.2.2.2.1 18 _ (zinr_not (by decide +kernel))).trans (v18 j)
  have fr18_2 : ∀ j, η2 18 j = η 18 j := v19
  have f0_7 : η2 0 7 = η1 0 7 := v11
  have f0_6 : η2 0 6 = η 0 6 := v12
  have f0_8 : η2 0 8 = η1 0 8 := v13
  have f0_19 : η2 0 19 = η 0 19 := v14
  have f0_44 : η2 0 44 = η 0 44 := v15
  have qn4 : ¬ x4 = 0 → 10 * (η1 0 6 - η1 0 7) + η1 0 8 < 10 * (η 0 6 - η 0 7) + η 0 8 := k4.2.2
  have qs5 : ¬ x5 = 0 → η1 0 8 = 4 := k5.2.2
  exact ⟨k5.2.1.1, k5.2.1.2⟩
set_option maxHeartbeats 8000000 in
theorem zne_lineRead_o68 {ro : Nat → List Int32} (η : zE) (hp : sP wl_ne zTr zPne_lineRead [] η) (hpp : pPne_lineRead [] η) : ∀ x1 : Int, x1 = η 0 (Int.toNat 8) → zok 0 x1 → (x1 = 1) → ∀ x2 : Int, x2 = η 0 (Int.toNat 9) → zok 0 x2 → (x2 ≤ 6) → ∀ x3 : Int, x3 = η 0 (Int.toNat 9) → zok 0 x3 → (x3 = 4) → ∀ (x4 : Int) (η1 : zE), ((gC2 wl_ne [(nat_lit 0, zPne_wrong, zOne_wrong, zMne_wrong), (nat_lit 1, zPne_isSign, zOne_isSign, zMne_isSign), (nat_lit 2, zPne_token1, zOne_token1, zMne_token1), (nat_lit 3, zPne_grooveLine, zOne_grooveLine, zMne_grooveLine), (nat_lit 4, zPne_scratLine, zOne_scratLine, zMne_scratLine), (nat_lit 5, zPne_guestLine, zOne_guestLine, zMne_guestLine), (nat_lit 6, zPne_onceLine0, zOne_onceLine0, zMne_onceLine0), (nat_lit 7, zPne_onceLine1, zOne_onceLine1, zMne_onceLine1), (nat_lit 8, zPne_onceLine2, zOne_onceLine2, zMne_onceLine2), (nat_lit 9, zPne_sumRead, zOne_sumRead, zMne_sumRead)] pCne_lineRead qCne_lineRead) 7).2 [] η x4 η1 → (¬ x4 = 0) → ∀ (x5 : Int) (η2 : zE), ((gC2 wl_ne [(nat_lit 0, zPne_wrong, zOne_wrong, zMne_wrong), (nat_lit 1, zPne_isSign, zOne_isSign, zMne_isSign), (nat_lit 2, zPne_token1, zOne_token1, zMne_token1), (nat_lit 3, zPne_grooveLine, zOne_grooveLine, zMne_grooveLine), (nat_lit 4, zPne_scratLine, zOne_scratLine, zMne_scratLine), (nat_lit 5, zPne_guestLine, zOne_guestLine, zMne_guestLine), (nat_lit 6, zPne_onceLine0, zOne_onceLine0, zMne_onceLine0), (nat_lit 7, zPne_onceLine1, zOne_onceLine1, zMne_onceLine1), (nat_lit 8, zPne_onceLine2, zOne_onceLine2, zMne_onceLine2), (nat_lit 9, zPne_sumRead, zOne_sumRead, zMne_sumRead)] pCne_lineRead qCne_lineRead) 1).2 [59] η1 x5 η2 → (x5 = 0) → ∀ (x6 : Int) (η3 : zE), ((gC2 wl_ne [(nat_lit 0, zPne_wrong, zOne_wrong, zMne_wrong), (nat_lit 1, zPne_isSign, zOne_isSign, zMne_isSign), (nat_lit 2, zPne_token1, zOne_token1, zMne_token1), (nat_lit 3, zPne_grooveLine, zOne_grooveLine, zMne_grooveLine), (nat_lit 4, zPne_scratLine, zOne_scratLine, zMne_scratLine), (nat_lit 5, zPne_guestLine, zOne_guestLine, zMne_guestLine), (nat_lit 6, zPne_onceLine0, zOne_onceLine0, zMne_onceLine0), (nat_lit 7, zPne_onceLine1, zOne_onceLine1, zMne_onceLine1), (nat_lit 8, zPne_onceLine2, zOne_onceLine2, zMne_onceLine2), (nat_lit 9, zPne_sumRead, zOne_sumRead, zMne_sumRead)] pCne_lineRead qCne_lineRead) 0).2 [1] η2 x6 η3 → (fun (_ : Nat) (y : Int) (η' : zE) => pQne_lineRead [] η y η') 0 x6 η3 := by
  intro x1 e1 r1 c1 x2 e2 r2 c2 x3 e3 r3 c3 x4 η1 h4 c4 x5 η2 h5 c5 x6 η3 h6
  have y4 : fQne_onceLine1 [] η x4 η1 := h4.2.2
  have k4 : sQ wl_ne zTr zOne_onceLine1 zMne_onceLine1 [] η x4 η1 ∧ oQne_onceLine1 [] η x4 η1 := ⟨h4.1, h4.2.1⟩
  have y5 : fQne_isSign [59] η1 x5 η2 := h5.2.2
  have k5 : sQ wl_ne zTr zOne_isSign zMne_isSign [59] η1 x5 η2 ∧ oQne_isSign [59] η1 x5 η2 := ⟨h5.1, h5.2.1⟩
  have y6 : fQne_wrong [1] η2 x6 η3 := h6.2.2
  have k6 : sQ wl_ne zTr zOne_wrong zMne_wrong [1] η2 x6 η3 ∧ oQne_wrong [1] η2 x6 η3 := ⟨h6.1, h6.2.1⟩
  refine yj_a ?_ ?_
  · have y4 : fQne_onceLine1 [] η x4 η1 := h4.2.2
    have k4 : sQ wl_ne zTr zOne_onceLine1 zMne_onceLine1 [] η x4 η1 ∧ oQne_onceLine1 [] η x4 η1 := ⟨h4.1, h4.2.1⟩
    have y5 : fQne_isSign [59] η1 x5 η2 := h5.2.2
    have k5 : sQ wl_ne zTr zOne_isSign zMne_isSign [59] η1 x5 η2 ∧ oQne_isSign [59] η1 x5 η2 := ⟨h5.1, h5.2.1⟩
    have y6 : fQne_wrong [1] η2 x6 η3 := h6.2.2
    have k6 : sQ wl_ne zTr zOne_wrong zMne_wrong [1] η2 x6 η3 ∧ oQne_wrong [1] η2 x6 η3 := ⟨h6.1, h6.2.1⟩
    have w0_0_8 : (0 : Int) ≤ η 0 8 ∧ η 0 8 ≤ 6 := wf_ok (a := 8) (b := 8) (z := (0, 6)) hp.1 (by decide +kernel) (Nat.le_refl _) (Nat.le_refl _)
    replace e1 : x1 = η 0 8 := e1
    replace e2 : x2 = η 0 9 := e2
    replace r2 : -2147483648 ≤ x2 ∧ x2 ≤ 2147483647 := r2
    replace e3 : x3 = η 0 9 := e3
    replace r3 : -2147483648 ≤ x3 ∧ x3 ≤ 2147483647 := r3
    have w0_0_7 : (0 : Int) ≤ η 0 7 ∧ η 0 7 ≤ 700 := wf_ok (a := 7) (b := 7) (z := (0, 700)) hp.1 (by decide +kernel) (Nat.le_refl _) (Nat.le_refl _)
    have c0_0_7 : η 0 7 = η 0 7 := rfl
    have w0_0_6 : (0 : Int) ≤ η 0 6 ∧ η 0 6 ≤ 700 := wf_ok (a := 6) (b := 6) (z := (0, 700)) hp.1 (by decide +kernel) (Nat.le_refl _) (Nat.le_refl _)
    have c0_0_6 : η 0 6 = η 0 6 := rfl
    have c0_0_8 : η 0 8 = η 0 8 := rfl
    have w0_0_19 : (0 : Int) ≤ η 0 19 ∧ η 0 19 ≤ 64 := wf_ok (a := 19) (b := 19) (z := (0, 64)) hp.1 (by decide +kernel) (Nat.le_refl _) (Nat.le_refl _)
    have c0_0_19 : η 0 19 = η 0 19 := rfl
    have w0_0_44 : (0 : Int) ≤ η 0 44 ∧ η 0 44 ≤ 64 := wf_ok (a := 44) (b := 44) (z := (0, 64)) hp.1 (by decide +kernel) (Nat.le_refl _) (Nat.le_refl _)
    have c0_0_44 : η 0 44 = η 0 44 := rfl
    have bx4 : (0 : Int) ≤ x4 ∧ x4 ≤ 1 := k4.1.2.1
    have w1_0_7 : (0 : Int) ≤ η1 0 7 ∧ η1 0 7 ≤ 700 := wf_ok (a := 7) (b := 7) (z := (0, 700)) k4.1.1 (by decide +kernel) (Nat.le_refl _) (Nat.le_refl _)
    have d1_0_7 : η1 0 7 = η1 0 7 := rfl
    have v7 : zEq (η1 0 6) (η 0 6) := (k4.1.2.2.2.1 0 6 (by decide +kernel)).trans rfl
    have d1_0_6 : η1 0 6 = η 0 6 := v7
    have w1_0_8 : (0 : Int) ≤ η1 0 8 ∧ η1 0 8 ≤ 6 := wf_ok (a := 8) (b := 8) (z := (0, 6)) k4.1.1 (by decide +kernel) (Nat.le_refl _) (Nat.le_refl _)
    have d1_0_8 : η1 0 8 = η1 0 8 := rfl
    have v9 : zEq (η1 0 19) (η 0 19) := (k4.1.2.2.2.1 0 19 (by decide +kernel)).trans rfl
    have d1_0_19 : η1 0 19 = η 0 19 := v9
    have v10 : zEq (η1 0 44) (η 0 44) := (k4.1.2.2.2.1 0 44 (by decide +kernel)).trans rfl
    have d1_0_44 : η1 0 44 = η 0 44 := v10
    have c1_0_7 : η1 0 7 = η1 0 7 := rfl
    have c1_0_6 : η1 0 6 = η 0 6 := v7
    have c1_0_8 : η1 0 8 = η1 0 8 := rfl
    have c1_0_19 : η1 0 19 = η 0 19 := v9
    have c1_0_44 : η1 0 44 = η 0 44 := v10
    have bx5 : (0 : Int) ≤ x5 ∧ x5 ≤ 1 := k5.1.2.1
    have v11 : zEq (η2 0 7) (η1 0 7) := (k5.1.2.2.2.1 0 7 (by decide +kernel)).trans rfl
    have d2_0_7 : η2 0 7 = η1 0 7 := v11
    have v12 : zEq (η2 0 6) (η 0 6) := (k5.1.2.2.2.1 0 6 (by decide +kernel)).trans v7
    have d2_0_6 : η2 0 6 = η 0 6 := v12
    have v13 : zEq (η2 0 8) (η1 0 8) := (k5.1.2.2.2.1 0 8 (by decide +kernel)).trans rfl
    have d2_0_8 : η2 0 8 = η1 0 8 := v13
    have v14 : zEq (η2 0 19) (η 0 19) := (k5.1.2.2.2.1 0 19 (by decide +kernel)).trans v9
    have d2_0_19 : η2 0 19 = η 0 19 := v14
    have v15 : zEq (η2 0 44) (η 0 44) := (k5.1.2.2.2.1 0 44 (by decide +kernel)).trans v10
    have d2_0_44 : η2 0 44 = η 0 44 := v15
    have c2_0_7 : η2 0 7 = η1 0 7 := v11
    have c2_0_6 : η2 0 6 = η 0 6 := v12
    have c2_0_8 : η2 0 8 = η1 0 8 := v13
    have c2_0_19 : η2 0 19 = η 0 19 := v14
    have c2_0_44 : η2 0 44 = η 0 44 := v15
    have bx6 : (0 : Int) ≤ x6 ∧ x6 ≤ 0 := k6.1.2.1
    have v16 : zEq (η3 0 7) (η1 0 7) := (k6.1.2.2.2.1 0 7 (by decide +kernel)).trans v11
    have d3_0_7 : η3 0 7 = η1 0 7 := v16
    have v17 : zEq (η3 0 6) (η 0 6) := (k6.1.2.2.2.1 0 6 (by decide +kernel)).trans v12
    have d3_0_6 : η3 0 6 = η 0 6 := v17
    have v18 : zEq (η3 0 8) (η1 0 8) := (k6.1.2.2.2.1 0 8 (by decide +kernel)).trans v13
    have d3_0_8 : η3 0 8 = η1 0 8 := v18
    have v19 : zEq (η3 0 19) (η 0 19) := (k6.1.2.2.2.1 0 19 (by decide +kernel)).trans v14
    have d3_0_19 : η3 0 19 = η 0 19 := v19
    have v20 : zEq (η3 0 44) (η 0 44) := (k6.1.2.2.2.1 0 44 (by decide +kernel)).trans v15
    have d3_0_44 : η3 0 44 = η 0 44 := v20
    have fr16_0 : ∀ j, η 16 j = η 16 j := fun _ => rfl
    have v21 : ∀ j, η1 16 j = η 16 j := fun j => k4.1.2.2.2.1 16 _ (zinr_not (by decide +kernel))
    have fr16_1 : ∀ j, η1 16 j = η 16 j := v21
    have v22 : ∀ j, η2 16 j = η 16 j := fun j => (k5.1.2.2.2.1 16 _ (zinr_not (by decide +kernel))).trans (v21 j)
    have fr16_2 : ∀ j, η2 16 j = η 16 j := v22
    have v23 : ∀ j, η3 16 j = η 16 j := fun j => (k6.1.2.2.2.1 16 _ (zinr_not (by decide +kernel))).trans (v22 j)
    have fr16_3 : ∀ j, η3 16 j = η 16 j := v23
    have fr18_0 : ∀ j, η 18 j = η 18 j := fun _ => rfl
    have v24 : ∀ j, η1 18 j = η 18 j := fun j => k4.1.2.2.2.1 18 _ (zinr_not (by decide +kernel))
    have fr18_1 : ∀ j, η1 18 j = η 18 j := v24
    have v25 : ∀ j, η2 18 j = η 18 j := fun j => (k5.1.2.2.2.1 18 _ (zinr_not (by decide +kernel))).trans (v24 j)
    have fr18_2 : ∀ j, η2 18 j = η 18 j := v25
    have v26 : ∀ j, η3 18 j = η 18 j := fun j => (k6.1.2.2.2.1 18 _ (zinr_not (by decide +kernel))).trans (v25 j)
    have fr18_3 : ∀ j, η3 18 j = η 18 j := v26
    have f0_7 : η3 0 7 = η1 0 7 := v16
    have f0_6 : η3 0 6 = η 0 6 := v17
    have f0_8 : η3 0 8 = η1 0 8 := v18
    have f0_19 : η3 0 19 = η 0 19 := v19
    have f0_44 : η3 0 44 = η 0 44 := v20
    have qn4 : ¬ x4 = 0 → 10 * (η1 0 6 - η1 0 7) + η1 0 8 < 10 * (η 0 6 - η 0 7) + η 0 8 := k4.2.2
    have qs5 : ¬ x5 = 0 → η1 0 8 = 4 := k5.2.2
    exact ⟨k6.2.1.1, pl_d (k6.2.2) (by decide), fun w => absurd (show (x6 : Int) = 0 by apply Int.le_antisymm <;> omega) w⟩
  · have e1 : x1 = η 0 8 := e1
    have e2 : x2 = η 0 9 := e2
    have e3 : x3 = η 0 9 := e3
    have f3 : x2 = x3 := e2.trans e3.symm
    subst f3
    obtain ⟨a4, b4⟩ : x4 = (yq_onl 1 5 1 99 η).1 ∧ η1 = (yq_onl 1 5 1 99 η).2 := y4
    obtain ⟨a5, b5⟩ : x5 = (yq_isS 59 η1) ∧ η1 = η2 := ⟨y5.1, y5.2.symm⟩
    subst b5
    obtain ⟨a6, b6⟩ : x6 = 0 ∧ η3 = (yq_wr 1 η1) := y6
    show x6 = (yq_lnr η).1 ∧ η3 = (yq_lnr η).2
    simp only [yq_lnr, yq_le, yq_law, yq_lw1, yq_lw2, yq_no, ← e1, ← e2, ← a4, ← b4, ← a5, ← b6, a6]
    all_goals (repeat (first | rw [if_pos (by omega)] | rw [if_neg (by omega)]))
    all_goals exact ⟨rfl, rfl⟩
set_option maxHeartbeats 8000000 in
theorem zne_lineRead_o69 {ro : Nat → List Int32} (η : zE) (hp : sP wl_ne zTr zPne_lineRead [] η) (hpp : pPne_lineRead [] η) : ∀ x1 : Int, x1 = η 0 (Int.toNat 8) → zok 0 x1 → (x1 = 1) → ∀ x2 : Int, x2 = η 0 (Int.toNat 9) → zok 0 x2 → (x2 ≤ 6) → ∀ x3 : Int, x3 = η 0 (Int.toNat 9) → zok 0 x3 → (x3 = 4) → ∀ (x4 : Int) (η1 : zE), ((gC2 wl_ne [(nat_lit 0, zPne_wrong, zOne_wrong, zMne_wrong), (nat_lit 1, zPne_isSign, zOne_isSign, zMne_isSign), (nat_lit 2, zPne_token1, zOne_token1, zMne_token1), (nat_lit 3, zPne_grooveLine, zOne_grooveLine, zMne_grooveLine), (nat_lit 4, zPne_scratLine, zOne_scratLine, zMne_scratLine), (nat_lit 5, zPne_guestLine, zOne_guestLine, zMne_guestLine), (nat_lit 6, zPne_onceLine0, zOne_onceLine0, zMne_onceLine0), (nat_lit 7, zPne_onceLine1, zOne_onceLine1, zMne_onceLine1), (nat_lit 8, zPne_onceLine2, zOne_onceLine2, zMne_onceLine2), (nat_lit 9, zPne_sumRead, zOne_sumRead, zMne_sumRead)] pCne_lineRead qCne_lineRead) 7).2 [] η x4 η1 → (x4 = 0) → (fun (_ : Nat) (y : Int) (η' : zE) => pQne_lineRead [] η y η') 0 0 η1 := by
  intro x1 e1 r1 c1 x2 e2 r2 c2 x3 e3 r3 c3 x4 η1 h4 c4
  have y4 : fQne_onceLine1 [] η x4 η1 := h4.2.2
  have k4 : sQ wl_ne zTr zOne_onceLine1 zMne_onceLine1 [] η x4 η1 ∧ oQne_onceLine1 [] η x4 η1 := ⟨h4.1, h4.2.1⟩
  refine yj_a ?_ ?_
  · have y4 : fQne_onceLine1 [] η x4 η1 := h4.2.2
    have k4 : sQ wl_ne zTr zOne_onceLine1 zMne_onceLine1 [] η x4 η1 ∧ oQne_onceLine1 [] η x4 η1 := ⟨h4.1, h4.2.1⟩
    have w0_0_8 : (0 : Int) ≤ η 0 8 ∧ η 0 8 ≤ 6 := wf_ok (a := 8) (b := 8) (z := (0, 6)) hp.1 (by decide +kernel) (Nat.le_refl _) (Nat.le_refl _)
    replace e1 : x1 = η 0 8 := e1
    replace e2 : x2 = η 0 9 := e2
    replace r2 : -2147483648 ≤ x2 ∧ x2 ≤ 2147483647 := r2
    replace e3 : x3 = η 0 9 := e3
    replace r3 : -2147483648 ≤ x3 ∧ x3 ≤ 2147483647 := r3
    have w0_0_7 : (0 : Int) ≤ η 0 7 ∧ η 0 7 ≤ 700 := wf_ok (a := 7) (b := 7) (z := (0, 700)) hp.1 (by decide +kernel) (Nat.le_refl _) (Nat.le_refl _)
    have c0_0_7 : η 0 7 = η 0 7 := rfl
    have w0_0_6 : (0 : Int) ≤ η 0 6 ∧ η 0 6 ≤ 700 := wf_ok (a := 6) (b := 6) (z := (0, 700)) hp.1 (by decide +kernel) (Nat.le_refl _) (Nat.le_refl _)
    have c0_0_6 : η 0 6 = η 0 6 := rfl
    have c0_0_8 : η 0 8 = η 0 8 := rfl
    have w0_0_19 : (0 : Int) ≤ η 0 19 ∧ η 0 19 ≤ 64 := wf_ok (a := 19) (b := 19) (z := (0, 64)) hp.1 (by decide +kernel) (Nat.le_refl _) (Nat.le_refl _)
    have c0_0_19 : η 0 19 = η 0 19 := rfl
    have w0_0_44 : (0 : Int) ≤ η 0 44 ∧ η 0 44 ≤ 64 := wf_ok (a := 44) (b := 44) (z := (0, 64)) hp.1 (by decide +kernel) (Nat.le_refl _) (Nat.le_refl _)
    have c0_0_44 : η 0 44 = η 0 44 := rfl
    have bx4 : (0 : Int) ≤ x4 ∧ x4 ≤ 1 := k4.1.2.1
    have w1_0_7 : (0 : Int) ≤ η1 0 7 ∧ η1 0 7 ≤ 700 := wf_ok (a := 7) (b := 7) (z := (0, 700)) k4.1.1 (by decide +kernel) (Nat.le_refl _) (Nat.le_refl _)
    have d1_0_7 : η1 0 7 = η1 0 7 := rfl
    have v7 : zEq (η1 0 6) (η 0 6) := (k4.1.2.2.2.1 0 6 (by decide +kernel)).trans rfl
    have d1_0_6 : η1 0 6 = η 0 6 := v7
    have w1_0_8 : (0 : Int) ≤ η1 0 8 ∧ η1 0 8 ≤ 6 := wf_ok (a := 8) (b := 8) (z := (0, 6)) k4.1.1 (by decide +kernel) (Nat.le_refl _) (Nat.le_refl _)
    have d1_0_8 : η1 0 8 = η1 0 8 := rfl
    have v9 : zEq (η1 0 19) (η 0 19) := (k4.1.2.2.2.1 0 19 (by decide +kernel)).trans rfl
    have d1_0_19 : η1 0 19 = η 0 19 := v9
    have v10 : zEq (η1 0 44) (η 0 44) := (k4.1.2.2.2.1 0 44 (by decide +kernel)).trans rfl
    have d1_0_44 : η1 0 44 = η 0 44 := v10
    have fr16_0 : ∀ j, η 16 j = η 16 j := fun _ => rfl
    have v11 : ∀ j, η1 16 j = η 16 j := fun j => k4.1.2.2.2.1 16 _ (zinr_not (by decide +kernel))
    have fr16_1 : ∀ j, η1 16 j = η 16 j := v11
    have fr18_0 : ∀ j, η 18 j = η 18 j := fun _ => rfl
    have v12 : ∀ j, η1 18 j = η 18 j := fun j => k4.1.2.2.2.1 18 _ (zinr_not (by decide +kernel))
    have fr18_1 : ∀ j, η1 18 j = η 18 j := v12
    have f0_7 : η1 0 7 = η1 0 7 := rfl
    have f0_6 : η1 0 6 = η 0 6 := v7
    have f0_8 : η1 0 8 = η1 0 8 := rfl
    have f0_19 : η1 0 19 = η 0 19 := v9
    have f0_44 : η1 0 44 = η 0 44 := v10
    have qn4 : ¬ x4 = 0 → 10 * (η1 0 6 - η1 0 7) + η1 0 8 < 10 * (η 0 6 - η 0 7) + η 0 8 := k4.2.2
    exact ⟨k4.2.1.1.1, pl_d (k4.2.1.2) (by decide), fun w => absurd (show (0 : Int) = 0 by apply Int.le_antisymm <;> omega) w⟩
  · have e1 : x1 = η 0 8 := e1
    have e2 : x2 = η 0 9 := e2
    have e3 : x3 = η 0 9 := e3
    have f3 : x2 = x3 := e2.trans e3.symm
    subst f3
    obtain ⟨a4, b4⟩ : x4 = (yq_onl 1 5 1 99 η).1 ∧ η1 = (yq_onl 1 5 1 99 η).2 := y4
    show 0 = (yq_lnr η).1 ∧ η1 = (yq_lnr η).2
    simp only [yq_lnr, yq_le, yq_law, yq_lw1, yq_lw2, yq_no, ← e1, ← e2, ← a4, ← b4]
    all_goals (repeat (first | rw [if_pos (by omega)] | rw [if_neg (by omega)]))
    all_goals exact ⟨rfl, rfl⟩
set_option maxHeartbeats 8000000 in
theorem zne_lineRead_o70 {ro : Nat → List Int32} (η : zE) (hp : sP wl_ne zTr zPne_lineRead [] η) (hpp : pPne_lineRead [] η) : ∀ x1 : Int, x1 = η 0 (Int.toNat 8) → zok 0 x1 → (x1 = 1) → ∀ x2 : Int, x2 = η 0 (Int.toNat 9) → zok 0 x2 → (x2 ≤ 6) → ∀ x3 : Int, x3 = η 0 (Int.toNat 9) → zok 0 x3 → (x3 = 5) → ((gC2 wl_ne [(nat_lit 0, zPne_wrong, zOne_wrong, zMne_wrong), (nat_lit 1, zPne_isSign, zOne_isSign, zMne_isSign), (nat_lit 2, zPne_token1, zOne_token1, zMne_token1), (nat_lit 3, zPne_grooveLine, zOne_grooveLine, zMne_grooveLine), (nat_lit 4, zPne_scratLine, zOne_scratLine, zMne_scratLine), (nat_lit 5, zPne_guestLine, zOne_guestLine, zMne_guestLine), (nat_lit 6, zPne_onceLine0, zOne_onceLine0, zMne_onceLine0), (nat_lit 7, zPne_onceLine1, zOne_onceLine1, zMne_onceLine1), (nat_lit 8, zPne_onceLine2, zOne_onceLine2, zMne_onceLine2), (nat_lit 9, zPne_sumRead, zOne_sumRead, zMne_sumRead)] pCne_lineRead qCne_lineRead) 8).1 [] η := by
  intro x1 e1 r1 c1 x2 e2 r2 c2 x3 e3 r3 c3
  have w0_0_8 : (0 : Int) ≤ η 0 8 ∧ η 0 8 ≤ 6 := wf_ok (a := 8) (b := 8) (z := (0, 6)) hp.1 (by decide +kernel) (Nat.le_refl _) (Nat.le_refl _)
  replace e1 : x1 = η 0 8 := e1
  replace e2 : x2 = η 0 9 := e2
  replace r2 : -2147483648 ≤ x2 ∧ x2 ≤ 2147483647 := r2
  replace e3 : x3 = η 0 9 := e3
  replace r3 : -2147483648 ≤ x3 ∧ x3 ≤ 2147483647 := r3
  have fr16_0 : ∀ j, η 16 j = η 16 j := fun _ => rfl
  have fr18_0 : ∀ j, η 18 j = η 18 j := fun _ => rfl
  have w0_0_7 : (0 : Int) ≤ η 0 7 ∧ η 0 7 ≤ 700 := wf_ok (a := 7) (b := 7) (z := (0, 700)) hp.1 (by decide +kernel) (Nat.le_refl _) (Nat.le_refl _)
  have f0_7 : η 0 7 = η 0 7 := rfl
  have w0_0_6 : (0 : Int) ≤ η 0 6 ∧ η 0 6 ≤ 700 := wf_ok (a := 6) (b := 6) (z := (0, 700)) hp.1 (by decide +kernel) (Nat.le_refl _) (Nat.le_refl _)
  have f0_6 : η 0 6 = η 0 6 := rfl
  have f0_8 : η 0 8 = η 0 8 := rfl
  have w0_0_19 : (0 : Int) ≤ η 0 19 ∧ η 0 19 ≤ 64 := wf_ok (a := 19) (b := 19) (z := (0, 64)) hp.1 (by decide +kernel) (Nat.le_refl _) (Nat.le_refl _)
  have f0_19 : η 0 19 = η 0 19 := rfl
  have w0_0_44 : (0 : Int) ≤ η 0 44 ∧ η 0 44 ≤ 64 := wf_ok (a := 44) (b := 44) (z := (0, 64)) hp.1 (by decide +kernel) (Nat.le_refl _) (Nat.le_refl _)
  have f0_44 : η 0 44 = η 0 44 := rfl
  exact ⟨⟨hpp.1, hpp.2⟩, show ¬ η 0 8 = 0 by omega⟩
set_option maxHeartbeats 8000000 in
theorem zne_lineRead_o71 {ro : Nat → List Int32} (η : zE) (hp : sP wl_ne zTr zPne_lineRead [] η) (hpp : pPne_lineRead [] η) : ∀ x1 : Int, x1 = η 0 (Int.toNat 8) → zok 0 x1 → (x1 = 1) → ∀ x2 : Int, x2 = η 0 (Int.toNat 9) → zok 0 x2 → (x2 ≤ 6) → ∀ x3 : Int, x3 = η 0 (Int.toNat 9) → zok 0 x3 → (x3 = 5) → ∀ (x4 : Int) (η1 : zE), ((gC2 wl_ne [(nat_lit 0, zPne_wrong, zOne_wrong, zMne_wrong), (nat_lit 1, zPne_isSign, zOne_isSign, zMne_isSign), (nat_lit 2, zPne_token1, zOne_token1, zMne_token1), (nat_lit 3, zPne_grooveLine, zOne_grooveLine, zMne_grooveLine), (nat_lit 4, zPne_scratLine, zOne_scratLine, zMne_scratLine), (nat_lit 5, zPne_guestLine, zOne_guestLine, zMne_guestLine), (nat_lit 6, zPne_onceLine0, zOne_onceLine0, zMne_onceLine0), (nat_lit 7, zPne_onceLine1, zOne_onceLine1, zMne_onceLine1), (nat_lit 8, zPne_onceLine2, zOne_onceLine2, zMne_onceLine2), (nat_lit 9, zPne_sumRead, zOne_sumRead, zMne_sumRead)] pCne_lineRead qCne_lineRead) 8).2 [] η x4 η1 → (¬ x4 = 0) → ((gC2 wl_ne [(nat_lit 0, zPne_wrong, zOne_wrong, zMne_wrong), (nat_lit 1, zPne_isSign, zOne_isSign, zMne_isSign), (nat_lit 2, zPne_token1, zOne_token1, zMne_token1), (nat_lit 3, zPne_grooveLine, zOne_grooveLine, zMne_grooveLine), (nat_lit 4, zPne_scratLine, zOne_scratLine, zMne_scratLine), (nat_lit 5, zPne_guestLine, zOne_guestLine, zMne_guestLine), (nat_lit 6, zPne_onceLine0, zOne_onceLine0, zMne_onceLine0), (nat_lit 7, zPne_onceLine1, zOne_onceLine1, zMne_onceLine1), (nat_lit 8, zPne_onceLine2, zOne_onceLine2, zMne_onceLine2), (nat_lit 9, zPne_sumRead, zOne_sumRead, zMne_sumRead)] pCne_lineRead qCne_lineRead) 1).1 [59] η1 := by
  intro x1 e1 r1 c1 x2 e2 r2 c2 x3 e3 r3 c3 x4 η1 h4 c4
  have y4 : fQne_onceLine2 [] η x4 η1 := h4.2.2
  have k4 : sQ wl_ne zTr zOne_onceLine2 zMne_onceLine2 [] η x4 η1 ∧ oQne_onceLine2 [] η x4 η1 := ⟨h4.1, h4.2.1⟩
  have w0_0_8 : (0 : Int) ≤ η 0 8 ∧ η 0 8 ≤ 6 := wf_ok (a := 8) (b := 8) (z := (0, 6)) hp.1 (by decide +kernel) (Nat.le_refl _) (Nat.le_refl _)
  replace e1 : x1 = η 0 8 := e1
  replace e2 : x2 = η 0 9 := e2
  replace r2 : -2147483648 ≤ x2 ∧ x2 ≤ 2147483647 := r2
  replace e3 : x3 = η 0 9 := e3
  replace r3 : -2147483648 ≤ x3 ∧ x3 ≤ 2147483647 := r3
  have w0_0_7 : (0 : Int) ≤ η 0 7 ∧ η 0 7 ≤ 700 := wf_ok (a := 7) (b := 7) (z := (0, 700)) hp.1 (by decide +kernel) (Nat.le_refl _) (Nat.le_refl _)
  have c0_0_7 : η 0 7 = η 0 7 := rfl
  have w0_0_6 : (0 : Int) ≤ η 0 6 ∧ η 0 6 ≤ 700 := wf_ok (a := 6) (b := 6) (z := (0, 700)) hp.1 (by decide +kernel) (Nat.le_refl _) (Nat.le_refl _)
  have c0_0_6 : η 0 6 = η 0 6 := rfl
  have c0_0_8 : η 0 8 = η 0 8 := rfl
  have w0_0_19 : (0 : Int) ≤ η 0 19 ∧ η 0 19 ≤ 64 := wf_ok (a := 19) (b := 19) (z := (0, 64)) hp.1 (by decide +kernel) (Nat.le_refl _) (Nat.le_refl _)
  have c0_0_19 : η 0 19 = η 0 19 := rfl
  have w0_0_44 : (0 : Int) ≤ η 0 44 ∧ η 0 44 ≤ 64 := wf_ok (a := 44) (b := 44) (z := (0, 64)) hp.1 (by decide +kernel) (Nat.le_refl _) (Nat.le_refl _)
  have c0_0_44 : η 0 44 = η 0 44 := rfl
  have bx4 : (0 : Int) ≤ x4 ∧ x4 ≤ 1 := k4.1.2.1
  have w1_0_7 : (0 : Int) ≤ η1 0 7 ∧ η1 0 7 ≤ 700 := wf_ok (a := 7) (b := 7) (z := (0, 700)) k4.1.1 (by decide +kernel) (Nat.le_refl _) (Nat.le_refl _)
  have d1_0_7 : η1 0 7 = η1 0 7 := rfl
  have v7 : zEq (η1 0 6) (η 0 6) := (k4.1.2.2.2.1 0 6 (by decide +kernel)).trans rfl
  have d1_0_6 : η1 0 6 = η 0 6 := v7
  have w1_0_8 : (0 : Int) ≤ η1 0 8 ∧ η1 0 8 ≤ 6 := wf_ok (a := 8) (b := 8) (z := (0, 6)) k4.1.1 (by decide +kernel) (Nat.le_refl _) (Nat.le_refl _)
  have d1_0_8 : η1 0 8 = η1 0 8 := rfl
  have v9 : zEq (η1 0 19) (η 0 19) := (k4.1.2.2.2.1 0 19 (by decide +kernel)).trans rfl
  have d1_0_19 : η1 0 19 = η 0 19 := v9
  have v10 : zEq (η1 0 44) (η 0 44) := (k4.1.2.2.2.1 0 44 (by decide +kernel)).trans rfl
  have d1_0_44 : η1 0 44 = η 0 44 := v10
  have fr16_0 : ∀ j, η 16 j = η 16 j := fun _ => rfl
  have v11 : ∀ j, η1 16 j = η 16 j := fun j => k4.1.2.2.2.1 16 _ (zinr_not (by decide +kernel))
  have fr16_1 : ∀ j, η1 16 j = η 16 j := v11
  have fr18_0 : ∀ j, η 18 j = η 18 j := fun _ => rfl
  have v12 : ∀ j, η1 18 j = η 18 j := fun j => k4.1.2.2.2.1 18 _ (zinr_not (by decide +kernel))
  have fr18_1 : ∀ j, η1 18 j = η 18 j := v12
  have f0_7 : η1 0 7 = η1 0 7 := rfl
  have f0_6 : η1 0 6 = η 0 6 := v7
  have f0_8 : η1 0 8 = η1 0 8 := rfl
  have f0_19 : η1 0 19 = η 0 19 := v9
  have f0_44 : η1 0 44 = η 0 44 := v10
  have qn4 : ¬ x4 = 0 → 10 * (η1 0 6 - η1 0 7) + η1 0 8 < 10 * (η 0 6 - η 0 7) + η 0 8 := k4.2.2
  exact ⟨k4.2.1.1, k4.2.1.2⟩
set_option maxHeartbeats 8000000 in
theorem zne_lineRead_o72 {ro : Nat → List Int32} (η : zE) (hp : sP wl_ne zTr zPne_lineRead [] η) (hpp : pPne_lineRead [] η) : ∀ x1 : Int, x1 = η 0 (Int.toNat 8) → zok 0 x1 → (x1 = 1) → ∀ x2 : Int, x2 = η 0 (Int.toNat 9) → zok 0 x2 → (x2 ≤ 6) → ∀ x3 : Int, x3 = η 0 (Int.toNat 9) → zok 0 x3 → (x3 = 5) → ∀ (x4 : Int) (η1 : zE), ((gC2 wl_ne [(nat_lit 0, zPne_wrong, zOne_wrong, zMne_wrong), (nat_lit 1, zPne_isSign, zOne_isSign, zMne_isSign), (nat_lit 2, zPne_token1, zOne_token1, zMne_token1), (nat_lit 3, zPne_grooveLine, zOne_grooveLine, zMne_grooveLine), (nat_lit 4, zPne_scratLine, zOne_scratLine, zMne_scratLine), (nat_lit 5, zPne_guestLine, zOne_guestLine, zMne_guestLine), (nat_lit 6, zPne_onceLine0, zOne_onceLine0, zMne_onceLine0), (nat_lit 7, zPne_onceLine1, zOne_onceLine1, zMne_onceLine1), (nat_lit 8, zPne_onceLine2, zOne_onceLine2, zMne_onceLine2), (nat_lit 9, zPne_sumRead, zOne_sumRead, zMne_sumRead)] pCne_lineRead qCne_lineRead) 8).2 [] η x4 η1 → (¬ x4 = 0) → ∀ (x5 : Int) (η2 : zE), ((gC2 wl_ne [(nat_lit 0, zPne_wrong, zOne_wrong, zMne_wrong), (nat_lit 1, zPne_isSign, zOne_isSign, zMne_isSign), (nat_lit 2, zPne_token1, zOne_token1, zMne_token1), (nat_lit 3, zPne_grooveLine, zOne_grooveLine, zMne_grooveLine), (nat_lit 4, zPne_scratLine, zOne_scratLine, zMne_scratLine), (nat_lit 5, zPne_guestLine, zOne_guestLine, zMne_guestLine), (nat_lit 6, zPne_onceLine0, zOne_onceLine0, zMne_onceLine0), (nat_lit 7, zPne_onceLine1, zOne_onceLine1, zMne_onceLine1), (nat_lit 8, zPne_onceLine2, zOne_onceLine2, zMne_onceLine2), (nat_lit 9, zPne_sumRead, zOne_sumRead, zMne_sumRead)] pCne_lineRead qCne_lineRead) 1).2 [59] η1 x5 η2 → (¬ x5 = 0) → ((gC2 wl_ne [(nat_lit 0, zPne_wrong, zOne_wrong, zMne_wrong), (nat_lit 1, zPne_isSign, zOne_isSign, zMne_isSign), (nat_lit 2, zPne_token1, zOne_token1, zMne_token1), (nat_lit 3, zPne_grooveLine, zOne_grooveLine, zMne_grooveLine), (nat_lit 4, zPne_scratLine, zOne_scratLine, zMne_scratLine), (nat_lit 5, zPne_guestLine, zOne_guestLine, zMne_guestLine), (nat_lit 6, zPne_onceLine0, zOne_onceLine0, zMne_onceLine0), (nat_lit 7, zPne_onceLine1, zOne_onceLine1, zMne_onceLine1), (nat_lit 8, zPne_onceLine2, zOne_onceLine2, zMne_onceLine2), (nat_lit 9, zPne_sumRead, zOne_sumRead, zMne_sumRead)] pCne_lineRead qCne_lineRead) 2).1 [] η2 := by
  intro x1 e1 r1 c1 x2 e2 r2 c2 x3 e3 r3 c3 x4 η1 h4 c4 x5 η2 h5 c5
  have y4 : fQne_onceLine2 [] η x4 η1 := h4.2.2
  have k4 : sQ wl_ne zTr zOne_onceLine2 zMne_onceLine2 [] η x4 η1 ∧ oQne_onceLine2 [] η x4 η1 := ⟨h4.1, h4.2.1⟩
  have y5 : fQne_isSign [59] η1 x5 η2 := h5.2.2
  have k5 : sQ wl_ne zTr zOne_isSign zMne_isSign [59] η1 x5 η2 ∧ oQne_isSign [59] η1 x5 η2 := ⟨h5.1, h5.2.1⟩
  have w0_0_8 : (0 : Int) ≤ η 0 8 ∧ η 0 8 ≤ 6 := wf_ok (a := 8) (b := 8) (z := (0, 6)) hp.1 (by decide +kernel) (Nat.le_refl _) (Nat.le_refl _)
  replace e1 : x1 = η 0 8 := e1
  replace e2 : x2 = η 0 9 := e2
  replace r2 : -2147483648 ≤ x2 ∧ x2 ≤ 2147483647 := r2
  replace e3 : x3 = η 0 9 := e3
  replace r3 : -2147483648 ≤ x3 ∧ x3 ≤ 2147483647 := r3
  have w0_0_7 : (0 : Int) ≤ η 0 7 ∧ η 0 7 ≤ 700 := wf_ok (a := 7) (b := 7) (z := (0, 700)) hp.1 (by decide +kernel) (Nat.le_refl _) (Nat.le_refl _)
  have c0_0_7 : η 0 7 = η 0 7 := rfl
  have w0_0_6 : (0 : Int) ≤ η 0 6 ∧ η 0 6 ≤ 700 := wf_ok (a := 6) (b := 6) (z := (0, 700)) hp.1 (by decide +kernel) (Nat.le_refl _) (Nat.le_refl _)
  have c0_0_6 : η 0 6 = η 0 6 := rfl
  have c0_0_8 : η 0 8 = η 0 8 := rfl
  have w0_0_19 : (0 : Int) ≤ η 0 19 ∧ η 0 19 ≤ 64 := wf_ok (a := 19) (b := 19) (z := (0, 64)) hp.1 (by decide +kernel) (Nat.le_refl _) (Nat.le_refl _)
  have c0_0_19 : η 0 19 = η 0 19 := rfl
  have w0_0_44 : (0 : Int) ≤ η 0 44 ∧ η 0 44 ≤ 64 := wf_ok (a := 44) (b := 44) (z := (0, 64)) hp.1 (by decide +kernel) (Nat.le_refl _) (Nat.le_refl _)
  have c0_0_44 : η 0 44 = η 0 44 := rfl
  have bx4 : (0 : Int) ≤ x4 ∧ x4 ≤ 1 := k4.1.2.1
  have w1_0_7 : (0 : Int) ≤ η1 0 7 ∧ η1 0 7 ≤ 700 := wf_ok (a := 7) (b := 7) (z := (0, 700)) k4.1.1 (by decide +kernel) (Nat.le_refl _) (Nat.le_refl _)
  have d1_0_7 : η1 0 7 = η1 0 7 := rfl
  have v7 : zEq (η1 0 6) (η 0 6) := (k4.1.2.2.2.1 0 6 (by decide +kernel)).trans rfl
  have d1_0_6 : η1 0 6 = η 0 6 := v7
  have w1_0_8 : (0 : Int) ≤ η1 0 8 ∧ η1 0 8 ≤ 6 := wf_ok (a := 8) (b := 8) (z := (0, 6)) k4.1.1 (by decide +kernel) (Nat.le_refl _) (Nat.le_refl _)
  have d1_0_8 : η1 0 8 = η1 0 8 := rfl
  have v9 : zEq (η1 0 19) (η 0 19) := (k4.1.2.2.2.1 0 19 (by decide +kernel)).trans rfl
  have d1_0_19 : η1 0 19 = η 0 19 := v9
  have v10 : zEq (η1 0 44) (η 0 44) := (k4.1.2.2.2.1 0 44 (by decide +kernel)).trans rfl
  have d1_0_44 : η1 0 44 = η 0 44 := v10
  have c1_0_7 : η1 0 7 = η1 0 7 := rfl
  have c1_0_6 : η1 0 6 = η 0 6 := v7
  have c1_0_8 : η1 0 8 = η1 0 8 := rfl
  have c1_0_19 : η1 0 19 = η 0 19 := v9
  have c1_0_44 : η1 0 44 = η 0 44 := v10
  have bx5 : (0 : Int) ≤ x5 ∧ x5 ≤ 1 := k5.1.2.1
  have v11 : zEq (η2 0 7) (η1 0 7) := (k5.1.2.2.2.1 0 7 (by decide +kernel)).trans rfl
  have d2_0_7 : η2 0 7 = η1 0 7 := v11
  have v12 : zEq (η2 0 6) (η 0 6) := (k5.1.2.2.2.1 0 6 (by decide +kernel)).trans v7
  have d2_0_6 : η2 0 6 = η 0 6 := v12
  have v13 : zEq (η2 0 8) (η1 0 8) := (k5.1.2.2.2.1 0 8 (by decide +kernel)).trans rfl
  have d2_0_8 : η2 0 8 = η1 0 8 := v13
  have v14 : zEq (η2 0 19) (η 0 19) := (k5.1.2.2.2.1 0 19 (by decide +kernel)).trans v9
  have d2_0_19 : η2 0 19 = η 0 19 := v14
  have v15 : zEq (η2 0 44) (η 0 44) := (k5.1.2.2.2.1 0 44 (by decide +kernel)).trans v10
  have d2_0_44 : η2 0 44 = η 0 44 := v15
  have fr16_0 : ∀ j, η 16 j = η 16 j := fun _ => rfl
  have v16 : ∀ j, η1 16 j = η 16 j := fun j => k4.1.2.2.2.1 16 _ (zinr_not (by decide +kernel))
  have fr16_1 : ∀ j, η1 16 j = η 16 j := v16
  have v17 : ∀ j, η2 16 j = η 16 j := fun j => (k5.1.2.2.2.1 16 _ (zinr_not (by decide +kernel))).trans (v16 j)
  have fr16_2 : ∀ j, η2 16 j = η 16 j := v17
  have fr18_0 : ∀ j, η 18 j = η 18 j := fun _ => rfl
  have v18 : ∀ j, η1 18 j = η 18 j := fun j => k4.1.2.2.2.1 18 _ (zinr_not (by decide +kernel))
  have fr18_1 : ∀ j, η1 18 j = η 18 j := v18
  have v19 : ∀ j, η2 18 j = η 18 j := fun j => (k5.1.2.2.2.1 18 _ (zinr_not (by decide +kernel))).trans (v18 j)
  have fr18_2 : ∀ j, η2 18 j = η 18 j := v19
  have f0_7 : η2 0 7 = η1 0 7 := v11
  have f0_6 : η2 0 6 = η 0 6 := v12
  have f0_8 : η2 0 8 = η1 0 8 := v13
  have f0_19 : η2 0 19 = η 0 19 := v14
  have f0_44 : η2 0 44 = η 0 44 := v15
  have qn4 : ¬ x4 = 0 → 10 * (η1 0 6 - η1 0 7) + η1 0 8 < 10 * (η 0 6 - η 0 7) + η 0 8 := k4.2.2
  have qs5 : ¬ x5 = 0 → η1 0 8 = 4 := k5.2.2
  exact k5.2.1.1
set_option maxHeartbeats 8000000 in
theorem zne_lineRead_o73 {ro : Nat → List Int32} (η : zE) (hp : sP wl_ne zTr zPne_lineRead [] η) (hpp : pPne_lineRead [] η) : ∀ x1 : Int, x1 = η 0 (Int.toNat 8) → zok 0 x1 → (x1 = 1) → ∀ x2 : Int, x2 = η 0 (Int.toNat 9) → zok 0 x2 → (x2 ≤ 6) → ∀ x3 : Int, x3 = η 0 (Int.toNat 9) → zok 0 x3 → (x3 = 5) → ∀ (x4 : Int) (η1 : zE), ((gC2 wl_ne [(nat_lit 0, zPne_wrong, zOne_wrong, zMne_wrong), (nat_lit 1, zPne_isSign, zOne_isSign, zMne_isSign), (nat_lit 2, zPne_token1, zOne_token1, zMne_token1), (nat_lit 3, zPne_grooveLine, zOne_grooveLine, zMne_grooveLine), (nat_lit 4, zPne_scratLine, zOne_scratLine, zMne_scratLine), (nat_lit 5, zPne_guestLine, zOne_guestLine, zMne_guestLine), (nat_lit 6, zPne_onceLine0, zOne_onceLine0, zMne_onceLine0), (nat_lit 7, zPne_onceLine1, zOne_onceLine1, zMne_onceLine1), (nat_lit 8, zPne_onceLine2, zOne_onceLine2, zMne_onceLine2), (nat_lit 9, zPne_sumRead, zOne_sumRead, zMne_sumRead)] pCne_lineRead qCne_lineRead) 8).2 [] η x4 η1 → (¬ x4 = 0) → ∀ (x5 : Int) (η2 : zE), ((gC2 wl_ne [(nat_lit 0, zPne_wrong, zOne_wrong, zMne_wrong), (nat_lit 1, zPne_isSign, zOne_isSign, zMne_isSign), (nat_lit 2, zPne_token1, zOne_token1, zMne_token1), (nat_lit 3, zPne_grooveLine, zOne_grooveLine, zMne_grooveLine), (nat_lit 4, zPne_scratLine, zOne_scratLine, zMne_scratLine), (nat_lit 5, zPne_guestLine, zOne_guestLine, zMne_guestLine), (nat_lit 6, zPne_onceLine0, zOne_onceLine0, zMne_onceLine0), (nat_lit 7, zPne_onceLine1, zOne_onceLine1, zMne_onceLine1), (nat_lit 8, zPne_onceLine2, zOne_onceLine2, zMne_onceLine2), (nat_lit 9, zPne_sumRead, zOne_sumRead, zMne_sumRead)] pCne_lineRead qCne_lineRead) 1).2 [59] η1 x5 η2 → (¬ x5 = 0) → ∀ (x6 : Int) (η3 : zE), ((gC2 wl_ne [(nat_lit 0, zPne_wrong, zOne_wrong, zMne_wrong), (nat_lit 1, zPne_isSign, zOne_isSign, zMne_isSign), (nat_lit 2, zPne_token1, zOne_token1, zMne_token1), (nat_lit 3, zPne_grooveLine, zOne_grooveLine, zMne_grooveLine), (nat_lit 4, zPne_scratLine, zOne_scratLine, zMne_scratLine), (nat_lit 5, zPne_guestLine, zOne_guestLine, zMne_guestLine), (nat_lit 6, zPne_onceLine0, zOne_onceLine0, zMne_onceLine0), (nat_lit 7, zPne_onceLine1, zOne_onceLine1, zMne_onceLine1), (nat_lit 8, zPne_onceLine2, zOne_onceLine2, zMne_onceLine2), (nat_lit 9, zPne_sumRead, zOne_sumRead, zMne_sumRead)] pCne_lineRead qCne_lineRead) 2).2 [] η2 x6 η3 → (fun (_ : Nat) (y : Int) (η' : zE) => pQne_lineRead [] η y η') 0 1 η3 := by
  intro x1 e1 r1 c1 x2 e2 r2 c2 x3 e3 r3 c3 x4 η1 h4 c4 x5 η2 h5 c5 x6 η3 h6
  have y4 : fQne_onceLine2 [] η x4 η1 := h4.2.2
  have k4 : sQ wl_ne zTr zOne_onceLine2 zMne_onceLine2 [] η x4 η1 ∧ oQne_onceLine2 [] η x4 η1 := ⟨h4.1, h4.2.1⟩
  have y5 : fQne_isSign [59] η1 x5 η2 := h5.2.2
  have k5 : sQ wl_ne zTr zOne_isSign zMne_isSign [59] η1 x5 η2 ∧ oQne_isSign [59] η1 x5 η2 := ⟨h5.1, h5.2.1⟩
  have y6 : fQne_token1 [] η2 x6 η3 := h6.2.2
  have k6 : sQ wl_ne zTr zOne_token1 zMne_token1 [] η2 x6 η3 ∧ oQne_token1 [] η2 x6 η3 := ⟨h6.1, h6.2.1⟩
  refine yj_a ?_ ?_
  · have y4 : fQne_onceLine2 [] η x4 η1 := h4.2.2
    have k4 : sQ wl_ne zTr zOne_onceLine2 zMne_onceLine2 [] η x4 η1 ∧ oQne_onceLine2 [] η x4 η1 := ⟨h4.1, h4.2.1⟩
    have y5 : fQne_isSign [59] η1 x5 η2 := h5.2.2
    have k5 : sQ wl_ne zTr zOne_isSign zMne_isSign [59] η1 x5 η2 ∧ oQne_isSign [59] η1 x5 η2 := ⟨h5.1, h5.2.1⟩
    have y6 : fQne_token1 [] η2 x6 η3 := h6.2.2
    have k6 : sQ wl_ne zTr zOne_token1 zMne_token1 [] η2 x6 η3 ∧ oQne_token1 [] η2 x6 η3 := ⟨h6.1, h6.2.1⟩
    have w0_0_8 : (0 : Int) ≤ η 0 8 ∧ η 0 8 ≤ 6 := wf_ok (a := 8) (b := 8) (z := (0, 6)) hp.1 (by decide +kernel) (Nat.le_refl _) (Nat.le_refl _)
    replace e1 : x1 = η 0 8 := e1
    replace e2 : x2 = η 0 9 := e2
    replace r2 : -2147483648 ≤ x2 ∧ x2 ≤ 2147483647 := r2
    replace e3 : x3 = η 0 9 := e3
    replace r3 : -2147483648 ≤ x3 ∧ x3 ≤ 2147483647 := r3
    have w0_0_7 : (0 : Int) ≤ η 0 7 ∧ η 0 7 ≤ 700 := wf_ok (a := 7) (b := 7) (z := (0, 700)) hp.1 (by decide +kernel) (Nat.le_refl _) (Nat.le_refl _)
    have c0_0_7 : η 0 7 = η 0 7 := rfl
    have w0_0_6 : (0 : Int) ≤ η 0 6 ∧ η 0 6 ≤ 700 := wf_ok (a := 6) (b := 6) (z := (0, 700)) hp.1 (by decide +kernel) (Nat.le_refl _) (Nat.le_refl _)
    have c0_0_6 : η 0 6 = η 0 6 := rfl
    have c0_0_8 : η 0 8 = η 0 8 := rfl
    have w0_0_19 : (0 : Int) ≤ η 0 19 ∧ η 0 19 ≤ 64 := wf_ok (a := 19) (b := 19) (z := (0, 64)) hp.1 (by decide +kernel) (Nat.le_refl _) (Nat.le_refl _)
    have c0_0_19 : η 0 19 = η 0 19 := rfl
    have w0_0_44 : (0 : Int) ≤ η 0 44 ∧ η 0 44 ≤ 64 := wf_ok (a := 44) (b := 44) (z := (0, 64)) hp.1 (by decide +kernel) (Nat.le_refl _) (Nat.le_refl _)
    have c0_0_44 : η 0 44 = η 0 44 := rfl
    have bx4 : (0 : Int) ≤ x4 ∧ x4 ≤ 1 := k4.1.2.1
    have w1_0_7 : (0 : Int) ≤ η1 0 7 ∧ η1 0 7 ≤ 700 := wf_ok (a := 7) (b := 7) (z := (0, 700)) k4.1.1 (by decide +kernel) (Nat.le_refl _) (Nat.le_refl _)
    have d1_0_7 : η1 0 7 = η1 0 7 := rfl
    have v7 : zEq (η1 0 6) (η 0 6) := (k4.1.2.2.2.1 0 6 (by decide +kernel)).trans rfl
    have d1_0_6 : η1 0 6 = η 0 6 := v7
    have w1_0_8 : (0 : Int) ≤ η1 0 8 ∧ η1 0 8 ≤ 6 := wf_ok (a := 8) (b := 8) (z := (0, 6)) k4.1.1 (by decide +kernel) (Nat.le_refl _) (Nat.le_refl _)
    have d1_0_8 : η1 0 8 = η1 0 8 := rfl
    have v9 : zEq (η1 0 19) (η 0 19) := (k4.1.2.2.2.1 0 19 (by decide +kernel)).trans rfl
    have d1_0_19 : η1 0 19 = η 0 19 := v9
    have v10 : zEq (η1 0 44) (η 0 44) := (k4.1.2.2.2.1 0 44 (by decide +kernel)).trans rfl
    have d1_0_44 : η1 0 44 = η 0 44 := v10
    have c1_0_7 : η1 0 7 = η1 0 7 := rfl
    have c1_0_6 : η1 0 6 = η 0 6 := v7
    have c1_0_8 : η1 0 8 = η1 0 8 := rfl
    have c1_0_19 : η1 0 19 = η 0 19 := v9
    have c1_0_44 : η1 0 44 = η 0 44 := v10
    have bx5 : (0 : Int) ≤ x5 ∧ x5 ≤ 1 := k5.1.2.1
    have v11 : zEq (η2 0 7) (η1 0 7) := (k5.1.2.2.2.1 0 7 (by decide +kernel)).trans rfl
    have d2_0_7 : η2 0 7 = η1 0 7 := v11
    have v12 : zEq (η2 0 6) (η 0 6) := (k5.1.2.2.2.1 0 6 (by decide +kernel)).trans v7
    have d2_0_6 : η2 0 6 = η 0 6 := v12
    have v13 : zEq (η2 0 8) (η1 0 8) := (k5.1.2.2.2.1 0 8 (by decide +kernel)).trans rfl
    have d2_0_8 : η2 0 8 = η1 0 8 := v13
    have v14 : zEq (η2 0 19) (η 0 19) := (k5.1.2.2.2.1 0 19 (by decide +kernel)).trans v9
    have d2_0_19 : η2 0 19 = η 0 19 := v14
    have v15 : zEq (η2 0 44) (η 0 44) := (k5.1.2.2.2.1 0 44 (by decide +kernel)).trans v10
    have d2_0_44 : η2 0 44 = η 0 44 := v15
    have c2_0_7 : η2 0 7 = η1 0 7 := v11
    have c2_0_6 : η2 0 6 = η 0 6 := v12
    have c2_0_8 : η2 0 8 = η1 0 8 := v13
    have c2_0_19 : η2 0 19 = η 0 19 := v14
    have c2_0_44 : η2 0 44 = η 0 44 := v15
    have bx6 : (0 : Int) ≤ x6 ∧ x6 ≤ 0 := k6.1.2.1
    have w3_0_7 : (0 : Int) ≤ η3 0 7 ∧ η3 0 7 ≤ 700 := wf_ok (a := 7) (b := 7) (z := (0, 700)) k6.1.1 (by decide +kernel) (Nat.le_refl _) (Nat.le_refl _)
    have d3_0_7 : η3 0 7 = η3 0 7 := rfl
    have v17 : zEq (η3 0 6) (η 0 6) := (k6.1.2.2.2.1 0 6 (by decide +kernel)).trans v12
    have d3_0_6 : η3 0 6 = η 0 6 := v17
    have w3_0_8 : (0 : Int) ≤ η3 0 8 ∧ η3 0 8 ≤ 6 := wf_ok (a := 8) (b := 8) (z := (0, 6)) k6.1.1 (by decide +kernel) (Nat.le_refl _) (Nat.le_refl _)
    have d3_0_8 : η3 0 8 = η3 0 8 := rfl
    have v19 : zEq (η3 0 19) (η 0 19) := (k6.1.2.2.2.1 0 19 (by decide +kernel)).trans v14
    have d3_0_19 : η3 0 19 = η 0 19 := v19
    have v20 : zEq (η3 0 44) (η 0 44) := (k6.1.2.2.2.1 0 44 (by decide +kernel)).trans v15
    have d3_0_44 : η3 0 44 = η 0 44 := v20
    have fr16_0 : ∀ j, η 16 j = η 16 j := fun _ => rfl
    have v21 : ∀ j, η1 16 j = η 16 j := fun j => k4.1.2.2.2.1 16 _ (zinr_not (by decide +kernel))
    have fr16_1 : ∀ j, η1 16 j = η 16 j := v21
    have v22 : ∀ j, η2 16 j = η 16 j := fun j => (k5.1.2.2.2.1 16 _ (zinr_not (by decide +kernel))).trans (v21 j)
    have fr16_2 : ∀ j, η2 16 j = η 16 j := v22
    have v23 : ∀ j, η3 16 j = η 16 j := fun j => (k6.1.2.2.2.1 16 _ (zinr_not (by decide +kernel))).trans (v22 j)
    have fr16_3 : ∀ j, η3 16 j = η 16 j := v23
    have fr18_0 : ∀ j, η 18 j = η 18 j := fun _ => rfl
    have v24 : ∀ j, η1 18 j = η 18 j := fun j => k4.1.2.2.2.1 18 _ (zinr_not (by decide +kernel))
    have fr18_1 : ∀ j, η1 18 j = η 18 j := v24
    have v25 : ∀ j, η2 18 j = η 18 j := fun j => (k5.1.2.2.2.1 18 _ (zinr_not (by decide +kernel))).trans (v24 j)
    have fr18_2 : ∀ j, η2 18 j = η 18 j := v25
    have v26 : ∀ j, η3 18 j = η 18 j := fun j => (k6.1.2.2.2.1 18 _ (zinr_not (by decide +kernel))).trans (v25 j)
    have fr18_3 : ∀ j, η3 18 j = η 18 j := v26
    have f0_7 : η3 0 7 = η3 0 7 := rfl
    have f0_6 : η3 0 6 = η 0 6 := v17
    have f0_8 : η3 0 8 = η3 0 8 := rfl
    have f0_19 : η3 0 19 = η 0 19 := v19
    have f0_44 : η3 0 44 = η 0 44 := v20
    have qn4 : ¬ x4 = 0 → 10 * (η1 0 6 - η1 0 7) + η1 0 8 < 10 * (η 0 6 - η 0 7) + η 0 8 := k4.2.2
    have qs5 : ¬ x5 = 0 → η1 0 8 = 4 := k5.2.2
    have qt6 : ¬ η2 0 8 = 0 → 10 * (η3 0 6 - η3 0 7) + η3 0 8 < 10 * (η2 0 6 - η2 0 7) + η2 0 8 := k6.2.2
    have P3 : PL_n 6 η3 := zGk_fm2 plk_n (k5.2.1.2) k6.1.2.2.2.1 (by decide +kernel)
    exact ⟨k6.2.1.1, pl_d (P3) (by decide), fun _ => ⟨⟨k6.2.1, P3⟩, show 10 * (η3 0 6 - η3 0 7) + η3 0 8 < 10 * (η 0 6 - η 0 7) + η 0 8 by omega⟩⟩
  · have e1 : x1 = η 0 8 := e1
    have e2 : x2 = η 0 9 := e2
    have e3 : x3 = η 0 9 := e3
    have f3 : x2 = x3 := e2.trans e3.symm
    subst f3
    obtain ⟨a4, b4⟩ : x4 = (yq_onl 2 6 0 99999 η).1 ∧ η1 = (yq_onl 2 6 0 99999 η).2 := y4
    obtain ⟨a5, b5⟩ : x5 = (yq_isS 59 η1) ∧ η1 = η2 := ⟨y5.1, y5.2.symm⟩
    subst b5
    have b6 : η3 = (yq_tok η1) := y6
    show 1 = (yq_lnr η).1 ∧ η3 = (yq_lnr η).2
    simp only [yq_lnr, yq_le, yq_law, yq_lw1, yq_lw2, yq_no, ← e1, ← e2, ← a4, ← b4, ← a5, ← b6]
    all_goals (repeat (first | rw [if_pos (by omega)] | rw [if_neg (by omega)]))
    all_goals exact ⟨rfl, rfl⟩
set_option maxHeartbeats 8000000 in
theorem zne_lineRead_o74 {ro : Nat → List Int32} (η : zE) (hp : sP wl_ne zTr zPne_lineRead [] η) (hpp : pPne_lineRead [] η) : ∀ x1 : Int, x1 = η 0 (Int.toNat 8) → zok 0 x1 → (x1 = 1) → ∀ x2 : Int, x2 = η 0 (Int.toNat 9) → zok 0 x2 → (x2 ≤ 6) → ∀ x3 : Int, x3 = η 0 (Int.toNat 9) → zok 0 x3 → (x3 = 5) → ∀ (x4 : Int) (η1 : zE), ((gC2 wl_ne [(nat_lit 0, zPne_wrong, zOne_wrong, zMne_wrong), (nat_lit 1, zPne_isSign, zOne_isSign, zMne_isSign), (nat_lit 2, zPne_token1, zOne_token1, zMne_token1), (nat_lit 3, zPne_grooveLine, zOne_grooveLine, zMne_grooveLine), (nat_lit 4, zPne_scratLine, zOne_scratLine, zMne_scratLine), (nat_lit 5, zPne_guestLine, zOne_guestLine, zMne_guestLine), (nat_lit 6, zPne_onceLine0, zOne_onceLine0, zMne_onceLine0), (nat_lit 7, zPne_onceLine1, zOne_onceLine1, zMne_onceLine1), (nat_lit 8, zPne_onceLine2, zOne_onceLine2, zMne_onceLine2), (nat_lit 9, zPne_sumRead, zOne_sumRead, zMne_sumRead)] pCne_lineRead qCne_lineRead) 8).2 [] η x4 η1 → (¬ x4 = 0) → ∀ (x5 : Int) (η2 : zE), ((gC2 wl_ne [(nat_lit 0, zPne_wrong, zOne_wrong, zMne_wrong), (nat_lit 1, zPne_isSign, zOne_isSign, zMne_isSign), (nat_lit 2, zPne_token1, zOne_token1, zMne_token1), (nat_lit 3, zPne_grooveLine, zOne_grooveLine, zMne_grooveLine), (nat_lit 4, zPne_scratLine, zOne_scratLine, zMne_scratLine), (nat_lit 5, zPne_guestLine, zOne_guestLine, zMne_guestLine), (nat_lit 6, zPne_onceLine0, zOne_onceLine0, zMne_onceLine0), (nat_lit 7, zPne_onceLine1, zOne_onceLine1, zMne_onceLine1), (nat_lit 8, zPne_onceLine2, zOne_onceLine2, zMne_onceLine2), (nat_lit 9, zPne_sumRead, zOne_sumRead, zMne_sumRead)] pCne_lineRead qCne_lineRead) 1).2 [59] η1 x5 η2 → (x5 = 0) → ((gC2 wl_ne [(nat_lit 0, zPne_wrong, zOne_wrong, zMne_wrong), (nat_lit 1, zPne_isSign, zOne_isSign, zMne_isSign), (nat_lit 2, zPne_token1, zOne_token1, zMne_token1), (nat_lit 3, zPne_grooveLine, zOne_grooveLine, zMne_grooveLine), (nat_lit 4, zPne_scratLine, zOne_scratLine, zMne_scratLine), (nat_lit 5, zPne_guestLine, zOne_guestLine, zMne_guestLine), (nat_lit 6, zPne_onceLine0, zOne_onceLine0, zMne_onceLine0), (nat_lit 7, zPne_onceLine1, zOne_onceLine1, zMne_onceLine1), (nat_lit 8, zPne_onceLine2, zOne_onceLine2, zMne_onceLine2), (nat_lit 9, zPne_sumRead, zOne_sumRead, zMne_sumRead)] pCne_lineRead qCne_lineRead) 0).1 [1] η2 := by
  intro x1 e1 r1 c1 x2 e2 r2 c2 x3 e3 r3 c3 x4 η1 h4 c4 x5 η2 h5 c5
  have y4 : fQne_onceLine2 [] η x4 η1 := h4.2.2
  have k4 : sQ wl_ne zTr zOne_onceLine2 zMne_onceLine2 [] η x4 η1 ∧ oQne_onceLine2 [] η x4 η1 := ⟨h4.1, h4.2.1⟩
  have y5 : fQne_isSign [59] η1 x5 η2 := h5.2.2
  have k5 : sQ wl_ne zTr zOne_isSign zMne_isSign [59] η1 x5 η2 ∧ oQne_isSign [59] η1 x5 η2 := ⟨h5.1, h5.2.1⟩
  have w0_0_8 : (0 : Int) ≤ η 0 8 ∧ η 0 8 ≤ 6 := wf_ok (a := 8) (b := 8) (z := (0, 6)) hp.1 (by decide +kernel) (Nat.le_refl _) (Nat.le_refl _)
  replace e1 : x1 = η 0 8 := e1
  replace e2 : x2 = η 0 9 := e2
  replace r2 : -2147483648 ≤ x2 ∧ x2 ≤ 2147483647 := r2
  replace e3 : x3 = η 0 9 := e3
  replace r3 : -2147483648 ≤ x3 ∧ x3 ≤ 2147483647 := r3
  have w0_0_7 : (0 : Int) ≤ η 0 7 ∧ η 0 7 ≤ 700 := wf_ok (a := 7) (b := 7) (z := (0, 700)) hp.1 (by decide +kernel) (Nat.le_refl _) (Nat.le_refl _)
  have c0_0_7 : η 0 7 = η 0 7 := rfl
  have w0_0_6 : (0 : Int) ≤ η 0 6 ∧ η 0 6 ≤ 700 := wf_ok (a := 6) (b := 6) (z := (0, 700)) hp.1 (by decide +kernel) (Nat.le_refl _) (Nat.le_refl _)
  have c0_0_6 : η 0 6 = η 0 6 := rfl
  have c0_0_8 : η 0 8 = η 0 8 := rfl
  have w0_0_19 : (0 : Int) ≤ η 0 19 ∧ η 0 19 ≤ 64 := wf_ok (a := 19) (b := 19) (z := (0, 64)) hp.1 (by decide +kernel) (Nat.le_refl _) (Nat.le_refl _)
  have c0_0_19 : η 0 19 = η 0 19 := rfl
  have w0_0_44 : (0 : Int) ≤ η 0 44 ∧ η 0 44 ≤ 64 := wf_ok (a := 44) (b := 44) (z := (0, 64)) hp.1 (by decide +kernel) (Nat.le_refl _) (Nat.le_refl _)
  have c0_0_44 : η 0 44 = η 0 44 := rfl
  have bx4 : (0 : Int) ≤ x4 ∧ x4 ≤ 1 := k4.1.2.1
  have w1_0_7 : (0 : Int) ≤ η1 0 7 ∧ η1 0 7 ≤ 700 := wf_ok (a := 7) (b := 7) (z := (0, 700)) k4.1.1 (by decide +kernel) (Nat.le_refl _) (Nat.le_refl _)
  have d1_0_7 : η1 0 7 = η1 0 7 := rfl
  have v7 : zEq (η1 0 6) (η 0 6) := (k4.1.2.2.2.1 0 6 (by decide +kernel)).trans rfl
  have d1_0_6 : η1 0 6 = η 0 6 := v7
  have w1_0_8 : (0 : Int) ≤ η1 0 8 ∧ η1 0 8 ≤ 6 := wf_ok (a := 8) (b := 8) (z := (0, 6)) k4.1.1 (by decide +kernel) (Nat.le_refl _) (Nat.le_refl _)
  have d1_0_8 : η1 0 8 = η1 0 8 := rfl
  have v9 : zEq (η1 0 19) (η 0 19) := (k4.1.2.2.2.1 0 19 (by decide +kernel)).trans rfl
  have d1_0_19 : η1 0 19 = η 0 19 := v9
  have v10 : zEq (η1 0 44) (η 0 44) := (k4.1.2.2.2.1 0 44 (by decide +kernel)).trans rfl
  have d1_0_44 : η1 0 44 = η 0 44 := v10
  have c1_0_7 : η1 0 7 = η1 0 7 := rfl
  have c1_0_6 : η1 0 6 = η 0 6 := v7
  have c1_0_8 : η1 0 8 = η1 0 8 := rfl
  have c1_0_19 : η1 0 19 = η 0 19 := v9
  have c1_0_44 : η1 0 44 = η 0 44 := v10
  have bx5 : (0 : Int) ≤ x5 ∧ x5 ≤ 1 := k5.1.2.1
  have v11 : zEq (η2 0 7) (η1 0 7) := (k5.1.2.2.2.1 0 7 (by decide +kernel)).trans rfl
  have d2_0_7 : η2 0 7 = η1 0 7 := v11
  have v12 : zEq (η2 0 6) (η 0 6) := (k5.1.2.2.2.1 0 6 (by decide +kernel)).trans v7
  have d2_0_6 : η2 0 6 = η 0 6 := v12
  have v13 : zEq (η2 0 8) (η1 0 8) := (k5.1.2.2.2.1 0 8 (by decide +kernel)).trans rfl
  have d2_0_8 : η2 0 8 = η1 0 8 := v13
  have v14 : zEq (η2 0 19) (η 0 19) := (k5.1.2.2.2.1 0 19 (by decide +kernel)).trans v9
  have d2_0_19 : η2 0 19 = η 0 19 := v14
  have v15 : zEq (η2 0 44) (η 0 44) := (k5.1.2.2.2.1 0 44 (by decide +kernel)).trans v10
  have d2_0_44 : η2 0 44 = η 0 44 := v15
  have fr16_0 : ∀ j, η 16 j = η 16 j := fun _ => rfl
  have v16 : ∀ j, η1 16 j = η 16 j := fun j => k4.1.2.2.2.1 16 _ (zinr_not (by decide +kernel))
  have fr16_1 : ∀ j, η1 16 j = η 16 j := v16
  have v17 : ∀ j, η2 16 j = η 16 j := fun j => (k5.1.2.2.2.1 16 _ (zinr_not (by decide +kernel))).trans (v16 j)
  have fr16_2 : ∀ j, η2 16 j = η 16 j := v17
  have fr18_0 : ∀ j, η 18 j = η 18 j := fun _ => rfl
  have v18 : ∀ j, η1 18 j = η 18 j := fun j => k4.1.2.2.2.1 18 _ (zinr_not (by decide +kernel))
  have fr18_1 : ∀ j, η1 18 j = η 18 j := v18
  have v19 : ∀ j, η2 18 j = η 18 j := fun j => (k5.1.2.2.2.1 18 _ (zinr_not (by decide +kernel))).trans (v18 j)
  have fr18_2 : ∀ j, η2 18 j = η 18 j := v19
  have f0_7 : η2 0 7 = η1 0 7 := v11
  have f0_6 : η2 0 6 = η 0 6 := v12
  have f0_8 : η2 0 8 = η1 0 8 := v13
  have f0_19 : η2 0 19 = η 0 19 := v14
  have f0_44 : η2 0 44 = η 0 44 := v15
  have qn4 : ¬ x4 = 0 → 10 * (η1 0 6 - η1 0 7) + η1 0 8 < 10 * (η 0 6 - η 0 7) + η 0 8 := k4.2.2
  have qs5 : ¬ x5 = 0 → η1 0 8 = 4 := k5.2.2
  exact ⟨k5.2.1.1, k5.2.1.2⟩
set_option maxHeartbeats 8000000 in
theorem zne_lineRead_o75 {ro : Nat → List Int32} (η : zE) (hp : sP wl_ne zTr zPne_lineRead [] η) (hpp : pPne_lineRead [] η) : ∀ x1 : Int, x1 = η 0 (Int.toNat 8) → zok 0 x1 → (x1 = 1) → ∀ x2 : Int, x2 = η 0 (Int.toNat 9) → zok 0 x2 → (x2 ≤ 6) → ∀ x3 : Int, x3 = η 0 (Int.toNat 9) → zok 0 x3 → (x3 = 5) → ∀ (x4 : Int) (η1 : zE), ((gC2 wl_ne [(nat_lit 0, zPne_wrong, zOne_wrong, zMne_wrong), (nat_lit 1, zPne_isSign, zOne_isSign, zMne_isSign), (nat_lit 2, zPne_token1, zOne_token1, zMne_token1), (nat_lit 3, zPne_grooveLine, zOne_grooveLine, zMne_grooveLine), (nat_lit 4, zPne_scratLine, zOne_scratLine, zMne_scratLine), (nat_lit 5, zPne_guestLine, zOne_guestLine, zMne_guestLine), (nat_lit 6, zPne_onceLine0, zOne_onceLine0, zMne_onceLine0), (nat_lit 7, zPne_onceLine1, zOne_onceLine1, zMne_onceLine1), (nat_lit 8, zPne_onceLine2, zOne_onceLine2, zMne_onceLine2), (nat_lit 9, zPne_sumRead, zOne_sumRead, zMne_sumRead)] pCne_lineRead qCne_lineRead) 8).2 [] η x4 η1 → (¬ x4 = 0) → ∀ (x5 : Int) (η2 : zE), ((gC2 wl_ne [(nat_lit 0, zPne_wrong, zOne_wrong, zMne_wrong), (nat_lit 1, zPne_isSign, zOne_isSign, zMne_isSign), (nat_lit 2, zPne_token1, zOne_token1, zMne_token1), (nat_lit 3, zPne_grooveLine, zOne_grooveLine, zMne_grooveLine), (nat_lit 4, zPne_scratLine, zOne_scratLine, zMne_scratLine), (nat_lit 5, zPne_guestLine, zOne_guestLine, zMne_guestLine), (nat_lit 6, zPne_onceLine0, zOne_onceLine0, zMne_onceLine0), (nat_lit 7, zPne_onceLine1, zOne_onceLine1, zMne_onceLine1), (nat_lit 8, zPne_onceLine2, zOne_onceLine2, zMne_onceLine2), (nat_lit 9, zPne_sumRead, zOne_sumRead, zMne_sumRead)] pCne_lineRead qCne_lineRead) 1).2 [59] η1 x5 η2 → (x5 = 0) → ∀ (x6 : Int) (η3 : zE), ((gC2 wl_ne [(nat_lit 0, zPne_wrong, zOne_wrong, zMne_wrong), (nat_lit 1, zPne_isSign, zOne_isSign, zMne_isSign), (nat_lit 2, zPne_token1, zOne_token1, zMne_token1), (nat_lit 3, zPne_grooveLine, zOne_grooveLine, zMne_grooveLine), (nat_lit 4, zPne_scratLine, zOne_scratLine, zMne_scratLine), (nat_lit 5, zPne_guestLine, zOne_guestLine, zMne_guestLine), (nat_lit 6, zPne_onceLine0, zOne_onceLine0, zMne_onceLine0), (nat_lit 7, zPne_onceLine1, zOne_onceLine1, zMne_onceLine1), (nat_lit 8, zPne_onceLine2, zOne_onceLine2, zMne_onceLine2), (nat_lit 9, zPne_sumRead, zOne_sumRead, zMne_sumRead)] pCne_lineRead qCne_lineRead) 0).2 [1] η2 x6 η3 → (fun (_ : Nat) (y : Int) (η' : zE) => pQne_lineRead [] η y η') 0 x6 η3 := by
  intro x1 e1 r1 c1 x2 e2 r2 c2 x3 e3 r3 c3 x4 η1 h4 c4 x5 η2 h5 c5 x6 η3 h6
  have y4 : fQne_onceLine2 [] η x4 η1 := h4.2.2
  have k4 : sQ wl_ne zTr zOne_onceLine2 zMne_onceLine2 [] η x4 η1 ∧ oQne_onceLine2 [] η x4 η1 := ⟨h4.1, h4.2.1⟩
  have y5 : fQne_isSign [59] η1 x5 η2 := h5.2.2
  have k5 : sQ wl_ne zTr zOne_isSign zMne_isSign [59] η1 x5 η2 ∧ oQne_isSign [59] η1 x5 η2 := ⟨h5.1, h5.2.1⟩
  have y6 : fQne_wrong [1] η2 x6 η3 := h6.2.2
  have k6 : sQ wl_ne zTr zOne_wrong zMne_wrong [1] η2 x6 η3 ∧ oQne_wrong [1] η2 x6 η3 := ⟨h6.1, h6.2.1⟩
  refine yj_a ?_ ?_
  · have y4 : fQne_onceLine2 [] η x4 η1 := h4.2.2
    have k4 : sQ wl_ne zTr zOne_onceLine2 zMne_onceLine2 [] η x4 η1 ∧ oQne_onceLine2 [] η x4 η1 := ⟨h4.1, h4.2.1⟩
    have y5 : fQne_isSign [59] η1 x5 η2 := h5.2.2
    have k5 : sQ wl_ne zTr zOne_isSign zMne_isSign [59] η1 x5 η2 ∧ oQne_isSign [59] η1 x5 η2 := ⟨h5.1, h5.2.1⟩
    have y6 : fQne_wrong [1] η2 x6 η3 := h6.2.2
    have k6 : sQ wl_ne zTr zOne_wrong zMne_wrong [1] η2 x6 η3 ∧ oQne_wrong [1] η2 x6 η3 := ⟨h6.1, h6.2.1⟩
    have w0_0_8 : (0 : Int) ≤ η 0 8 ∧ η 0 8 ≤ 6 := wf_ok (a := 8) (b := 8) (z := (0, 6)) hp.1 (by decide +kernel) (Nat.le_refl _) (Nat.le_refl _)
    replace e1 : x1 = η 0 8 := e1
    replace e2 : x2 = η 0 9 := e2
    replace r2 : -2147483648 ≤ x2 ∧ x2 ≤ 2147483647 := r2
    replace e3 : x3 = η 0 9 := e3
    replace r3 : -2147483648 ≤ x3 ∧ x3 ≤ 2147483647 := r3
    have w0_0_7 : (0 : Int) ≤ η 0 7 ∧ η 0 7 ≤ 700 := wf_ok (a := 7) (b := 7) (z := (0, 700)) hp.1 (by decide +kernel) (Nat.le_refl _) (Nat.le_refl _)
    have c0_0_7 : η 0 7 = η 0 7 := rfl
    have w0_0_6 : (0 : Int) ≤ η 0 6 ∧ η 0 6 ≤ 700 := wf_ok (a := 6) (b := 6) (z := (0, 700)) hp.1 (by decide +kernel) (Nat.le_refl _) (Nat.le_refl _)
    have c0_0_6 : η 0 6 = η 0 6 := rfl
    have c0_0_8 : η 0 8 = η 0 8 := rfl
    have w0_0_19 : (0 : Int) ≤ η 0 19 ∧ η 0 19 ≤ 64 := wf_ok (a := 19) (b := 19) (z := (0, 64)) hp.1 (by decide +kernel) (Nat.le_refl _) (Nat.le_refl _)
    have c0_0_19 : η 0 19 = η 0 19 := rfl
    have w0_0_44 : (0 : Int) ≤ η 0 44 ∧ η 0 44 ≤ 64 := wf_ok (a := 44) (b := 44) (z := (0, 64)) hp.1 (by decide +kernel) (Nat.le_refl _) (Nat.le_refl _)
    have c0_0_44 : η 0 44 = η 0 44 := rfl
    have bx4 : (0 : Int) ≤ x4 ∧ x4 ≤ 1 := k4.1.2.1
    have w1_0_7 : (0 : Int) ≤ η1 0 7 ∧ η1 0 7 ≤ 700 := wf_ok (a := 7) (b := 7) (z := (0, 700)) k4.1.1 (by decide +kernel) (Nat.le_refl _) (Nat.le_refl _)
    have d1_0_7 : η1 0 7 = η1 0 7 := rfl
    have v7 : zEq (η1 0 6) (η 0 6) := (k4.1.2.2.2.1 0 6 (by decide +kernel)).trans rfl
    have d1_0_6 : η1 0 6 = η 0 6 := v7
    have w1_0_8 : (0 : Int) ≤ η1 0 8 ∧ η1 0 8 ≤ 6 := wf_ok (a := 8) (b := 8) (z := (0, 6)) k4.1.1 (by decide +kernel) (Nat.le_refl _) (Nat.le_refl _)
    have d1_0_8 : η1 0 8 = η1 0 8 := rfl
    have v9 : zEq (η1 0 19) (η 0 19) := (k4.1.2.2.2.1 0 19 (by decide +kernel)).trans rfl
    have d1_0_19 : η1 0 19 = η 0 19 := v9
    have v10 : zEq (η1 0 44) (η 0 44) := (k4.1.2.2.2.1 0 44 (by decide +kernel)).trans rfl
    have d1_0_44 : η1 0 44 = η 0 44 := v10
    have c1_0_7 : η1 0 7 = η1 0 7 := rfl
    have c1_0_6 : η1 0 6 = η 0 6 := v7
    have c1_0_8 : η1 0 8 = η1 0 8 := rfl
    have c1_0_19 : η1 0 19 = η 0 19 := v9
    have c1_0_44 : η1 0 44 = η 0 44 := v10
    have bx5 : (0 : Int) ≤ x5 ∧ x5 ≤ 1 := k5.1.2.1
    have v11 : zEq (η2 0 7) (η1 0 7) := (k5.1.2.2.2.1 0 7 (by decide +kernel)).trans rfl
    have d2_0_7 : η2 0 7 = η1 0 7 := v11
    have v12 : zEq (η2 0 6) (η 0 6) := (k5.1.2.2.2.1 0 6 (by decide +kernel)).trans v7
    have d2_0_6 : η2 0 6 = η 0 6 := v12
    have v13 : zEq (η2 0 8) (η1 0 8) := (k5.1.2.2.2.1 0 8 (by decide +kernel)).trans rfl
    have d2_0_8 : η2 0 8 = η1 0 8 := v13
    have v14 : zEq (η2 0 19) (η 0 19) := (k5.1.2.2.2.1 0 19 (by decide +kernel)).trans v9
    have d2_0_19 : η2 0 19 = η 0 19 := v14
    have v15 : zEq (η2 0 44) (η 0 44) := (k5.1.2.2.2.1 0 44 (by decide +kernel)).trans v10
    have d2_0_44 : η2 0 44 = η 0 44 := v15
    have c2_0_7 : η2 0 7 = η1 0 7 := v11
    have c2_0_6 : η2 0 6 = η 0 6 := v12
    have c2_0_8 : η2 0 8 = η1 0 8 := v13
    have c2_0_19 : η2 0 19 = η 0 19 := v14
    have c2_0_44 : η2 0 44 = η 0 44 := v15
    have bx6 : (0 : Int) ≤ x6 ∧ x6 ≤ 0 := k6.1.2.1
    have v16 : zEq (η3 0 7) (η1 0 7) := (k6.1.2.2.2.1 0 7 (by decide +kernel)).trans v11
    have d3_0_7 : η3 0 7 = η1 0 7 := v16
    have v17 : zEq (η3 0 6) (η 0 6) := (k6.1.2.2.2.1 0 6 (by decide +kernel)).trans v12
    have d3_0_6 : η3 0 6 = η 0 6 := v17
    have v18 : zEq (η3 0 8) (η1 0 8) := (k6.1.2.2.2.1 0 8 (by decide +kernel)).trans v13
    have d3_0_8 : η3 0 8 = η1 0 8 := v18
    have v19 : zEq (η3 0 19) (η 0 19) := (k6.1.2.2.2.1 0 19 (by decide +kernel)).trans v14
    have d3_0_19 : η3 0 19 = η 0 19 := v19
    have v20 : zEq (η3 0 44) (η 0 44) := (k6.1.2.2.2.1 0 44 (by decide +kernel)).trans v15
    have d3_0_44 : η3 0 44 = η 0 44 := v20
    have fr16_0 : ∀ j, η 16 j = η 16 j := fun _ => rfl
    have v21 : ∀ j, η1 16 j = η 16 j := fun j => k4.1.2.2.2.1 16 _ (zinr_not (by decide +kernel))
    have fr16_1 : ∀ j, η1 16 j = η 16 j := v21
    have v22 : ∀ j, η2 16 j = η 16 j := fun j => (k5.1.2.2.2.1 16 _ (zinr_not (by decide +kernel))).trans (v21 j)
    have fr16_2 : ∀ j, η2 16 j = η 16 j := v22
    have v23 : ∀ j, η3 16 j = η 16 j := fun j => (k6.1.2.2.2.1 16 _ (zinr_not (by decide +kernel))).trans (v22 j)
    have fr16_3 : ∀ j, η3 16 j = η 16 j := v23
    have fr18_0 : ∀ j, η 18 j = η 18 j := fun _ => rfl
    have v24 : ∀ j, η1 18 j = η 18 j := fun j => k4.1.2.2.2.1 18 _ (zinr_not (by decide +kernel))
    have fr18_1 : ∀ j, η1 18 j = η 18 j := v24
    have v25 : ∀ j, η2 18 j = η 18 j := fun j => (k5.1.2.2.2.1 18 _ (zinr_not (by decide +kernel))).trans (v24 j)
    have fr18_2 : ∀ j, η2 18 j = η 18 j := v25
    have v26 : ∀ j, η3 18 j = η 18 j := fun j => (k6.1.2.2.2.1 18 _ (zinr_not (by decide +kernel))).trans (v25 j)
    have fr18_3 : ∀ j, η3 18 j = η 18 j := v26
    have f0_7 : η3 0 7 = η1 0 7 := v16
    have f0_6 : η3 0 6 = η 0 6 := v17
    have f0_8 : η3 0 8 = η1 0 8 := v18
    have f0_19 : η3 0 19 = η 0 19 := v19
    have f0_44 : η3 0 44 = η 0 44 := v20
    have qn4 : ¬ x4 = 0 → 10 * (η1 0 6 - η1 0 7) + η1 0 8 < 10 * (η 0 6 - η 0 7) + η 0 8 := k4.2.2
    have qs5 : ¬ x5 = 0 → η1 0 8 = 4 := k5.2.2
    exact ⟨k6.2.1.1, pl_d (k6.2.2) (by decide), fun w => absurd (show (x6 : Int) = 0 by apply Int.le_antisymm <;> omega) w⟩
  · have e1 : x1 = η 0 8 := e1
    have e2 : x2 = η 0 9 := e2
    have e3 : x3 = η 0 9 := e3
    have f3 : x2 = x3 := e2.trans e3.symm
    subst f3
    obtain ⟨a4, b4⟩ : x4 = (yq_onl 2 6 0 99999 η).1 ∧ η1 = (yq_onl 2 6 0 99999 η).2 := y4
    obtain ⟨a5, b5⟩ : x5 = (yq_isS 59 η1) ∧ η1 = η2 := ⟨y5.1, y5.2.symm⟩
    subst b5
    obtain ⟨a6, b6⟩ : x6 = 0 ∧ η3 = (yq_wr 1 η1) := y6
    show x6 = (yq_lnr η).1 ∧ η3 = (yq_lnr η).2
    simp only [yq_lnr, yq_le, yq_law, yq_lw1, yq_lw2, yq_no, ← e1, ← e2, ← a4, ← b4, ← a5, ← b6, a6]
    all_goals (repeat (first | rw [if_pos (by omega)] | rw [if_neg (by omega)]))
    all_goals exact ⟨rfl, rfl⟩
set_option maxHeartbeats 8000000 in
theorem zne_lineRead_o76 {ro : Nat → List Int32} (η : zE) (hp : sP wl_ne zTr zPne_lineRead [] η) (hpp : pPne_lineRead [] η) : ∀ x1 : Int, x1 = η 0 (Int.toNat 8) → zok 0 x1 → (x1 = 1) → ∀ x2 : Int, x2 = η 0 (Int.toNat 9) → zok 0 x2 → (x2 ≤ 6) → ∀ x3 : Int, x3 = η 0 (Int.toNat 9) → zok 0 x3 → (x3 = 5) → ∀ (x4 : Int) (η1 : zE), ((gC2 wl_ne [(nat_lit 0, zPne_wrong, zOne_wrong, zMne_wrong), (nat_lit 1, zPne_isSign, zOne_isSign, zMne_isSign), (nat_lit 2, zPne_token1, zOne_token1, zMne_token1), (nat_lit 3, zPne_grooveLine, zOne_grooveLine, zMne_grooveLine), (nat_lit 4, zPne_scratLine, zOne_scratLine, zMne_scratLine), (nat_lit 5, zPne_guestLine, zOne_guestLine, zMne_guestLine), (nat_lit 6, zPne_onceLine0, zOne_onceLine0, zMne_onceLine0), (nat_lit 7, zPne_onceLine1, zOne_onceLine1, zMne_onceLine1), (nat_lit 8, zPne_onceLine2, zOne_onceLine2, zMne_onceLine2), (nat_lit 9, zPne_sumRead, zOne_sumRead, zMne_sumRead)] pCne_lineRead qCne_lineRead) 8).2 [] η x4 η1 → (x4 = 0) → (fun (_ : Nat) (y : Int) (η' : zE) => pQne_lineRead [] η y η') 0 0 η1 := by
  intro x1 e1 r1 c1 x2 e2 r2 c2 x3 e3 r3 c3 x4 η1 h4 c4
  have y4 : fQne_onceLine2 [] η x4 η1 := h4.2.2
  have k4 : sQ wl_ne zTr zOne_onceLine2 zMne_onceLine2 [] η x4 η1 ∧ oQne_onceLine2 [] η x4 η1 := ⟨h4.1, h4.2.1⟩
  refine yj_a ?_ ?_
  · have y4 : fQne_onceLine2 [] η x4 η1 := h4.2.2
    have k4 : sQ wl_ne zTr zOne_onceLine2 zMne_onceLine2 [] η x4 η1 ∧ oQne_onceLine2 [] η x4 η1 := ⟨h4.1, h4.2.1⟩
    have w0_0_8 : (0 : Int) ≤ η 0 8 ∧ η 0 8 ≤ 6 := wf_ok (a := 8) (b := 8) (z := (0, 6)) hp.1 (by decide +kernel) (Nat.le_refl _) (Nat.le_refl _)
    replace e1 : x1 = η 0 8 := e1
    replace e2 : x2 = η 0 9 := e2
    replace r2 : -2147483648 ≤ x2 ∧ x2 ≤ 2147483647 := r2
    replace e3 : x3 = η 0 9 := e3
    replace r3 : -2147483648 ≤ x3 ∧ x3 ≤ 2147483647 := r3
    have w0_0_7 : (0 : Int) ≤ η 0 7 ∧ η 0 7 ≤ 700 := wf_ok (a := 7) (b := 7) (z := (0, 700)) hp.1 (by decide +kernel) (Nat.le_refl _) (Nat.le_refl _)
    have c0_0_7 : η 0 7 = η 0 7 := rfl
    have w0_0_6 : (0 : Int) ≤ η 0 6 ∧ η 0 6 ≤ 700 := wf_ok (a := 6) (b := 6) (z := (0, 700)) hp.1 (by decide +kernel) (Nat.le_refl _) (Nat.le_refl _)
    have c0_0_6 : η 0 6 = η 0 6 := rfl
    have c0_0_8 : η 0 8 = η 0 8 := rfl
    have w0_0_19 : (0 : Int) ≤ η 0 19 ∧ η 0 19 ≤ 64 := wf_ok (a := 19) (b := 19) (z := (0, 64)) hp.1 (by decide +kernel) (Nat.le_refl _) (Nat.le_refl _)
    have c0_0_19 : η 0 19 = η 0 19 := rfl
    have w0_0_44 : (0 : Int) ≤ η 0 44 ∧ η 0 44 ≤ 64 := wf_ok (a := 44) (b := 44) (z := (0, 64)) hp.1 (by decide +kernel) (Nat.le_refl _) (Nat.le_refl _)
    have c0_0_44 : η 0 44 = η 0 44 := rfl
    have bx4 : (0 : Int) ≤ x4 ∧ x4 ≤ 1 := k4.1.2.1
    have w1_0_7 : (0 : Int) ≤ η1 0 7 ∧ η1 0 7 ≤ 700 := wf_ok (a := 7) (b := 7) (z := (0, 700)) k4.1.1 (by decide +kernel) (Nat.le_refl _) (Nat.le_refl _)
    have d1_0_7 : η1 0 7 = η1 0 7 := rfl
    have v7 : zEq (η1 0 6) (η 0 6) := (k4.1.2.2.2.1 0 6 (by decide +kernel)).trans rfl
    have d1_0_6 : η1 0 6 = η 0 6 := v7
    have w1_0_8 : (0 : Int) ≤ η1 0 8 ∧ η1 0 8 ≤ 6 := wf_ok (a := 8) (b := 8) (z := (0, 6)) k4.1.1 (by decide +kernel) (Nat.le_refl _) (Nat.le_refl _)
    have d1_0_8 : η1 0 8 = η1 0 8 := rfl
    have v9 : zEq (η1 0 19) (η 0 19) := (k4.1.2.2.2.1 0 19 (by decide +kernel)).trans rfl
    have d1_0_19 : η1 0 19 = η 0 19 := v9
    have v10 : zEq (η1 0 44) (η 0 44) := (k4.1.2.2.2.1 0 44 (by decide +kernel)).trans rfl
    have d1_0_44 : η1 0 44 = η 0 44 := v10
    have fr16_0 : ∀ j, η 16 j = η 16 j := fun _ => rfl
    have v11 : ∀ j, η1 16 j = η 16 j := fun j => k4.1.2.2.2.1 16 _ (zinr_not (by decide +kernel))
    have fr16_1 : ∀ j, η1 16 j = η 16 j := v11
    have fr18_0 : ∀ j, η 18 j = η 18 j := fun _ => rfl
    have v12 : ∀ j, η1 18 j = η 18 j := fun j => k4.1.2.2.2.1 18 _ (zinr_not (by decide +kernel))
    have fr18_1 : ∀ j, η1 18 j = η 18 j := v12
    have f0_7 : η1 0 7 = η1 0 7 := rfl
    have f0_6 : η1 0 6 = η 0 6 := v7
    have f0_8 : η1 0 8 = η1 0 8 := rfl
    have f0_19 : η1 0 19 = η 0 19 := v9
    have f0_44 : η1 0 44 = η 0 44 := v10
    have qn4 : ¬ x4 = 0 → 10 * (η1 0 6 - η1 0 7) + η1 0 8 < 10 * (η 0 6 - η 0 7) + η 0 8 := k4.2.2
    exact ⟨k4.2.1.1.1, pl_d (k4.2.1.2) (by decide), fun w => absurd (show (0 : Int) = 0 by apply Int.le_antisymm <;> omega) w⟩
  · have e1 : x1 = η 0 8 := e1
    have e2 : x2 = η 0 9 := e2
    have e3 : x3 = η 0 9 := e3
    have f3 : x2 = x3 := e2.trans e3.symm
    subst f3
    obtain ⟨a4, b4⟩ : x4 = (yq_onl 2 6 0 99999 η).1 ∧ η1 = (yq_onl 2 6 0 99999 η).2 := y4
    show 0 = (yq_lnr η).1 ∧ η1 = (yq_lnr η).2
    simp only [yq_lnr, yq_le, yq_law, yq_lw1, yq_lw2, yq_no, ← e1, ← e2, ← a4, ← b4]
    all_goals (repeat (first | rw [if_pos (by omega)] | rw [if_neg (by omega)]))
    all_goals exact ⟨rfl, rfl⟩
set_option maxHeartbeats 8000000 in
theorem zne_lineRead_o77 {ro : Nat → List Int32} (η : zE) (hp : sP wl_ne zTr zPne_lineRead [] η) (hpp : pPne_lineRead [] η) : ∀ x1 : Int, x1 = η 0 (Int.toNat 8) → zok 0 x1 → (x1 = 1) → ∀ x2 : Int, x2 = η 0 (Int.toNat 9) → zok 0 x2 → (6 < x2) → ∀ (x3 : Int) (η1 : zE), ((gC2 wl_ne [(nat_lit 0, zPne_wrong, zOne_wrong, zMne_wrong), (nat_lit 1, zPne_isSign, zOne_isSign, zMne_isSign), (nat_lit 2, zPne_token1, zOne_token1, zMne_token1), (nat_lit 3, zPne_grooveLine, zOne_grooveLine, zMne_grooveLine), (nat_lit 4, zPne_scratLine, zOne_scratLine, zMne_scratLine), (nat_lit 5, zPne_guestLine, zOne_guestLine, zMne_guestLine), (nat_lit 6, zPne_onceLine0, zOne_onceLine0, zMne_onceLine0), (nat_lit 7, zPne_onceLine1, zOne_onceLine1, zMne_onceLine1), (nat_lit 8, zPne_onceLine2, zOne_onceLine2, zMne_onceLine2), (nat_lit 9, zPne_sumRead, zOne_sumRead, zMne_sumRead)] pCne_lineRead qCne_lineRead) 0).2 [1] η x3 η1 → (fun (_ : Nat) (y : Int) (η' : zE) => pQne_lineRead [] η y η') 0 x3 η1 := by
  intro x1 e1 r1 c1 x2 e2 r2 c2 x3 η1 h3
  have y3 : fQne_wrong [1] η x3 η1 := h3.2.2
  have k3 : sQ wl_ne zTr zOne_wrong zMne_wrong [1] η x3 η1 ∧ oQne_wrong [1] η x3 η1 := ⟨h3.1, h3.2.1⟩
  refine yj_a ?_ ?_
  · have y3 : fQne_wrong [1] η x3 η1 := h3.2.2
    have k3 : sQ wl_ne zTr zOne_wrong zMne_wrong [1] η x3 η1 ∧ oQne_wrong [1] η x3 η1 := ⟨h3.1, h3.2.1⟩
    have w0_0_8 : (0 : Int) ≤ η 0 8 ∧ η 0 8 ≤ 6 := wf_ok (a := 8) (b := 8) (z := (0, 6)) hp.1 (by decide +kernel) (Nat.le_refl _) (Nat.le_refl _)
    replace e1 : x1 = η 0 8 := e1
    replace e2 : x2 = η 0 9 := e2
    replace r2 : -2147483648 ≤ x2 ∧ x2 ≤ 2147483647 := r2
    have w0_0_7 : (0 : Int) ≤ η 0 7 ∧ η 0 7 ≤ 700 := wf_ok (a := 7) (b := 7) (z := (0, 700)) hp.1 (by decide +kernel) (Nat.le_refl _) (Nat.le_refl _)
    have c0_0_7 : η 0 7 = η 0 7 := rfl
    have w0_0_6 : (0 : Int) ≤ η 0 6 ∧ η 0 6 ≤ 700 := wf_ok (a := 6) (b := 6) (z := (0, 700)) hp.1 (by decide +kernel) (Nat.le_refl _) (Nat.le_refl _)
    have c0_0_6 : η 0 6 = η 0 6 := rfl
    have c0_0_8 : η 0 8 = η 0 8 := rfl
    have w0_0_19 : (0 : Int) ≤ η 0 19 ∧ η 0 19 ≤ 64 := wf_ok (a := 19) (b := 19) (z := (0, 64)) hp.1 (by decide +kernel) (Nat.le_refl _) (Nat.le_refl _)
    have c0_0_19 : η 0 19 = η 0 19 := rfl
    have w0_0_44 : (0 : Int) ≤ η 0 44 ∧ η 0 44 ≤ 64 := wf_ok (a := 44) (b := 44) (z := (0, 64)) hp.1 (by decide +kernel) (Nat.le_refl _) (Nat.le_refl _)
    have c0_0_44 : η 0 44 = η 0 44 := rfl
    have bx3 : (0 : Int) ≤ x3 ∧ x3 ≤ 0 := k3.1.2.1
    have v6 : zEq (η1 0 7) (η 0 7) := (k3.1.2.2.2.1 0 7 (by decide +kernel)).trans rfl
    have d1_0_7 : η1 0 7 = η 0 7 := v6
    have v7 : zEq (η1 0 6) (η 0 6) := (k3.1.2.2.2.1 0 6 (by decide +kernel)).trans rfl
    have d1_0_6 : η1 0 6 = η 0 6 := v7
    have v8 : zEq (η1 0 8) (η 0 8) := (k3.1.2.2.2.1 0 8 (by decide +kernel)).trans rfl
    have d1_0_8 : η1 0 8 = η 0 8 := v8
    have v9 : zEq (η1 0 19) (η 0 19) := (k3.1.2.2.2.1 0 19 (by decide +kernel)).trans rfl
    have d1_0_19 : η1 0 19 = η 0 19 := v9
    have v10 : zEq (η1 0 44) (η 0 44) := (k3.1.2.2.2.1 0 44 (by decide +kernel)).trans rfl
    have d1_0_44 : η1 0 44 = η 0 44 := v10
    have fr16_0 : ∀ j, η 16 j = η 16 j := fun _ => rfl
    have v11 : ∀ j, η1 16 j = η 16 j := fun j => k3.1.2.2.2.1 16 _ (zinr_not (by decide +kernel))
    have fr16_1 : ∀ j, η1 16 j = η 16 j := v11
    have fr18_0 : ∀ j, η 18 j = η 18 j := fun _ => rfl
    have v12 : ∀ j, η1 18 j = η 18 j := fun j => k3.1.2.2.2.1 18 _ (zinr_not (by decide +kernel))
    have fr18_1 : ∀ j, η1 18 j = η 18 j := v12
    have f0_7 : η1 0 7 = η 0 7 := v6
    have f0_6 : η1 0 6 = η 0 6 := v7
    have f0_8 : η1 0 8 = η 0 8 := v8
    have f0_19 : η1 0 19 = η 0 19 := v9
    have f0_44 : η1 0 44 = η 0 44 := v10
    exact ⟨k3.2.1.1, pl_d (k3.2.2) (by decide), fun w => absurd (show (x3 : Int) = 0 by apply Int.le_antisymm <;> omega) w⟩
  · have e1 : x1 = η 0 8 := e1
    have e2 : x2 = η 0 9 := e2
    obtain ⟨a3, b3⟩ : x3 = 0 ∧ η1 = (yq_wr 1 η) := y3
    show x3 = (yq_lnr η).1 ∧ η1 = (yq_lnr η).2
    simp only [yq_lnr, yq_le, yq_law, yq_lw1, yq_lw2, yq_no, ← e1, ← e2, ← b3, a3]
    all_goals (repeat (first | rw [if_pos (by omega)] | rw [if_neg (by omega)]))
    all_goals exact ⟨rfl, rfl⟩
set_option maxHeartbeats 8000000 in
theorem zne_lineRead {ro : Nat → List Int32} : zMet pr_P pr_K pr_df ro (sm_X0 1 6) 4 136 tm_ne [(.inr (.inr (.inl (nat_lit 0))))] 2 [(nat_lit 0, nat_lit 0, nat_lit 1), (nat_lit 0, nat_lit 3, nat_lit 2), (nat_lit 0, nat_lit 20, nat_lit 3), (nat_lit 0, nat_lit 21, nat_lit 4), (nat_lit 0, nat_lit 22, nat_lit 5), (nat_lit 0, nat_lit 23, nat_lit 6), (nat_lit 0, nat_lit 24, nat_lit 7), (nat_lit 0, nat_lit 25, nat_lit 8), (nat_lit 0, nat_lit 26, nat_lit 9), (nat_lit 0, nat_lit 27, nat_lit 10), (nat_lit 0, nat_lit 28, nat_lit 11), (nat_lit 0, nat_lit 29, nat_lit 12), (nat_lit 0, nat_lit 30, nat_lit 13), (nat_lit 0, nat_lit 31, nat_lit 14), (nat_lit 0, nat_lit 32, nat_lit 15), (nat_lit 0, nat_lit 33, nat_lit 16), (nat_lit 0, nat_lit 34, nat_lit 17), (nat_lit 0, nat_lit 35, nat_lit 18), (nat_lit 0, nat_lit 36, nat_lit 19), (nat_lit 0, nat_lit 37, nat_lit 20), (nat_lit 0, nat_lit 38, nat_lit 21), (nat_lit 0, nat_lit 39, nat_lit 22), (nat_lit 0, nat_lit 40, nat_lit 23), (nat_lit 0, nat_lit 47, nat_lit 24), (nat_lit 0, nat_lit 48, nat_lit 25), (nat_lit 0, nat_lit 50, nat_lit 26), (nat_lit 0, nat_lit 51, nat_lit 27), (nat_lit 0, nat_lit 52, nat_lit 28), (nat_lit 0, nat_lit 53, nat_lit 29), (nat_lit 0, nat_lit 54, nat_lit 30), (nat_lit 0, nat_lit 55, nat_lit 31), (nat_lit 0, nat_lit 56, nat_lit 32), (nat_lit 0, nat_lit 57, nat_lit 33), (nat_lit 0, nat_lit 58, nat_lit 34), (nat_lit 0, nat_lit 59, nat_lit 35), (nat_lit 0, nat_lit 72, nat_lit 36), (nat_lit 0, nat_lit 73, nat_lit 37), (nat_lit 0, nat_lit 76, nat_lit 38), (nat_lit 0, nat_lit 77, nat_lit 39), (nat_lit 0, nat_lit 79, nat_lit 40), (nat_lit 0, nat_lit 81, nat_lit 41), (nat_lit 0, nat_lit 82, nat_lit 42)] [] (fun xs η => sP wl_ne zTr zPne_lineRead xs η ∧ pPne_lineRead xs η) (fun xs η y η' => sQ wl_ne zTr zOne_lineRead zMne_lineRead xs η y η' ∧ pQne_lineRead xs η y η') :=
  zmet_alt (zmea_gen (mi := (nat_lit 0, nat_lit 1, nat_lit 8, nat_lit 3, nat_lit 2, tX8_lineRead)) (cd := [(nat_lit 118, nat_lit 0, nat_lit 0, [(.inr (.inr (.inl (nat_lit 0)))), (.inl (nat_lit 1, (.ofNat (nat_lit 0))))], nat_lit 2, [(nat_lit 0, nat_lit 0, nat_lit 1), (nat_lit 0, nat_lit 3, nat_lit 2), (nat_lit 0, nat_lit 20, nat_lit 3), (nat_lit 0, nat_lit 21, nat_lit 4), (nat_lit 0, nat_lit 22, nat_lit 5), (nat_lit 0, nat_lit 23, nat_lit 6), (nat_lit 0, nat_lit 24, nat_lit 7), (nat_lit 0, nat_lit 25, nat_lit 8), (nat_lit 0, nat_lit 26, nat_lit 9), (nat_lit 0, nat_lit 27, nat_lit 10), (nat_lit 0, nat_lit 28, nat_lit 11), (nat_lit 0, nat_lit 29, nat_lit 12), (nat_lit 0, nat_lit 30, nat_lit 13), (nat_lit 0, nat_lit 31, nat_lit 14), (nat_lit 0, nat_lit 32, nat_lit 15), (nat_lit 0, nat_lit 33, nat_lit 16), (nat_lit 0, nat_lit 34, nat_lit 17), (nat_lit 0, nat_lit 35, nat_lit 18), (nat_lit 0, nat_lit 36, nat_lit 19), (nat_lit 0, nat_lit 37, nat_lit 20), (nat_lit 0, nat_lit 38, nat_lit 21), (nat_lit 0, nat_lit 39, nat_lit 22), (nat_lit 0, nat_lit 40, nat_lit 23), (nat_lit 0, nat_lit 47, nat_lit 24), (nat_lit 0, nat_lit 48, nat_lit 25), (nat_lit 0, nat_lit 50, nat_lit 26), (nat_lit 0, nat_lit 51, nat_lit 27), (nat_lit 0, nat_lit 52, nat_lit 28), (nat_lit 0, nat_lit 53, nat_lit 29), (nat_lit 0, nat_lit 54, nat_lit 30), (nat_lit 0, nat_lit 55, nat_lit 31), (nat_lit 0, nat_lit 56, nat_lit 32), (nat_lit 0, nat_lit 57, nat_lit 33), (nat_lit 0, nat_lit 58, nat_lit 34), (nat_lit 0, nat_lit 59, nat_lit 35), (nat_lit 0, nat_lit 72, nat_lit 36), (nat_lit 0, nat_lit 73, nat_lit 37), (nat_lit 0, nat_lit 76, nat_lit 38), (nat_lit 0, nat_lit 77, nat_lit 39), (nat_lit 0, nat_lit 79, nat_lit 40), (nat_lit 0, nat_lit 81, nat_lit 41), (nat_lit 0, nat_lit 82, nat_lit 42)], []), (nat_lit 126, nat_lit 1, nat_lit 0, [(.inr (.inr (.inl (nat_lit 0)))), (.inl (nat_lit 1, (.ofNat (nat_lit 0))))], nat_lit 2, [(nat_lit 0, nat_lit 0, nat_lit 1), (nat_lit 0, nat_lit 3, nat_lit 2), (nat_lit 0, nat_lit 20, nat_lit 3), (nat_lit 0, nat_lit 21, nat_lit 4), (nat_lit 0, nat_lit 22, nat_lit 5), (nat_lit 0, nat_lit 23, nat_lit 6), (nat_lit 0, nat_lit 24, nat_lit 7), (nat_lit 0, nat_lit 25, nat_lit 8), (nat_lit 0, nat_lit 26, nat_lit 9), (nat_lit 0, nat_lit 27, nat_lit 10), (nat_lit 0, nat_lit 28, nat_lit 11), (nat_lit 0, nat_lit 29, nat_lit 12), (nat_lit 0, nat_lit 30, nat_lit 13), (nat_lit 0, nat_lit 31, nat_lit 14), (nat_lit 0, nat_lit 32, nat_lit 15), (nat_lit 0, nat_lit 33, nat_lit 16), (nat_lit 0, nat_lit 34, nat_lit 17), (nat_lit 0, nat_lit 35, nat_lit 18), (nat_lit 0, nat_lit 36, nat_lit 19), (nat_lit 0, nat_lit 37, nat_lit 20), (nat_lit 0, nat_lit 38, nat_lit 21), (nat_lit 0, nat_lit 39, nat_lit 22), (nat_lit 0, nat_lit 40, nat_lit 23), (nat_lit 0, nat_lit 47, nat_lit 24), (nat_lit 0, nat_lit 48, nat_lit 25), (nat_lit 0, nat_lit 50, nat_lit 26), (nat_lit 0, nat_lit 51, nat_lit 27), (nat_lit 0, nat_lit 52, nat_lit 28), (nat_lit 0, nat_lit 53, nat_lit 29), (nat_lit 0, nat_lit 54, nat_lit 30), (nat_lit 0, nat_lit 55, nat_lit 31), (nat_lit 0, nat_lit 56, nat_lit 32), (nat_lit 0, nat_lit 57, nat_lit 33), (nat_lit 0, nat_lit 58, nat_lit 34), (nat_lit 0, nat_lit 59, nat_lit 35), (nat_lit 0, nat_lit 72, nat_lit 36), (nat_lit 0, nat_lit 73, nat_lit 37), (nat_lit 0, nat_lit 76, nat_lit 38), (nat_lit 0, nat_lit 77, nat_lit 39), (nat_lit 0, nat_lit 79, nat_lit 40), (nat_lit 0, nat_lit 81, nat_lit 41), (nat_lit 0, nat_lit 82, nat_lit 42)], []), (nat_lit 122, nat_lit 2, nat_lit 1, [(.inr (.inr (.inl (nat_lit 0))))], nat_lit 0, [(nat_lit 0, nat_lit 0, nat_lit 1), (nat_lit 0, nat_lit 3, nat_lit 2), (nat_lit 0, nat_lit 20, nat_lit 3), (nat_lit 0, nat_lit 21, nat_lit 4), (nat_lit 0, nat_lit 22, nat_lit 5), (nat_lit 0, nat_lit 23, nat_lit 6), (nat_lit 0, nat_lit 24, nat_lit 7), (nat_lit 0, nat_lit 25, nat_lit 8), (nat_lit 0, nat_lit 26, nat_lit 9), (nat_lit 0, nat_lit 27, nat_lit 10), (nat_lit 0, nat_lit 28, nat_lit 11), (nat_lit 0, nat_lit 29, nat_lit 12), (nat_lit 0, nat_lit 30, nat_lit 13), (nat_lit 0, nat_lit 31, nat_lit 14), (nat_lit 0, nat_lit 32, nat_lit 15), (nat_lit 0, nat_lit 33, nat_lit 16), (nat_lit 0, nat_lit 34, nat_lit 17), (nat_lit 0, nat_lit 35, nat_lit 18), (nat_lit 0, nat_lit 36, nat_lit 19), (nat_lit 0, nat_lit 37, nat_lit 20), (nat_lit 0, nat_lit 38, nat_lit 21), (nat_lit 0, nat_lit 39, nat_lit 22), (nat_lit 0, nat_lit 40, nat_lit 23), (nat_lit 0, nat_lit 47, nat_lit 24), (nat_lit 0, nat_lit 48, nat_lit 25), (nat_lit 0, nat_lit 50, nat_lit 26), (nat_lit 0, nat_lit 51, nat_lit 27), (nat_lit 0, nat_lit 52, nat_lit 28), (nat_lit 0, nat_lit 53, nat_lit 29), (nat_lit 0, nat_lit 54, nat_lit 30), (nat_lit 0, nat_lit 55, nat_lit 31), (nat_lit 0, nat_lit 56, nat_lit 32), (nat_lit 0, nat_lit 57, nat_lit 33), (nat_lit 0, nat_lit 58, nat_lit 34), (nat_lit 0, nat_lit 59, nat_lit 35), (nat_lit 0, nat_lit 72, nat_lit 36), (nat_lit 0, nat_lit 73, nat_lit 37), (nat_lit 0, nat_lit 76, nat_lit 38), (nat_lit 0, nat_lit 77, nat_lit 39), (nat_lit 0, nat_lit 79, nat_lit 40), (nat_lit 0, nat_lit 81, nat_lit 41), (nat_lit 0, nat_lit 82, nat_lit 42)], []), (nat_lit 132, nat_lit 3, nat_lit 3, [(.inr (.inr (.inl (nat_lit 0))))], nat_lit 2, [(nat_lit 0, nat_lit 0, nat_lit 1), (nat_lit 0, nat_lit 3, nat_lit 2), (nat_lit 0, nat_lit 20, nat_lit 3), (nat_lit 0, nat_lit 21, nat_lit 4), (nat_lit 0, nat_lit 22, nat_lit 5), (nat_lit 0, nat_lit 23, nat_lit 6), (nat_lit 0, nat_lit 24, nat_lit 7), (nat_lit 0, nat_lit 25, nat_lit 8), (nat_lit 0, nat_lit 26, nat_lit 9), (nat_lit 0, nat_lit 27, nat_lit 10), (nat_lit 0, nat_lit 28, nat_lit 11), (nat_lit 0, nat_lit 29, nat_lit 12), (nat_lit 0, nat_lit 30, nat_lit 13), (nat_lit 0, nat_lit 31, nat_lit 14), (nat_lit 0, nat_lit 32, nat_lit 15), (nat_lit 0, nat_lit 33, nat_lit 16), (nat_lit 0, nat_lit 34, nat_lit 17), (nat_lit 0, nat_lit 35, nat_lit 18), (nat_lit 0, nat_lit 36, nat_lit 19), (nat_lit 0, nat_lit 37, nat_lit 20), (nat_lit 0, nat_lit 38, nat_lit 21), (nat_lit 0, nat_lit 39, nat_lit 22), (nat_lit 0, nat_lit 40, nat_lit 23), (nat_lit 0, nat_lit 47, nat_lit 24), (nat_lit 0, nat_lit 48, nat_lit 25), (nat_lit 0, nat_lit 50, nat_lit 26), (nat_lit 0, nat_lit 51, nat_lit 27), (nat_lit 0, nat_lit 52, nat_lit 28), (nat_lit 0, nat_lit 53, nat_lit 29), (nat_lit 0, nat_lit 54, nat_lit 30), (nat_lit 0, nat_lit 55, nat_lit 31), (nat_lit 0, nat_lit 56, nat_lit 32), (nat_lit 0, nat_lit 57, nat_lit 33), (nat_lit 0, nat_lit 58, nat_lit 34), (nat_lit 0, nat_lit 59, nat_lit 35), (nat_lit 0, nat_lit 72, nat_lit 36), (nat_lit 0, nat_lit 73, nat_lit 37), (nat_lit 0, nat_lit 76, nat_lit 38), (nat_lit 0, nat_lit 77, nat_lit 39), (nat_lit 0, nat_lit 79, nat_lit 40), (nat_lit 0, nat_lit 81, nat_lit 41), (nat_lit 0, nat_lit 82, nat_lit 42)], []), (nat_lit 133, nat_lit 4, nat_lit 3, [(.inr (.inr (.inl (nat_lit 0))))], nat_lit 2, [(nat_lit 0, nat_lit 0, nat_lit 1), (nat_lit 0, nat_lit 3, nat_lit 2), (nat_lit 0, nat_lit 20, nat_lit 3), (nat_lit 0, nat_lit 21, nat_lit 4), (nat_lit 0, nat_lit 22, nat_lit 5), (nat_lit 0, nat_lit 23, nat_lit 6), (nat_lit 0, nat_lit 24, nat_lit 7), (nat_lit 0, nat_lit 25, nat_lit 8), (nat_lit 0, nat_lit 26, nat_lit 9), (nat_lit 0, nat_lit 27, nat_lit 10), (nat_lit 0, nat_lit 28, nat_lit 11), (nat_lit 0, nat_lit 29, nat_lit 12), (nat_lit 0, nat_lit 30, nat_lit 13), (nat_lit 0, nat_lit 31, nat_lit 14), (nat_lit 0, nat_lit 32, nat_lit 15), (nat_lit 0, nat_lit 33, nat_lit 16), (nat_lit 0, nat_lit 34, nat_lit 17), (nat_lit 0, nat_lit 35, nat_lit 18), (nat_lit 0, nat_lit 36, nat_lit 19), (nat_lit 0, nat_lit 37, nat_lit 20), (nat_lit 0, nat_lit 38, nat_lit 21), (nat_lit 0, nat_lit 39, nat_lit 22), (nat_lit 0, nat_lit 40, nat_lit 23), (nat_lit 0, nat_lit 47, nat_lit 24), (nat_lit 0, nat_lit 48, nat_lit 25), (nat_lit 0, nat_lit 50, nat_lit 26), (nat_lit 0, nat_lit 51, nat_lit 27), (nat_lit 0, nat_lit 52, nat_lit 28), (nat_lit 0, nat_lit 53, nat_lit 29), (nat_lit 0, nat_lit 54, nat_lit 30), (nat_lit 0, nat_lit 55, nat_lit 31), (nat_lit 0, nat_lit 56, nat_lit 32), (nat_lit 0, nat_lit 57, nat_lit 33), (nat_lit 0, nat_lit 58, nat_lit 34), (nat_lit 0, nat_lit 59, nat_lit 35), (nat_lit 0, nat_lit 72, nat_lit 36), (nat_lit 0, nat_lit 73, nat_lit 37), (nat_lit 0, nat_lit 76, nat_lit 38), (nat_lit 0, nat_lit 77, nat_lit 39), (nat_lit 0, nat_lit 79, nat_lit 40), (nat_lit 0, nat_lit 81, nat_lit 41), (nat_lit 0, nat_lit 82, nat_lit 42)], []), (nat_lit 134, nat_lit 5, nat_lit 3, [(.inr (.inr (.inl (nat_lit 0))))], nat_lit 2, [(nat_lit 0, nat_lit 0, nat_lit 1), (nat_lit 0, nat_lit 3, nat_lit 2), (nat_lit 0, nat_lit 20, nat_lit 3), (nat_lit 0, nat_lit 21, nat_lit 4), (nat_lit 0, nat_lit 22, nat_lit 5), (nat_lit 0, nat_lit 23, nat_lit 6), (nat_lit 0, nat_lit 24, nat_lit 7), (nat_lit 0, nat_lit 25, nat_lit 8), (nat_lit 0, nat_lit 26, nat_lit 9), (nat_lit 0, nat_lit 27, nat_lit 10), (nat_lit 0, nat_lit 28, nat_lit 11), (nat_lit 0, nat_lit 29, nat_lit 12), (nat_lit 0, nat_lit 30, nat_lit 13), (nat_lit 0, nat_lit 31, nat_lit 14), (nat_lit 0, nat_lit 32, nat_lit 15), (nat_lit 0, nat_lit 33, nat_lit 16), (nat_lit 0, nat_lit 34, nat_lit 17), (nat_lit 0, nat_lit 35, nat_lit 18), (nat_lit 0, nat_lit 36, nat_lit 19), (nat_lit 0, nat_lit 37, nat_lit 20), (nat_lit 0, nat_lit 38, nat_lit 21), (nat_lit 0, nat_lit 39, nat_lit 22), (nat_lit 0, nat_lit 40, nat_lit 23), (nat_lit 0, nat_lit 47, nat_lit 24), (nat_lit 0, nat_lit 48, nat_lit 25), (nat_lit 0, nat_lit 50, nat_lit 26), (nat_lit 0, nat_lit 51, nat_lit 27), (nat_lit 0, nat_lit 52, nat_lit 28), (nat_lit 0, nat_lit 53, nat_lit 29), (nat_lit 0, nat_lit 54, nat_lit 30), (nat_lit 0, nat_lit 55, nat_lit 31), (nat_lit 0, nat_lit 56, nat_lit 32), (nat_lit 0, nat_lit 57, nat_lit 33), (nat_lit 0, nat_lit 58, nat_lit 34), (nat_lit 0, nat_lit 59, nat_lit 35), (nat_lit 0, nat_lit 72, nat_lit 36), (nat_lit 0, nat_lit 73, nat_lit 37), (nat_lit 0, nat_lit 76, nat_lit 38), (nat_lit 0, nat_lit 77, nat_lit 39), (nat_lit 0, nat_lit 79, nat_lit 40), (nat_lit 0, nat_lit 81, nat_lit 41), (nat_lit 0, nat_lit 82, nat_lit 42)], []), (nat_lit 135, nat_lit 6, nat_lit 3, [(.inr (.inr (.inl (nat_lit 0)))), (.inl (nat_lit 0, (.ofNat (nat_lit 0)))), (.inl (nat_lit 0, (.ofNat (nat_lit 9))))], nat_lit 2, [(nat_lit 0, nat_lit 0, nat_lit 1), (nat_lit 0, nat_lit 3, nat_lit 2), (nat_lit 0, nat_lit 20, nat_lit 3), (nat_lit 0, nat_lit 21, nat_lit 4), (nat_lit 0, nat_lit 22, nat_lit 5), (nat_lit 0, nat_lit 23, nat_lit 6), (nat_lit 0, nat_lit 24, nat_lit 7), (nat_lit 0, nat_lit 25, nat_lit 8), (nat_lit 0, nat_lit 26, nat_lit 9), (nat_lit 0, nat_lit 27, nat_lit 10), (nat_lit 0, nat_lit 28, nat_lit 11), (nat_lit 0, nat_lit 29, nat_lit 12), (nat_lit 0, nat_lit 30, nat_lit 13), (nat_lit 0, nat_lit 31, nat_lit 14), (nat_lit 0, nat_lit 32, nat_lit 15), (nat_lit 0, nat_lit 33, nat_lit 16), (nat_lit 0, nat_lit 34, nat_lit 17), (nat_lit 0, nat_lit 35, nat_lit 18), (nat_lit 0, nat_lit 36, nat_lit 19), (nat_lit 0, nat_lit 37, nat_lit 20), (nat_lit 0, nat_lit 38, nat_lit 21), (nat_lit 0, nat_lit 39, nat_lit 22), (nat_lit 0, nat_lit 40, nat_lit 23), (nat_lit 0, nat_lit 47, nat_lit 24), (nat_lit 0, nat_lit 48, nat_lit 25), (nat_lit 0, nat_lit 50, nat_lit 26), (nat_lit 0, nat_lit 51, nat_lit 27), (nat_lit 0, nat_lit 52, nat_lit 28), (nat_lit 0, nat_lit 53, nat_lit 29), (nat_lit 0, nat_lit 54, nat_lit 30), (nat_lit 0, nat_lit 55, nat_lit 31), (nat_lit 0, nat_lit 56, nat_lit 32), (nat_lit 0, nat_lit 57, nat_lit 33), (nat_lit 0, nat_lit 58, nat_lit 34), (nat_lit 0, nat_lit 59, nat_lit 35), (nat_lit 0, nat_lit 72, nat_lit 36), (nat_lit 0, nat_lit 73, nat_lit 37), (nat_lit 0, nat_lit 76, nat_lit 38), (nat_lit 0, nat_lit 77, nat_lit 39), (nat_lit 0, nat_lit 79, nat_lit 40), (nat_lit 0, nat_lit 81, nat_lit 41), (nat_lit 0, nat_lit 82, nat_lit 42)], []), (nat_lit 135, nat_lit 7, nat_lit 3, [(.inr (.inr (.inl (nat_lit 0)))), (.inl (nat_lit 0, (.ofNat (nat_lit 1)))), (.inl (nat_lit 0, (.ofNat (nat_lit 99))))], nat_lit 2, [(nat_lit 0, nat_lit 0, nat_lit 1), (nat_lit 0, nat_lit 3, nat_lit 2), (nat_lit 0, nat_lit 20, nat_lit 3), (nat_lit 0, nat_lit 21, nat_lit 4), (nat_lit 0, nat_lit 22, nat_lit 5), (nat_lit 0, nat_lit 23, nat_lit 6), (nat_lit 0, nat_lit 24, nat_lit 7), (nat_lit 0, nat_lit 25, nat_lit 8), (nat_lit 0, nat_lit 26, nat_lit 9), (nat_lit 0, nat_lit 27, nat_lit 10), (nat_lit 0, nat_lit 28, nat_lit 11), (nat_lit 0, nat_lit 29, nat_lit 12), (nat_lit 0, nat_lit 30, nat_lit 13), (nat_lit 0, nat_lit 31, nat_lit 14), (nat_lit 0, nat_lit 32, nat_lit 15), (nat_lit 0, nat_lit 33, nat_lit 16), (nat_lit 0, nat_lit 34, nat_lit 17), (nat_lit 0, nat_lit 35, nat_lit 18), (nat_lit 0, nat_lit 36, nat_lit 19), (nat_lit 0, nat_lit 37, nat_lit 20), (nat_lit 0, nat_lit 38, nat_lit 21), (nat_lit 0, nat_lit 39, nat_lit 22), (nat_lit 0, nat_lit 40, nat_lit 23), (nat_lit 0, nat_lit 47, nat_lit 24), (nat_lit 0, nat_lit 48, nat_lit 25), (nat_lit 0, nat_lit 50, nat_lit 26), (nat_lit 0, nat_lit 51, nat_lit 27), (nat_lit 0, nat_lit 52, nat_lit 28), (nat_lit 0, nat_lit 53, nat_lit 29), (nat_lit 0, nat_lit 54, nat_lit 30), (nat_lit 0, nat_lit 55, nat_lit 31), (nat_lit 0, nat_lit 56, nat_lit 32), (nat_lit 0, nat_lit 57, nat_lit 33), (nat_lit 0, nat_lit 58, nat_lit 34), (nat_lit 0, nat_lit 59, nat_lit 35), (nat_lit 0, nat_lit 72, nat_lit 36), (nat_lit 0, nat_lit 73, nat_lit 37), (nat_lit 0, nat_lit 76, nat_lit 38), (nat_lit 0, nat_lit 77, nat_lit 39), (nat_lit 0, nat_lit 79, nat_lit 40), (nat_lit 0, nat_lit 81, nat_lit 41), (nat_lit 0, nat_lit 82, nat_lit 42)], []), (nat_lit 135, nat_lit 8, nat_lit 3, [(.inr (.inr (.inl (nat_lit 0)))), (.inl (nat_lit 0, (.ofNat (nat_lit 2)))), (.inl (nat_lit 0, (.ofNat (nat_lit 99999))))], nat_lit 2, [(nat_lit 0, nat_lit 0, nat_lit 1), (nat_lit 0, nat_lit 3, nat_lit 2), (nat_lit 0, nat_lit 20, nat_lit 3), (nat_lit 0, nat_lit 21, nat_lit 4), (nat_lit 0, nat_lit 22, nat_lit 5), (nat_lit 0, nat_lit 23, nat_lit 6), (nat_lit 0, nat_lit 24, nat_lit 7), (nat_lit 0, nat_lit 25, nat_lit 8), (nat_lit 0, nat_lit 26, nat_lit 9), (nat_lit 0, nat_lit 27, nat_lit 10), (nat_lit 0, nat_lit 28, nat_lit 11), (nat_lit 0, nat_lit 29, nat_lit 12), (nat_lit 0, nat_lit 30, nat_lit 13), (nat_lit 0, nat_lit 31, nat_lit 14), (nat_lit 0, nat_lit 32, nat_lit 15), (nat_lit 0, nat_lit 33, nat_lit 16), (nat_lit 0, nat_lit 34, nat_lit 17), (nat_lit 0, nat_lit 35, nat_lit 18), (nat_lit 0, nat_lit 36, nat_lit 19), (nat_lit 0, nat_lit 37, nat_lit 20), (nat_lit 0, nat_lit 38, nat_lit 21), (nat_lit 0, nat_lit 39, nat_lit 22), (nat_lit 0, nat_lit 40, nat_lit 23), (nat_lit 0, nat_lit 47, nat_lit 24), (nat_lit 0, nat_lit 48, nat_lit 25), (nat_lit 0, nat_lit 50, nat_lit 26), (nat_lit 0, nat_lit 51, nat_lit 27), (nat_lit 0, nat_lit 52, nat_lit 28), (nat_lit 0, nat_lit 53, nat_lit 29), (nat_lit 0, nat_lit 54, nat_lit 30), (nat_lit 0, nat_lit 55, nat_lit 31), (nat_lit 0, nat_lit 56, nat_lit 32), (nat_lit 0, nat_lit 57, nat_lit 33), (nat_lit 0, nat_lit 58, nat_lit 34), (nat_lit 0, nat_lit 59, nat_lit 35), (nat_lit 0, nat_lit 72, nat_lit 36), (nat_lit 0, nat_lit 73, nat_lit 37), (nat_lit 0, nat_lit 76, nat_lit 38), (nat_lit 0, nat_lit 77, nat_lit 39), (nat_lit 0, nat_lit 79, nat_lit 40), (nat_lit 0, nat_lit 81, nat_lit 41), (nat_lit 0, nat_lit 82, nat_lit 42)], []), (nat_lit 149, nat_lit 9, nat_lit 3, [(.inr (.inr (.inl (nat_lit 0))))], nat_lit 2, [(nat_lit 0, nat_lit 0, nat_lit 1), (nat_lit 0, nat_lit 3, nat_lit 2), (nat_lit 0, nat_lit 20, nat_lit 3), (nat_lit 0, nat_lit 21, nat_lit 4), (nat_lit 0, nat_lit 22, nat_lit 5), (nat_lit 0, nat_lit 23, nat_lit 6), (nat_lit 0, nat_lit 24, nat_lit 7), (nat_lit 0, nat_lit 25, nat_lit 8), (nat_lit 0, nat_lit 26, nat_lit 9), (nat_lit 0, nat_lit 27, nat_lit 10), (nat_lit 0, nat_lit 28, nat_lit 11), (nat_lit 0, nat_lit 29, nat_lit 12), (nat_lit 0, nat_lit 30, nat_lit 13), (nat_lit 0, nat_lit 31, nat_lit 14), (nat_lit 0, nat_lit 32, nat_lit 15), (nat_lit 0, nat_lit 33, nat_lit 16), (nat_lit 0, nat_lit 34, nat_lit 17), (nat_lit 0, nat_lit 35, nat_lit 18), (nat_lit 0, nat_lit 36, nat_lit 19), (nat_lit 0, nat_lit 37, nat_lit 20), (nat_lit 0, nat_lit 38, nat_lit 21), (nat_lit 0, nat_lit 39, nat_lit 22), (nat_lit 0, nat_lit 40, nat_lit 23), (nat_lit 0, nat_lit 47, nat_lit 24), (nat_lit 0, nat_lit 48, nat_lit 25), (nat_lit 0, nat_lit 50, nat_lit 26), (nat_lit 0, nat_lit 51, nat_lit 27), (nat_lit 0, nat_lit 52, nat_lit 28), (nat_lit 0, nat_lit 53, nat_lit 29), (nat_lit 0, nat_lit 54, nat_lit 30), (nat_lit 0, nat_lit 55, nat_lit 31), (nat_lit 0, nat_lit 56, nat_lit 32), (nat_lit 0, nat_lit 57, nat_lit 33), (nat_lit 0, nat_lit 58, nat_lit 34), (nat_lit 0, nat_lit 59, nat_lit 35), (nat_lit 0, nat_lit 72, nat_lit 36), (nat_lit 0, nat_lit 73, nat_lit 37), (nat_lit 0, nat_lit 76, nat_lit 38), (nat_lit 0, nat_lit 77, nat_lit 39), (nat_lit 0, nat_lit 79, nat_lit 40), (nat_lit 0, nat_lit 81, nat_lit 41), (nat_lit 0, nat_lit 82, nat_lit 42)], [])]) (cu := []) (cs := [(nat_lit 0, zPne_wrong, zOne_wrong, zMne_wrong), (nat_lit 1, zPne_isSign, zOne_isSign, zMne_isSign), (nat_lit 2, zPne_token1, zOne_token1, zMne_token1), (nat_lit 3, zPne_grooveLine, zOne_grooveLine, zMne_grooveLine), (nat_lit 4, zPne_scratLine, zOne_scratLine, zMne_scratLine), (nat_lit 5, zPne_guestLine, zOne_guestLine, zMne_guestLine), (nat_lit 6, zPne_onceLine0, zOne_onceLine0, zMne_onceLine0), (nat_lit 7, zPne_onceLine1, zOne_onceLine1, zMne_onceLine1), (nat_lit 8, zPne_onceLine2, zOne_onceLine2, zMne_onceLine2), (nat_lit 9, zPne_sumRead, zOne_sumRead, zMne_sumRead)]) (iv := zVne_lineRead) (po := [zOne_lineRead]) (pr := zPne_lineRead) (mods := zMne_lineRead) (D7 := zDne_lineRead) (D0 := zEne_lineRead) (Dm := zFne_lineRead) (f0 := 73) pCne_lineRead qCne_lineRead iCne_lineRead pPne_lineRead (fun xs η _ y η' => pQne_lineRead xs η y η') zX_low pr_mtR rfl (List.forall_mem_cons.mpr ⟨zne_wrong, List.forall_mem_cons.mpr ⟨zne_isSign, List.forall_mem_cons.mpr ⟨zne_token1, List.forall_mem_cons.mpr ⟨zne_grooveLine, List.forall_mem_cons.mpr ⟨zne_scratLine, List.forall_mem_cons.mpr ⟨zne_guestLine, List.forall_mem_cons.mpr ⟨zne_onceLine0, List.forall_mem_cons.mpr ⟨zne_onceLine1, List.forall_mem_cons.mpr ⟨zne_onceLine2, List.forall_mem_cons.mpr ⟨zne_sumRead, fun _ h => nomatch h⟩⟩⟩⟩⟩⟩⟩⟩⟩⟩) (by decide +kernel) (by decide +kernel) (by decide +kernel)
    (by
      intro xs η hr hl hp hpp
      match xs, hl, hp, hpp with
      | [], _, hp, hpp =>
        refine List.forall_mem_cons.mpr ⟨?_, List.forall_mem_cons.mpr ⟨?_, List.forall_mem_cons.mpr ⟨?_, List.forall_mem_cons.mpr ⟨?_, List.forall_mem_cons.mpr ⟨?_, List.forall_mem_cons.mpr ⟨?_, List.forall_mem_cons.mpr ⟨?_, List.forall_mem_cons.mpr ⟨?_, List.forall_mem_cons.mpr ⟨?_, List.forall_mem_cons.mpr ⟨?_, List.forall_mem_cons.mpr ⟨?_, List.forall_mem_cons.mpr ⟨?_, List.forall_mem_cons.mpr ⟨?_, List.forall_mem_cons.mpr ⟨?_, List.forall_mem_cons.mpr ⟨?_, List.forall_mem_cons.mpr ⟨?_, List.forall_mem_cons.mpr ⟨?_, List.forall_mem_cons.mpr ⟨?_, List.forall_mem_cons.mpr ⟨?_, List.forall_mem_cons.mpr ⟨?_, List.forall_mem_cons.mpr ⟨?_, List.forall_mem_cons.mpr ⟨?_, List.forall_mem_cons.mpr ⟨?_, List.forall_mem_cons.mpr ⟨?_, List.forall_mem_cons.mpr ⟨?_, List.forall_mem_cons.mpr ⟨?_, List.forall_mem_cons.mpr ⟨?_, List.forall_mem_cons.mpr ⟨?_, List.forall_mem_cons.mpr ⟨?_, List.forall_mem_cons.mpr ⟨?_, List.forall_mem_cons.mpr ⟨?_, List.forall_mem_cons.mpr ⟨?_, List.forall_mem_cons.mpr ⟨?_, List.forall_mem_cons.mpr ⟨?_, List.forall_mem_cons.mpr ⟨?_, List.forall_mem_cons.mpr ⟨?_, List.forall_mem_cons.mpr ⟨?_, List.forall_mem_cons.mpr ⟨?_, List.forall_mem_cons.mpr ⟨?_, List.forall_mem_cons.mpr ⟨?_, List.forall_mem_cons.mpr ⟨?_, List.forall_mem_cons.mpr ⟨?_, List.forall_mem_cons.mpr ⟨?_, List.forall_mem_cons.mpr ⟨?_, List.forall_mem_cons.mpr ⟨?_, List.forall_mem_cons.mpr ⟨?_, List.forall_mem_cons.mpr ⟨?_, List.forall_mem_cons.mpr ⟨?_, List.forall_mem_cons.mpr ⟨?_, List.forall_mem_cons.mpr ⟨?_, List.forall_mem_cons.mpr ⟨?_, List.forall_mem_cons.mpr ⟨?_, List.forall_mem_cons.mpr ⟨?_, List.forall_mem_cons.mpr ⟨?_, List.forall_mem_cons.mpr ⟨?_, List.forall_mem_cons.mpr ⟨?_, List.forall_mem_cons.mpr ⟨?_, List.forall_mem_cons.mpr ⟨?_, List.forall_mem_cons.mpr ⟨?_, List.forall_mem_cons.mpr ⟨?_, List.forall_mem_cons.mpr ⟨?_, List.forall_mem_cons.mpr ⟨?_, List.forall_mem_cons.mpr ⟨?_, List.forall_mem_cons.mpr ⟨?_, List.forall_mem_cons.mpr ⟨?_, List.forall_mem_cons.mpr ⟨?_, List.forall_mem_cons.mpr ⟨?_, List.forall_mem_cons.mpr ⟨?_, List.forall_mem_cons.mpr ⟨?_, List.forall_mem_cons.mpr ⟨?_, List.forall_mem_cons.mpr ⟨?_, List.forall_mem_cons.mpr ⟨?_, List.forall_mem_cons.mpr ⟨?_, List.forall_mem_cons.mpr ⟨?_, List.forall_mem_cons.mpr ⟨?_, List.forall_mem_cons.mpr ⟨?_, List.forall_mem_cons.mpr ⟨?_, List.forall_mem_cons.mpr ⟨?_, List.forall_mem_cons.mpr ⟨?_, List.forall_mem_cons.mpr ⟨?_, fun _ h => nomatch h⟩⟩⟩⟩⟩⟩⟩⟩⟩⟩⟩⟩⟩⟩⟩⟩⟩⟩⟩⟩⟩⟩⟩⟩⟩⟩⟩⟩⟩⟩⟩⟩⟩⟩⟩⟩⟩⟩⟩⟩⟩⟩⟩⟩⟩⟩⟩⟩⟩⟩⟩⟩⟩⟩⟩⟩⟩⟩⟩⟩⟩⟩⟩⟩⟩⟩⟩⟩⟩⟩⟩⟩⟩⟩⟩⟩⟩⟩⟩⟩
        · refine zden_L (n := 1) (ρ := [0]) rfl ?_
          show ∀ x1 : Int, x1 = η 0 (Int.toNat 8) → zok 0 x1 → (¬ x1 = 1) → ((gC2 wl_ne [(nat_lit 0, zPne_wrong, zOne_wrong, zMne_wrong), (nat_lit 1, zPne_isSign, zOne_isSign, zMne_isSign), (nat_lit 2, zPne_token1, zOne_token1, zMne_token1), (nat_lit 3, zPne_grooveLine, zOne_grooveLine, zMne_grooveLine), (nat_lit 4, zPne_scratLine, zOne_scratLine, zMne_scratLine), (nat_lit 5, zPne_guestLine, zOne_guestLine, zMne_guestLine), (nat_lit 6, zPne_onceLine0, zOne_onceLine0, zMne_onceLine0), (nat_lit 7, zPne_onceLine1, zOne_onceLine1, zMne_onceLine1), (nat_lit 8, zPne_onceLine2, zOne_onceLine2, zMne_onceLine2), (nat_lit 9, zPne_sumRead, zOne_sumRead, zMne_sumRead)] pCne_lineRead qCne_lineRead) 0).1 [1] η
          intro x1 e1 r1 c1
          exact hpp
        · refine zden_L (n := 1) (ρ := [0]) rfl ?_
          exact zne_lineRead_o0 (ro := ro)  η hp hpp
        · refine zden_L (n := 1) (ρ := [0]) rfl ?_
          exact zne_lineRead_o1 (ro := ro)  η hp hpp
        · refine zden_L (n := 1) (ρ := [0]) rfl ?_
          exact zne_lineRead_o2 (ro := ro)  η hp hpp
        · refine zden_L (n := 1) (ρ := [0]) rfl ?_
          exact zne_lineRead_o3 (ro := ro)  η hp hpp
        · refine zden_L (n := 1) (ρ := [0]) rfl ?_
          exact zne_lineRead_o4 (ro := ro)  η hp hpp
        · refine zden_L (n := 1) (ρ := [0]) rfl ?_
          exact zne_lineRead_o5 (ro := ro)  η hp hpp
        · refine zden_L (n := 1) (ρ := [0]) rfl ?_
          exact zne_lineRead_o6 (ro := ro)  η hp hpp
        · refine zden_L (n := 1) (ρ := [0]) rfl ?_
          exact zne_lineRead_o7 (ro := ro)  η hp hpp
        · refine zden_L (n := 1) (ρ := [0]) rfl ?_
          exact zne_lineRead_o8 (ro := ro)  η hp hpp
        · refine zden_L (n := 1) (ρ := [0]) rfl ?_
          exact zne_lineRead_o9 (ro := ro)  η hp hpp
        · refine zden_L (n := 1) (ρ := [0]) rfl ?_
          exact zne_lineRead_o10 (ro := ro)  η hp hpp
        · refine zden_L (n := 1) (ρ := [0]) rfl ?_
          exact zne_lineRead_o11 (ro := ro)  η hp hpp
        · refine zden_L (n := 1) (ρ := [0]) rfl ?_
          exact zne_lineRead_o12 (ro := ro)  η hp hpp
        · refine zden_L (n := 1) (ρ := [0]) rfl ?_
          exact zne_lineRead_o13 (ro := ro)  η hp hpp
        · refine zden_L (n := 1) (ρ := [0]) rfl ?_
          exact zne_lineRead_o14 (ro := ro)  η hp hpp
        · refine zden_L (n := 1) (ρ := [0]) rfl ?_
          exact zne_lineRead_o15 (ro := ro)  η hp hpp
        · refine zden_L (n := 1) (ρ := [0]) rfl ?_
          exact zne_lineRead_o16 (ro := ro)  η hp hpp
        · refine zden_L (n := 1) (ρ := [0]) rfl ?_
          exact zne_lineRead_o17 (ro := ro)  η hp hpp
        · refine zden_L (n := 1) (ρ := [0]) rfl ?_
          exact zne_lineRead_o18 (ro := ro)  η hp hpp
        · refine zden_L (n := 1) (ρ := [0]) rfl ?_
          exact zne_lineRead_o19 (ro := ro)  η hp hpp
        · refine zden_L (n := 1) (ρ := [0]) rfl ?_
          exact zne_lineRead_o20 (ro := ro)  η hp hpp
        · refine zden_L (n := 1) (ρ := [0]) rfl ?_
          exact zne_lineRead_o21 (ro := ro)  η hp hpp
        · refine zden_L (n := 1) (ρ := [0]) rfl ?_
          exact zne_lineRead_o22 (ro := ro)  η hp hpp
        · refine zden_L (n := 1) (ρ := [0]) rfl ?_
          exact zne_lineRead_o23 (ro := ro)  η hp hpp
        · refine zden_L (n := 1) (ρ := [0]) rfl ?_
          exact zne_lineRead_o24 (ro := ro)  η hp hpp
        · refine zden_L (n := 1) (ρ := [0]) rfl ?_
          exact zne_lineRead_o25 (ro := ro)  η hp hpp
        · refine zden_L (n := 1) (ρ := [0]) rfl ?_
          exact zne_lineRead_o26 (ro := ro)  η hp hpp
        · refine zden_L (n := 1) (ρ := [0]) rfl ?_
          exact zne_lineRead_o27 (ro := ro)  η hp hpp
        · refine zden_L (n := 1) (ρ := [0]) rfl ?_
          exact zne_lineRead_o28 (ro := ro)  η hp hpp
        · refine zden_L (n := 1) (ρ := [0]) rfl ?_
          exact zne_lineRead_o29 (ro := ro)  η hp hpp
        · refine zden_L (n := 1) (ρ := [0]) rfl ?_
          exact zne_lineRead_o30 (ro := ro)  η hp hpp
        · refine zden_L (n := 1) (ρ := [0]) rfl ?_
          exact zne_lineRead_o31 (ro := ro)  η hp hpp
        · refine zden_L (n := 1) (ρ := [0]) rfl ?_
          exact zne_lineRead_o32 (ro := ro)  η hp hpp
        · refine zden_L (n := 1) (ρ := [0]) rfl ?_
          exact zne_lineRead_o33 (ro := ro)  η hp hpp
        · refine zden_L (n := 1) (ρ := [0]) rfl ?_
          exact zne_lineRead_o34 (ro := ro)  η hp hpp
        · refine zden_L (n := 1) (ρ := [0]) rfl ?_
          exact zne_lineRead_o35 (ro := ro)  η hp hpp
        · refine zden_L (n := 1) (ρ := [0]) rfl ?_
          exact zne_lineRead_o36 (ro := ro)  η hp hpp
        · refine zden_L (n := 1) (ρ := [0]) rfl ?_
          exact zne_lineRead_o37 (ro := ro)  η hp hpp
        · refine zden_L (n := 1) (ρ := [0]) rfl ?_
          exact zne_lineRead_o38 (ro := ro)  η hp hpp
        · refine zden_L (n := 1) (ρ := [0]) rfl ?_
          exact zne_lineRead_o39 (ro := ro)  η hp hpp
        · refine zden_L (n := 1) (ρ := [0]) rfl ?_
          exact zne_lineRead_o40 (ro := ro)  η hp hpp
        · refine zden_L (n := 1) (ρ := [0]) rfl ?_
          exact zne_lineRead_o41 (ro := ro)  η hp hpp
        · refine zden_L (n := 1) (ρ := [0]) rfl ?_
          exact zne_lineRead_o42 (ro := ro)  η hp hpp
        · refine zden_L (n := 1) (ρ := [0]) rfl ?_
          exact zne_lineRead_o43 (ro := ro)  η hp hpp
        · refine zden_L (n := 1) (ρ := [0]) rfl ?_
          exact zne_lineRead_o44 (ro := ro)  η hp hpp
        · refine zden_L (n := 1) (ρ := [0]) rfl ?_
          exact zne_lineRead_o45 (ro := ro)  η hp hpp
        · refine zden_L (n := 1) (ρ := [0]) rfl ?_
          exact zne_lineRead_o46 (ro := ro)  η hp hpp
        · refine zden_L (n := 1) (ρ := [0]) rfl ?_
          exact zne_lineRead_o47 (ro := ro)  η hp hpp
        · refine zden_L (n := 1) (ρ := [0]) rfl ?_
          exact zne_lineRead_o48 (ro := ro)  η hp hpp
        · refine zden_L (n := 1) (ρ := [0]) rfl ?_
          exact zne_lineRead_o49 (ro := ro)  η hp hpp
        · refine zden_L (n := 1) (ρ := [0]) rfl ?_
          exact zne_lineRead_o50 (ro := ro)  η hp hpp
        · refine zden_L (n := 1) (ρ := [0]) rfl ?_
          exact zne_lineRead_o51 (ro := ro)  η hp hpp
        · refine zden_L (n := 1) (ρ := [0]) rfl ?_
          exact zne_lineRead_o52 (ro := ro)  η hp hpp
        · refine zden_L (n := 1) (ρ := [0]) rfl ?_
          exact zne_lineRead_o53 (ro := ro)  η hp hpp
        · refine zden_L (n := 1) (ρ := [0]) rfl ?_
          exact zne_lineRead_o54 (ro := ro)  η hp hpp
        · refine zden_L (n := 1) (ρ := [0]) rfl ?_
          exact zne_lineRead_o55 (ro := ro)  η hp hpp
        · refine zden_L (n := 1) (ρ := [0]) rfl ?_
          exact zne_lineRead_o56 (ro := ro)  η hp hpp
        · refine zden_L (n := 1) (ρ := [0]) rfl ?_
          exact zne_lineRead_o57 (ro := ro)  η hp hpp
        · refine zden_L (n := 1) (ρ := [0]) rfl ?_
          exact zne_lineRead_o58 (ro := ro)  η hp hpp
        · refine zden_L (n := 1) (ρ := [0]) rfl ?_
          exact zne_lineRead_o59 (ro := ro)  η hp hpp
        · refine zden_L (n := 1) (ρ := [0]) rfl ?_
          exact zne_lineRead_o60 (ro := ro)  η hp hpp
        · refine zden_L (n := 1) (ρ := [0]) rfl ?_
          exact zne_lineRead_o61 (ro := ro)  η hp hpp
        · refine zden_L (n := 1) (ρ := [0]) rfl ?_
          exact zne_lineRead_o62 (ro := ro)  η hp hpp
        · refine zden_L (n := 1) (ρ := [0]) rfl ?_
          exact zne_lineRead_o63 (ro := ro)  η hp hpp
        · refine zden_L (n := 1) (ρ := [0]) rfl ?_
          exact zne_lineRead_o64 (ro := ro)  η hp hpp
        · refine zden_L (n := 1) (ρ := [0]) rfl ?_
          exact zne_lineRead_o65 (ro := ro)  η hp hpp
        · refine zden_L (n := 1) (ρ := [0]) rfl ?_
          exact zne_lineRead_o66 (ro := ro)  η hp hpp
        · refine zden_L (n := 1) (ρ := [0]) rfl ?_
          exact zne_lineRead_o67 (ro := ro)  η hp hpp
        · refine zden_L (n := 1) (ρ := [0]) rfl ?_
          exact zne_lineRead_o68 (ro := ro)  η hp hpp
        · refine zden_L (n := 1) (ρ := [0]) rfl ?_
          exact zne_lineRead_o69 (ro := ro)  η hp hpp
        · refine zden_L (n := 1) (ρ := [0]) rfl ?_
          exact zne_lineRead_o70 (ro := ro)  η hp hpp
        · refine zden_L (n := 1) (ρ := [0]) rfl ?_
          exact zne_lineRead_o71 (ro := ro)  η hp hpp
        · refine zden_L (n := 1) (ρ := [0]) rfl ?_
          exact zne_lineRead_o72 (ro := ro)  η hp hpp
        · refine zden_L (n := 1) (ρ := [0]) rfl ?_
          exact zne_lineRead_o73 (ro := ro)  η hp hpp
        · refine zden_L (n := 1) (ρ := [0]) rfl ?_
          exact zne_lineRead_o74 (ro := ro)  η hp hpp
        · refine zden_L (n := 1) (ρ := [0]) rfl ?_
          exact zne_lineRead_o75 (ro := ro)  η hp hpp
        · refine zden_L (n := 1) (ρ := [0]) rfl ?_
          exact zne_lineRead_o76 (ro := ro)  η hp hpp
        · refine zden_L (n := 1) (ρ := [0]) rfl ?_
          show ∀ x1 : Int, x1 = η 0 (Int.toNat 8) → zok 0 x1 → (x1 = 1) → ∀ x2 : Int, x2 = η 0 (Int.toNat 9) → zok 0 x2 → (6 < x2) → ((gC2 wl_ne [(nat_lit 0, zPne_wrong, zOne_wrong, zMne_wrong), (nat_lit 1, zPne_isSign, zOne_isSign, zMne_isSign), (nat_lit 2, zPne_token1, zOne_token1, zMne_token1), (nat_lit 3, zPne_grooveLine, zOne_grooveLine, zMne_grooveLine), (nat_lit 4, zPne_scratLine, zOne_scratLine, zMne_scratLine), (nat_lit 5, zPne_guestLine, zOne_guestLine, zMne_guestLine), (nat_lit 6, zPne_onceLine0, zOne_onceLine0, zMne_onceLine0), (nat_lit 7, zPne_onceLine1, zOne_onceLine1, zMne_onceLine1), (nat_lit 8, zPne_onceLine2, zOne_onceLine2, zMne_onceLine2), (nat_lit 9, zPne_sumRead, zOne_sumRead, zMne_sumRead)] pCne_lineRead qCne_lineRead) 0).1 [1] η
          intro x1 e1 r1 c1 x2 e2 r2 c2
          exact hpp
        · refine zden_L (n := 1) (ρ := [0]) rfl ?_
          exact zne_lineRead_o77 (ro := ro)  η hp hpp
      )
    (fun _ _ _ _ _ _ _ h => nomatch h)
    (fun _ h => nomatch h))
