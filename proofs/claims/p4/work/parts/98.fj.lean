set_option maxHeartbeats 8000000 in
theorem zn_lineRead_o54 {ro : Nat → List Int32} (η : zE) (hp : sP wl_n zTr zPn_lineRead [] η) (hpp : pPn_lineRead [] η) : ∀ x1 : Int, x1 = η 0 (Int.toNat 8) → zok 0 x1 → (x1 = 1) → ∀ x2 : Int, x2 = η 0 (Int.toNat 9) → zok 0 x2 → (x2 ≤ 6) → ∀ x3 : Int, x3 = η 0 (Int.toNat 9) → zok 0 x3 → (x3 = 2) → ∀ (x4 : Int) (η1 : zE), ((gC2 wl_n [(nat_lit 0, zPn_wrong, zOn_wrong, zMn_wrong), (nat_lit 1, zPn_isSign, zOn_isSign, zMn_isSign), (nat_lit 2, zPn_token1, zOn_token1, zMn_token1), (nat_lit 3, zPn_grooveLine, zOn_grooveLine, zMn_grooveLine), (nat_lit 4, zPn_scratLine, zOn_scratLine, zMn_scratLine), (nat_lit 5, zPn_guestLine, zOn_guestLine, zMn_guestLine), (nat_lit 6, zPn_onceLine0, zOn_onceLine0, zMn_onceLine0), (nat_lit 7, zPn_onceLine1, zOn_onceLine1, zMn_onceLine1), (nat_lit 8, zPn_onceLine2, zOn_onceLine2, zMn_onceLine2), (nat_lit 9, zPn_sumRead, zOn_sumRead, zMn_sumRead)] pCn_lineRead qCn_lineRead) 5).2 [] η x4 η1 → (¬ x4 = 0) → ∀ (x5 : Int) (η2 : zE), ((gC2 wl_n [(nat_lit 0, zPn_wrong, zOn_wrong, zMn_wrong), (nat_lit 1, zPn_isSign, zOn_isSign, zMn_isSign), (nat_lit 2, zPn_token1, zOn_token1, zMn_token1), (nat_lit 3, zPn_grooveLine, zOn_grooveLine, zMn_grooveLine), (nat_lit 4, zPn_scratLine, zOn_scratLine, zMn_scratLine), (nat_lit 5, zPn_guestLine, zOn_guestLine, zMn_guestLine), (nat_lit 6, zPn_onceLine0, zOn_onceLine0, zMn_onceLine0), (nat_lit 7, zPn_onceLine1, zOn_onceLine1, zMn_onceLine1), (nat_lit 8, zPn_onceLine2, zOn_onceLine2, zMn_onceLine2), (nat_lit 9, zPn_sumRead, zOn_sumRead, zMn_sumRead)] pCn_lineRead qCn_lineRead) 1).2 [59] η1 x5 η2 → (x5 = 0) → ∀ (x6 : Int) (η3 : zE), ((gC2 wl_n [(nat_lit 0, zPn_wrong, zOn_wrong, zMn_wrong), (nat_lit 1, zPn_isSign, zOn_isSign, zMn_isSign), (nat_lit 2, zPn_token1, zOn_token1, zMn_token1), (nat_lit 3, zPn_grooveLine, zOn_grooveLine, zMn_grooveLine), (nat_lit 4, zPn_scratLine, zOn_scratLine, zMn_scratLine), (nat_lit 5, zPn_guestLine, zOn_guestLine, zMn_guestLine), (nat_lit 6, zPn_onceLine0, zOn_onceLine0, zMn_onceLine0), (nat_lit 7, zPn_onceLine1, zOn_onceLine1, zMn_onceLine1), (nat_lit 8, zPn_onceLine2, zOn_onceLine2, zMn_onceLine2), (nat_lit 9, zPn_sumRead, zOn_sumRead, zMn_sumRead)] pCn_lineRead qCn_lineRead) 0).2 [1] η2 x6 η3 → (fun (_ : Nat) (y : Int) (η' : zE) => pQn_lineRead [] η y η') 0 x6 η3 := by
  intro x1 e1 r1 c1 x2 e2 r2 c2 x3 e3 r3 c3 x4 η1 h4 c4 x5 η2 h5 c5 x6 η3 h6
  have k4 : sQ wl_n zTr zOn_guestLine zMn_guestLine [] η x4 η1 ∧ pQn_guestLine [] η x4 η1 := h4
  have k5 : sQ wl_n zTr zOn_isSign zMn_isSign [59] η1 x5 η2 ∧ pQn_isSign [59] η1 x5 η2 := h5
  have k6 : sQ wl_n zTr zOn_wrong zMn_wrong [1] η2 x6 η3 ∧ pQn_wrong [1] η2 x6 η3 := h6
  have w0_0_8 : (0 : Int) ≤ η 0 8 ∧ η 0 8 ≤ 6 := wf_ok (a := 8) (b := 8) (z := (0, 6)) hp.1 (by decide +kernel) (Nat.le_refl _) (Nat.le_refl _)
  replace e1 : x1 = η 0 8 := e1
  replace e2 : x2 = η 0 9 := e2
  replace r2 : -2147483648 ≤ x2 ∧ x2 ≤ 2147483647 := r2
  replace e3 : x3 = η 0 9 := e3
  replace r3 : -2147483648 ≤ x3 ∧ x3 ≤ 2147483647 := r3
  have w0_0_7 : (0 : Int) ≤ η 0 7 ∧ η 0 7 ≤ 700 := wf_ok (a := 7) (b := 7) (z := (0, 700)) hp.1 (by decide +kernel) (Nat.le_refl _) (Nat.le_refl _)
  have c0_0_7 : η 0 7 = η 0 7 := rfl
  have w0_0_6 : (0 : Int) ≤ η 0 6 ∧ η 0 6 ≤ 700 := wf_ok (a := 6) (b := 6) (z := (0, 700)) hp.1 (by decide +kernel) (Nat.le_refl _) (Nat.le_refl _)
  have c0_0_6 : η 0 6 = η 0 6 := rfl
  have c0_0_8 : η 0 8 = η 0 8 := rfl
  have w0_0_19 : (0 : Int) ≤ η 0 19 ∧ η 0 19 ≤ 64 := wf_ok (a := 19) (b := 19) (z := (0, 64)) hp.1 (by decide +kernel) (Nat.le_refl _) (Nat.le_refl _)
  have c0_0_19 : η 0 19 = η 0 19 := rfl
  have w0_0_44 : (0 : Int) ≤ η 0 44 ∧ η 0 44 ≤ 64 := wf_ok (a := 44) (b := 44) (z := (0, 64)) hp.1 (by decide +kernel) (Nat.le_refl _) (Nat.le_refl _)
  have c0_0_44 : η 0 44 = η 0 44 := rfl
  have bx4 : (0 : Int) ≤ x4 ∧ x4 ≤ 1 := k4.1.2.1
  have w1_0_7 : (0 : Int) ≤ η1 0 7 ∧ η1 0 7 ≤ 700 := wf_ok (a := 7) (b := 7) (z := (0, 700)) k4.1.1 (by decide +kernel) (Nat.le_refl _) (Nat.le_refl _)
  have d1_0_7 : η1 0 7 = η1 0 7 := rfl
  have v7 : zEq (η1 0 6) (η 0 6) := (k4.1.2.2.2.1 0 6 (by decide +kernel)).trans rfl
  have d1_0_6 : η1 0 6 = η 0 6 := v7
  have w1_0_8 : (0 : Int) ≤ η1 0 8 ∧ η1 0 8 ≤ 6 := wf_ok (a := 8) (b := 8) (z := (0, 6)) k4.1.1 (by decide +kernel) (Nat.le_refl _) (Nat.le_refl _)
  have d1_0_8 : η1 0 8 = η1 0 8 := rfl
  have v9 : zEq (η1 0 19) (η 0 19) := (k4.1.2.2.2.1 0 19 (by decide +kernel)).trans rfl
  have d1_0_19 : η1 0 19 = η 0 19 := v9
  have v10 : zEq (η1 0 44) (η 0 44) := (k4.1.2.2.2.1 0 44 (by decide +kernel)).trans rfl
  have d1_0_44 : η1 0 44 = η 0 44 := v10
  have c1_0_7 : η1 0 7 = η1 0 7 := rfl
  have c1_0_6 : η1 0 6 = η 0 6 := v7
  have c1_0_8 : η1 0 8 = η1 0 8 := rfl
  have c1_0_19 : η1 0 19 = η 0 19 := v9
  have c1_0_44 : η1 0 44 = η 0 44 := v10
  have bx5 : (0 : Int) ≤ x5 ∧ x5 ≤ 1 := k5.1.2.1
  have v11 : zEq (η2 0 7) (η1 0 7) := (k5.1.2.2.2.1 0 7 (by decide +kernel)).trans rfl
  have d2_0_7 : η2 0 7 = η1 0 7 := v11
  have v12 : zEq (η2 0 6) (η 0 6) := (k5.1.2.2.2.1 0 6 (by decide +kernel)).trans v7
  have d2_0_6 : η2 0 6 = η 0 6 := v12
  have v13 : zEq (η2 0 8) (η1 0 8) := (k5.1.2.2.2.1 0 8 (by decide +kernel)).trans rfl
  have d2_0_8 : η2 0 8 = η1 0 8 := v13
  have v14 : zEq (η2 0 19) (η 0 19) := (k5.1.2.2.2.1 0 19 (by decide +kernel)).trans v9
  have d2_0_19 : η2 0 19 = η 0 19 := v14
  have v15 : zEq (η2 0 44) (η 0 44) := (k5.1.2.2.2.1 0 44 (by decide +kernel)).trans v10
  have d2_0_44 : η2 0 44 = η 0 44 := v15
  have c2_0_7 : η2 0 7 = η1 0 7 := v11
  have c2_0_6 : η2 0 6 = η 0 6 := v12
  have c2_0_8 : η2 0 8 = η1 0 8 := v13
  have c2_0_19 : η2 0 19 = η 0 19 := v14
  have c2_0_44 : η2 0 44 = η 0 44 := v15
  have bx6 : (0 : Int) ≤ x6 ∧ x6 ≤ 0 := k6.1.2.1
  have v16 : zEq (η3 0 7) (η1 0 7) := (k6.1.2.2.2.1 0 7 (by decide +kernel)).trans v11
  have d3_0_7 : η3 0 7 = η1 0 7 := v16
  have v17 : zEq (η3 0 6) (η 0 6) := (k6.1.2.2.2.1 0 6 (by decide +kernel)).trans v12
  have d3_0_6 : η3 0 6 = η 0 6 := v17
  have v18 : zEq (η3 0 8) (η1 0 8) := (k6.1.2.2.2.1 0 8 (by decide +kernel)).trans v13
  have d3_0_8 : η3 0 8 = η1 0 8 := v18
  have v19 : zEq (η3 0 19) (η 0 19) := (k6.1.2.2.2.1 0 19 (by decide +kernel)).trans v14
  have d3_0_19 : η3 0 19 = η 0 19 := v19
  have v20 : zEq (η3 0 44) (η 0 44) := (k6.1.2.2.2.1 0 44 (by decide +kernel)).trans v15
  have d3_0_44 : η3 0 44 = η 0 44 := v20
  have fr16_0 : ∀ j, η 16 j = η 16 j := fun _ => rfl
  have v21 : ∀ j, η1 16 j = η 16 j := fun j => k4.1.2.2.2.1 16 _ (zinr_not (by decide +kernel))
  have fr16_1 : ∀ j, η1 16 j = η 16 j := v21
  have v22 : ∀ j, η2 16 j = η 16 j := fun j => (k5.1.2.2.2.1 16 _ (zinr_not (by decide +kernel))).trans (v21 j)
  have fr16_2 : ∀ j, η2 16 j = η 16 j := v22
  have v23 : ∀ j, η3 16 j = η 16 j := fun j => (k6.1.2.2.2.1 16 _ (zinr_not (by decide +kernel))).trans (v22 j)
  have fr16_3 : ∀ j, η3 16 j = η 16 j := v23
  have fr18_0 : ∀ j, η 18 j = η 18 j := fun _ => rfl
  have v24 : ∀ j, η1 18 j = η 18 j := fun j => k4.1.2.2.2.1 18 _ (zinr_not (by decide +kernel))
  have fr18_1 : ∀ j, η1 18 j = η 18 j := v24
  have v25 : ∀ j, η2 18 j = η 18 j := fun j => (k5.1.2.2.2.1 18 _ (zinr_not (by decide +kernel))).trans (v24 j)
  have fr18_2 : ∀ j, η2 18 j = η 18 j := v25
  have v26 : ∀ j, η3 18 j = η 18 j := fun j => (k6.1.2.2.2.1 18 _ (zinr_not (by decide +kernel))).trans (v25 j)
  have fr18_3 : ∀ j, η3 18 j = η 18 j := v26
  have f0_7 : η3 0 7 = η1 0 7 := v16
  have f0_6 : η3 0 6 = η 0 6 := v17
  have f0_8 : η3 0 8 = η1 0 8 := v18
  have f0_19 : η3 0 19 = η 0 19 := v19
  have f0_44 : η3 0 44 = η 0 44 := v20
  have qn4 : ¬ x4 = 0 → 10 * (η1 0 6 - η1 0 7) + η1 0 8 < 10 * (η 0 6 - η 0 7) + η 0 8 := k4.2.2
  have qs5 : ¬ x5 = 0 → η1 0 8 = 4 := k5.2.2
  exact ⟨k6.2.1.1, pl_d (k6.2.2) (by decide), fun w => absurd (show (x6 : Int) = 0 by apply Int.le_antisymm <;> omega) w⟩
set_option maxHeartbeats 8000000 in
theorem zn_lineRead_o55 {ro : Nat → List Int32} (η : zE) (hp : sP wl_n zTr zPn_lineRead [] η) (hpp : pPn_lineRead [] η) : ∀ x1 : Int, x1 = η 0 (Int.toNat 8) → zok 0 x1 → (x1 = 1) → ∀ x2 : Int, x2 = η 0 (Int.toNat 9) → zok 0 x2 → (x2 ≤ 6) → ∀ x3 : Int, x3 = η 0 (Int.toNat 9) → zok 0 x3 → (x3 = 2) → ∀ (x4 : Int) (η1 : zE), ((gC2 wl_n [(nat_lit 0, zPn_wrong, zOn_wrong, zMn_wrong), (nat_lit 1, zPn_isSign, zOn_isSign, zMn_isSign), (nat_lit 2, zPn_token1, zOn_token1, zMn_token1), (nat_lit 3, zPn_grooveLine, zOn_grooveLine, zMn_grooveLine), (nat_lit 4, zPn_scratLine, zOn_scratLine, zMn_scratLine), (nat_lit 5, zPn_guestLine, zOn_guestLine, zMn_guestLine), (nat_lit 6, zPn_onceLine0, zOn_onceLine0, zMn_onceLine0), (nat_lit 7, zPn_onceLine1, zOn_onceLine1, zMn_onceLine1), (nat_lit 8, zPn_onceLine2, zOn_onceLine2, zMn_onceLine2), (nat_lit 9, zPn_sumRead, zOn_sumRead, zMn_sumRead)] pCn_lineRead qCn_lineRead) 5).2 [] η x4 η1 → (x4 = 0) → (fun (_ : Nat) (y : Int) (η' : zE) => pQn_lineRead [] η y η') 0 0 η1 := by
  intro x1 e1 r1 c1 x2 e2 r2 c2 x3 e3 r3 c3 x4 η1 h4 c4
  have k4 : sQ wl_n zTr zOn_guestLine zMn_guestLine [] η x4 η1 ∧ pQn_guestLine [] η x4 η1 := h4
  have w0_0_8 : (0 : Int) ≤ η 0 8 ∧ η 0 8 ≤ 6 := wf_ok (a := 8) (b := 8) (z := (0, 6)) hp.1 (by decide +kernel) (Nat.le_refl _) (Nat.le_refl _)
  replace e1 : x1 = η 0 8 := e1
  replace e2 : x2 = η 0 9 := e2
  replace r2 : -2147483648 ≤ x2 ∧ x2 ≤ 2147483647 := r2
  replace e3 : x3 = η 0 9 := e3
  replace r3 : -2147483648 ≤ x3 ∧ x3 ≤ 2147483647 := r3
  have w0_0_7 : (0 : Int) ≤ η 0 7 ∧ η 0 7 ≤ 700 := wf_ok (a := 7) (b := 7) (z := (0, 700)) hp.1 (by decide +kernel) (Nat.le_refl _) (Nat.le_refl _)
  have c0_0_7 : η 0 7 = η 0 7 := rfl
  have w0_0_6 : (0 : Int) ≤ η 0 6 ∧ η 0 6 ≤ 700 := wf_ok (a := 6) (b := 6) (z := (0, 700)) hp.1 (by decide +kernel) (Nat.le_refl _) (Nat.le_refl _)
  have c0_0_6 : η 0 6 = η 0 6 := rfl
  have c0_0_8 : η 0 8 = η 0 8 := rfl
  have w0_0_19 : (0 : Int) ≤ η 0 19 ∧ η 0 19 ≤ 64 := wf_ok (a := 19) (b := 19) (z := (0, 64)) hp.1 (by decide +kernel) (Nat.le_refl _) (Nat.le_refl _)
  have c0_0_19 : η 0 19 = η 0 19 := rfl
  have w0_0_44 : (0 : Int) ≤ η 0 44 ∧ η 0 44 ≤ 64 := wf_ok (a := 44) (b := 44) (z := (0, 64)) hp.1 (by decide +kernel) (Nat.le_refl _) (Nat.le_refl _)
  have c0_0_44 : η 0 44 = η 0 44 := rfl
  have bx4 : (0 : Int) ≤ x4 ∧ x4 ≤ 1 := k4.1.2.1
  have w1_0_7 : (0 : Int) ≤ η1 0 7 ∧ η1 0 7 ≤ 700 := wf_ok (a := 7) (b := 7) (z := (0, 700)) k4.1.1 (by decide +kernel) (Nat.le_refl _) (Nat.le_refl _)
  have d1_0_7 : η1 0 7 = η1 0 7 := rfl
  have v7 : zEq (η1 0 6) (η 0 6) := (k4.1.2.2.2.1 0 6 (by decide +kernel)).trans rfl
  have d1_0_6 : η1 0 6 = η 0 6 := v7
  have w1_0_8 : (0 : Int) ≤ η1 0 8 ∧ η1 0 8 ≤ 6 := wf_ok (a := 8) (b := 8) (z := (0, 6)) k4.1.1 (by decide +kernel) (Nat.le_refl _) (Nat.le_refl _)
  have d1_0_8 : η1 0 8 = η1 0 8 := rfl
  have v9 : zEq (η1 0 19) (η 0 19) := (k4.1.2.2.2.1 0 19 (by decide +kernel)).trans rfl
  have d1_0_19 : η1 0 19 = η 0 19 := v9
  have v10 : zEq (η1 0 44) (η 0 44) := (k4.1.2.2.2.1 0 44 (by decide +kernel)).trans rfl
  have d1_0_44 : η1 0 44 = η 0 44 := v10
  have fr16_0 : ∀ j, η 16 j = η 16 j := fun _ => rfl
  have v11 : ∀ j, η1 16 j = η 16 j := fun j => k4.1.2.2.2.1 16 _ (zinr_not (by decide +kernel))
  have fr16_1 : ∀ j, η1 16 j = η 16 j := v11
  have fr18_0 : ∀ j, η 18 j = η 18 j := fun _ => rfl
  have v12 : ∀ j, η1 18 j = η 18 j := fun j => k4.1.2.2.2.1 18 _ (zinr_not (by decide +kernel))
  have fr18_1 : ∀ j, η1 18 j = η 18 j := v12
  have f0_7 : η1 0 7 = η1 0 7 := rfl
  have f0_6 : η1 0 6 = η 0 6 := v7
  have f0_8 : η1 0 8 = η1 0 8 := rfl
  have f0_19 : η1 0 19 = η 0 19 := v9
  have f0_44 : η1 0 44 = η 0 44 := v10
  have qn4 : ¬ x4 = 0 → 10 * (η1 0 6 - η1 0 7) + η1 0 8 < 10 * (η 0 6 - η 0 7) + η 0 8 := k4.2.2
  exact ⟨k4.2.1.1.1, pl_d (k4.2.1.2) (by decide), fun w => absurd (show (0 : Int) = 0 by apply Int.le_antisymm <;> omega) w⟩
set_option maxHeartbeats 8000000 in
theorem zn_lineRead_o56 {ro : Nat → List Int32} (η : zE) (hp : sP wl_n zTr zPn_lineRead [] η) (hpp : pPn_lineRead [] η) : ∀ x1 : Int, x1 = η 0 (Int.toNat 8) → zok 0 x1 → (x1 = 1) → ∀ x2 : Int, x2 = η 0 (Int.toNat 9) → zok 0 x2 → (x2 ≤ 6) → ∀ x3 : Int, x3 = η 0 (Int.toNat 9) → zok 0 x3 → (x3 = 3) → ((gC2 wl_n [(nat_lit 0, zPn_wrong, zOn_wrong, zMn_wrong), (nat_lit 1, zPn_isSign, zOn_isSign, zMn_isSign), (nat_lit 2, zPn_token1, zOn_token1, zMn_token1), (nat_lit 3, zPn_grooveLine, zOn_grooveLine, zMn_grooveLine), (nat_lit 4, zPn_scratLine, zOn_scratLine, zMn_scratLine), (nat_lit 5, zPn_guestLine, zOn_guestLine, zMn_guestLine), (nat_lit 6, zPn_onceLine0, zOn_onceLine0, zMn_onceLine0), (nat_lit 7, zPn_onceLine1, zOn_onceLine1, zMn_onceLine1), (nat_lit 8, zPn_onceLine2, zOn_onceLine2, zMn_onceLine2), (nat_lit 9, zPn_sumRead, zOn_sumRead, zMn_sumRead)] pCn_lineRead qCn_lineRead) 6).1 [] η := by
  intro x1 e1 r1 c1 x2 e2 r2 c2 x3 e3 r3 c3
  have w0_0_8 : (0 : Int) ≤ η 0 8 ∧ η 0 8 ≤ 6 := wf_ok (a := 8) (b := 8) (z := (0, 6)) hp.1 (by decide +kernel) (Nat.le_refl _) (Nat.le_refl _)
  replace e1 : x1 = η 0 8 := e1
  replace e2 : x2 = η 0 9 := e2
  replace r2 : -2147483648 ≤ x2 ∧ x2 ≤ 2147483647 := r2
  replace e3 : x3 = η 0 9 := e3
  replace r3 : -2147483648 ≤ x3 ∧ x3 ≤ 2147483647 := r3
  have fr16_0 : ∀ j, η 16 j = η 16 j := fun _ => rfl
  have fr18_0 : ∀ j, η 18 j = η 18 j := fun _ => rfl
  have w0_0_7 : (0 : Int) ≤ η 0 7 ∧ η 0 7 ≤ 700 := wf_ok (a := 7) (b := 7) (z := (0, 700)) hp.1 (by decide +kernel) (Nat.le_refl _) (Nat.le_refl _)
  have f0_7 : η 0 7 = η 0 7 := rfl
  have w0_0_6 : (0 : Int) ≤ η 0 6 ∧ η 0 6 ≤ 700 := wf_ok (a := 6) (b := 6) (z := (0, 700)) hp.1 (by decide +kernel) (Nat.le_refl _) (Nat.le_refl _)
  have f0_6 : η 0 6 = η 0 6 := rfl
  have f0_8 : η 0 8 = η 0 8 := rfl
  have w0_0_19 : (0 : Int) ≤ η 0 19 ∧ η 0 19 ≤ 64 := wf_ok (a := 19) (b := 19) (z := (0, 64)) hp.1 (by decide +kernel) (Nat.le_refl _) (Nat.le_refl _)
  have f0_19 : η 0 19 = η 0 19 := rfl
  have w0_0_44 : (0 : Int) ≤ η 0 44 ∧ η 0 44 ≤ 64 := wf_ok (a := 44) (b := 44) (z := (0, 64)) hp.1 (by decide +kernel) (Nat.le_refl _) (Nat.le_refl _)
  have f0_44 : η 0 44 = η 0 44 := rfl
  exact ⟨⟨hpp.1, hpp.2⟩, show ¬ η 0 8 = 0 by omega⟩
set_option maxHeartbeats 8000000 in
theorem zn_lineRead_o57 {ro : Nat → List Int32} (η : zE) (hp : sP wl_n zTr zPn_lineRead [] η) (hpp : pPn_lineRead [] η) : ∀ x1 : Int, x1 = η 0 (Int.toNat 8) → zok 0 x1 → (x1 = 1) → ∀ x2 : Int, x2 = η 0 (Int.toNat 9) → zok 0 x2 → (x2 ≤ 6) → ∀ x3 : Int, x3 = η 0 (Int.toNat 9) → zok 0 x3 → (x3 = 3) → ∀ (x4 : Int) (η1 : zE), ((gC2 wl_n [(nat_lit 0, zPn_wrong, zOn_wrong, zMn_wrong), (nat_lit 1, zPn_isSign, zOn_isSign, zMn_isSign), (nat_lit 2, zPn_token1, zOn_token1, zMn_token1), (nat_lit 3, zPn_grooveLine, zOn_grooveLine, zMn_grooveLine), (nat_lit 4, zPn_scratLine, zOn_scratLine, zMn_scratLine), (nat_lit 5, zPn_guestLine, zOn_guestLine, zMn_guestLine), (nat_lit 6, zPn_onceLine0, zOn_onceLine0, zMn_onceLine0), (nat_lit 7, zPn_onceLine1, zOn_onceLine1, zMn_onceLine1), (nat_lit 8, zPn_onceLine2, zOn_onceLine2, zMn_onceLine2), (nat_lit 9, zPn_sumRead, zOn_sumRead, zMn_sumRead)] pCn_lineRead qCn_lineRead) 6).2 [] η x4 η1 → (¬ x4 = 0) → ((gC2 wl_n [(nat_lit 0, zPn_wrong, zOn_wrong, zMn_wrong), (nat_lit 1, zPn_isSign, zOn_isSign, zMn_isSign), (nat_lit 2, zPn_token1, zOn_token1, zMn_token1), (nat_lit 3, zPn_grooveLine, zOn_grooveLine, zMn_grooveLine), (nat_lit 4, zPn_scratLine, zOn_scratLine, zMn_scratLine), (nat_lit 5, zPn_guestLine, zOn_guestLine, zMn_guestLine), (nat_lit 6, zPn_onceLine0, zOn_onceLine0, zMn_onceLine0), (nat_lit 7, zPn_onceLine1, zOn_onceLine1, zMn_onceLine1), (nat_lit 8, zPn_onceLine2, zOn_onceLine2, zMn_onceLine2), (nat_lit 9, zPn_sumRead, zOn_sumRead, zMn_sumRead)] pCn_lineRead qCn_lineRead) 1).1 [59] η1 := by
  intro x1 e1 r1 c1 x2 e2 r2 c2 x3 e3 r3 c3 x4 η1 h4 c4
  have k4 : sQ wl_n zTr zOn_onceLine0 zMn_onceLine0 [] η x4 η1 ∧ pQn_onceLine0 [] η x4 η1 := h4
  have w0_0_8 : (0 : Int) ≤ η 0 8 ∧ η 0 8 ≤ 6 := wf_ok (a := 8) (b := 8) (z := (0, 6)) hp.1 (by decide +kernel) (Nat.le_refl _) (Nat.le_refl _)
  replace e1 : x1 = η 0 8 := e1
  replace e2 : x2 = η 0 9 := e2
  replace r2 : -2147483648 ≤ x2 ∧ x2 ≤ 2147483647 := r2
  replace e3 : x3 = η 0 9 := e3
  replace r3 : -2147483648 ≤ x3 ∧ x3 ≤ 2147483647 := r3
  have w0_0_7 : (0 : Int) ≤ η 0 7 ∧ η 0 7 ≤ 700 := wf_ok (a := 7) (b := 7) (z := (0, 700)) hp.1 (by decide +kernel) (Nat.le_refl _) (Nat.le_refl _)
  have c0_0_7 : η 0 7 = η 0 7 := rfl
  have w0_0_6 : (0 : Int) ≤ η 0 6 ∧ η 0 6 ≤ 700 := wf_ok (a := 6) (b := 6) (z := (0, 700)) hp.1 (by decide +kernel) (Nat.le_refl _) (Nat.le_refl _)
  have c0_0_6 : η 0 6 = η 0 6 := rfl
  have c0_0_8 : η 0 8 = η 0 8 := rfl
  have w0_0_19 : (0 : Int) ≤ η 0 19 ∧ η 0 19 ≤ 64 := wf_ok (a := 19) (b := 19) (z := (0, 64)) hp.1 (by decide +kernel) (Nat.le_refl _) (Nat.le_refl _)
  have c0_0_19 : η 0 19 = η 0 19 := rfl
  have w0_0_44 : (0 : Int) ≤ η 0 44 ∧ η 0 44 ≤ 64 := wf_ok (a := 44) (b := 44) (z := (0, 64)) hp.1 (by decide +kernel) (Nat.le_refl _) (Nat.le_refl _)
  have c0_0_44 : η 0 44 = η 0 44 := rfl
  have bx4 : (0 : Int) ≤ x4 ∧ x4 ≤ 1 := k4.1.2.1
  have w1_0_7 : (0 : Int) ≤ η1 0 7 ∧ η1 0 7 ≤ 700 := wf_ok (a := 7) (b := 7) (z := (0, 700)) k4.1.1 (by decide +kernel) (Nat.le_refl _) (Nat.le_refl _)
  have d1_0_7 : η1 0 7 = η1 0 7 := rfl
  have v7 : zEq (η1 0 6) (η 0 6) := (k4.1.2.2.2.1 0 6 (by decide +kernel)).trans rfl
  have d1_0_6 : η1 0 6 = η 0 6 := v7
  have w1_0_8 : (0 : Int) ≤ η1 0 8 ∧ η1 0 8 ≤ 6 := wf_ok (a := 8) (b := 8) (z := (0, 6)) k4.1.1 (by decide +kernel) (Nat.le_refl _) (Nat.le_refl _)
  have d1_0_8 : η1 0 8 = η1 0 8 := rfl
  have v9 : zEq (η1 0 19) (η 0 19) := (k4.1.2.2.2.1 0 19 (by decide +kernel)).trans rfl
  have d1_0_19 : η1 0 19 = η 0 19 := v9
  have v10 : zEq (η1 0 44) (η 0 44) := (k4.1.2.2.2.1 0 44 (by decide +kernel)).trans rfl
  have d1_0_44 : η1 0 44 = η 0 44 := v10
  have fr16_0 : ∀ j, η 16 j = η 16 j := fun _ => rfl
  have v11 : ∀ j, η1 16 j = η 16 j := fun j => k4.1.2.2.2.1 16 _ (zinr_not (by decide +kernel))
  have fr16_1 : ∀ j, η1 16 j = η 16 j := v11
  have fr18_0 : ∀ j, η 18 j = η 18 j := fun _ => rfl
  have v12 : ∀ j, η1 18 j = η 18 j := fun j => k4.1.2.2.2.1 18 _ (zinr_not (by decide +kernel))
  have fr18_1 : ∀ j, η1 18 j = η 18 j := v12
  have f0_7 : η1 0 7 = η1 0 7 := rfl
  have f0_6 : η1 0 6 = η 0 6 := v7
  have f0_8 : η1 0 8 = η1 0 8 := rfl
  have f0_19 : η1 0 19 = η 0 19 := v9
  have f0_44 : η1 0 44 = η 0 44 := v10
  have qn4 : ¬ x4 = 0 → 10 * (η1 0 6 - η1 0 7) + η1 0 8 < 10 * (η 0 6 - η 0 7) + η 0 8 := k4.2.2
  exact ⟨k4.2.1.1, k4.2.1.2⟩
set_option maxHeartbeats 8000000 in
theorem zn_lineRead_o58 {ro : Nat → List Int32} (η : zE) (hp : sP wl_n zTr zPn_lineRead [] η) (hpp : pPn_lineRead [] η) : ∀ x1 : Int, x1 = η 0 (Int.toNat 8) → zok 0 x1 → (x1 = 1) → ∀ x2 : Int, x2 = η 0 (Int.toNat 9) → zok 0 x2 → (x2 ≤ 6) → ∀ x3 : Int, x3 = η 0 (Int.toNat 9) → zok 0 x3 → (x3 = 3) → ∀ (x4 : Int) (η1 : zE), ((gC2 wl_n [(nat_lit 0, zPn_wrong, zOn_wrong, zMn_wrong), (nat_lit 1, zPn_isSign, zOn_isSign, zMn_isSign), (nat_lit 2, zPn_token1, zOn_token1, zMn_token1), (nat_lit 3, zPn_grooveLine, zOn_grooveLine, zMn_grooveLine), (nat_lit 4, zPn_scratLine, zOn_scratLine, zMn_scratLine), (nat_lit 5, zPn_guestLine, zOn_guestLine, zMn_guestLine), (nat_lit 6, zPn_onceLine0, zOn_onceLine0, zMn_onceLine0), (nat_lit 7, zPn_onceLine1, zOn_onceLine1, zMn_onceLine1), (nat_lit 8, zPn_onceLine2, zOn_onceLine2, zMn_onceLine2), (nat_lit 9, zPn_sumRead, zOn_sumRead, zMn_sumRead)] pCn_lineRead qCn_lineRead) 6).2 [] η x4 η1 → (¬ x4 = 0) → ∀ (x5 : Int) (η2 : zE), ((gC2 wl_n [(nat_lit 0, zPn_wrong, zOn_wrong, zMn_wrong), (nat_lit 1, zPn_isSign, zOn_isSign, zMn_isSign), (nat_lit 2, zPn_token1, zOn_token1, zMn_token1), (nat_lit 3, zPn_grooveLine, zOn_grooveLine, zMn_grooveLine), (nat_lit 4, zPn_scratLine, zOn_scratLine, zMn_scratLine), (nat_lit 5, zPn_guestLine, zOn_guestLine, zMn_guestLine), (nat_lit 6, zPn_onceLine0, zOn_onceLine0, zMn_onceLine0), (nat_lit 7, zPn_onceLine1, zOn_onceLine1, zMn_onceLine1), (nat_lit 8, zPn_onceLine2, zOn_onceLine2, zMn_onceLine2), (nat_lit 9, zPn_sumRead, zOn_sumRead, zMn_sumRead)] pCn_lineRead qCn_lineRead) 1).2 [59] η1 x5 η2 → (¬ x5 = 0) → ((gC2 wl_n [(nat_lit 0, zPn_wrong, zOn_wrong, zMn_wrong), (nat_lit 1, zPn_isSign, zOn_isSign, zMn_isSign), (nat_lit 2, zPn_token1, zOn_token1, zMn_token1), (nat_lit 3, zPn_grooveLine, zOn_grooveLine, zMn_grooveLine), (nat_lit 4, zPn_scratLine, zOn_scratLine, zMn_scratLine), (nat_lit 5, zPn_guestLine, zOn_guestLine, zMn_guestLine), (nat_lit 6, zPn_onceLine0, zOn_onceLine0, zMn_onceLine0), (nat_lit 7, zPn_onceLine1, zOn_onceLine1, zMn_onceLine1), (nat_lit 8, zPn_onceLine2, zOn_onceLine2, zMn_onceLine2), (nat_lit 9, zPn_sumRead, zOn_sumRead, zMn_sumRead)] pCn_lineRead qCn_lineRead) 2).1 [] η2 := by
  intro x1 e1 r1 c1 x2 e2 r2 c2 x3 e3 r3 c3 x4 η1 h4 c4 x5 η2 h5 c5
  have k4 : sQ wl_n zTr zOn_onceLine0 zMn_onceLine0 [] η x4 η1 ∧ pQn_onceLine0 [] η x4 η1 := h4
  have k5 : sQ wl_n zTr zOn_isSign zMn_isSign [59] η1 x5 η2 ∧ pQn_isSign [59] η1 x5 η2 := h5
  have w0_0_8 : (0 : Int) ≤ η 0 8 ∧ η 0 8 ≤ 6 := wf_ok (a := 8) (b := 8) (z := (0, 6)) hp.1 (by decide +kernel) (Nat.le_refl _) (Nat.le_refl _)
  replace e1 : x1 = η 0 8 := e1
  replace e2 : x2 = η 0 9 := e2
  replace r2 : -2147483648 ≤ x2 ∧ x2 ≤ 2147483647 := r2
  replace e3 : x3 = η 0 9 := e3
  replace r3 : -2147483648 ≤ x3 ∧ x3 ≤ 2147483647 := r3
  have w0_0_7 : (0 : Int) ≤ η 0 7 ∧ η 0 7 ≤ 700 := wf_ok (a := 7) (b := 7) (z := (0, 700)) hp.1 (by decide +kernel) (Nat.le_refl _) (Nat.le_refl _)
  have c0_0_7 : η 0 7 = η 0 7 := rfl
  have w0_0_6 : (0 : Int) ≤ η 0 6 ∧ η 0 6 ≤ 700 := wf_ok (a := 6) (b := 6) (z := (0, 700)) hp.1 (by decide +kernel) (Nat.le_refl _) (Nat.le_refl _)
  have c0_0_6 : η 0 6 = η 0 6 := rfl
  have c0_0_8 : η 0 8 = η 0 8 := rfl
  have w0_0_19 : (0 : Int) ≤ η 0 19 ∧ η 0 19 ≤ 64 := wf_ok (a := 19) (b := 19) (z := (0, 64)) hp.1 (by decide +kernel) (Nat.le_refl _) (Nat.le_refl _)
  have c0_0_19 : η 0 19 = η 0 19 := rfl
  have w0_0_44 : (0 : Int) ≤ η 0 44 ∧ η 0 44 ≤ 64 := wf_ok (a := 44) (b := 44) (z := (0, 64)) hp.1 (by decide +kernel) (Nat.le_refl _) (Nat.le_refl _)
  have c0_0_44 : η 0 44 = η 0 44 := rfl
  have bx4 : (0 : Int) ≤ x4 ∧ x4 ≤ 1 := k4.1.2.1
  have w1_0_7 : (0 : Int) ≤ η1 0 7 ∧ η1 0 7 ≤ 700 := wf_ok (a := 7) (b := 7) (z := (0, 700)) k4.1.1 (by decide +kernel) (Nat.le_refl _) (Nat.le_refl _)
  have d1_0_7 : η1 0 7 = η1 0 7 := rfl
  have v7 : zEq (η1 0 6) (η 0 6) := (k4.1.2.2.2.1 0 6 (by decide +kernel)).trans rfl
  have d1_0_6 : η1 0 6 = η 0 6 := v7
  have w1_0_8 : (0 : Int) ≤ η1 0 8 ∧ η1 0 8 ≤ 6 := wf_ok (a := 8) (b := 8) (z := (0, 6)) k4.1.1 (by decide +kernel) (Nat.le_refl _) (Nat.le_refl _)
  have d1_0_8 : η1 0 8 = η1 0 8 := rfl
  have v9 : zEq (η1 0 19) (η 0 19) := (k4.1.2.2.2.1 0 19 (by decide +kernel)).trans rfl
  have d1_0_19 : η1 0 19 = η 0 19 := v9
  have v10 : zEq (η1 0 44) (η 0 44) := (k4.1.2.2.2.1 0 44 (by decide +kernel)).trans rfl
  have d1_0_44 : η1 0 44 = η 0 44 := v10
  have c1_0_7 : η1 0 7 = η1 0 7 := rfl
  have c1_0_6 : η1 0 6 = η 0 6 := v7
  have c1_0_8 : η1 0 8 = η1 0 8 := rfl
  have c1_0_19 : η1 0 19 = η 0 19 := v9
  have c1_0_44 : η1 0 44 = η 0 44 := v10
  have bx5 : (0 : Int) ≤ x5 ∧ x5 ≤ 1 := k5.1.2.1
  have v11 : zEq (η2 0 7) (η1 0 7) := (k5.1.2.2.2.1 0 7 (by decide +kernel)).trans rfl
  have d2_0_7 : η2 0 7 = η1 0 7 := v11
  have v12 : zEq (η2 0 6) (η 0 6) := (k5.1.2.2.2.1 0 6 (by decide +kernel)).trans v7
  have d2_0_6 : η2 0 6 = η 0 6 := v12
  have v13 : zEq (η2 0 8) (η1 0 8) := (k5.1.2.2.2.1 0 8 (by decide +kernel)).trans rfl
  have d2_0_8 : η2 0 8 = η1 0 8 := v13
  have v14 : zEq (η2 0 19) (η 0 19) := (k5.1.2.2.2.1 0 19 (by decide +kernel)).trans v9
  have d2_0_19 : η2 0 19 = η 0 19 := v14
  have v15 : zEq (η2 0 44) (η 0 44) := (k5.1.2.2.2.1 0 44 (by decide +kernel)).trans v10
  have d2_0_44 : η2 0 44 = η 0 44 := v15
  have fr16_0 : ∀ j, η 16 j = η 16 j := fun _ => rfl
  have v16 : ∀ j, η1 16 j = η 16 j := fun j => k4.1.2.2.2.1 16 _ (zinr_not (by decide +kernel))
  have fr16_1 : ∀ j, η1 16 j = η 16 j := v16
  have v17 : ∀ j, η2 16 j = η 16 j := fun j => (k5.1.2.2.2.1 16 _ (zinr_not (by decide +kernel))).trans (v16 j)
  have fr16_2 : ∀ j, η2 16 j = η 16 j := v17
  have fr18_0 : ∀ j, η 18 j = η 18 j := fun _ => rfl
  have v18 : ∀ j, η1 18 j = η 18 j := fun j => k4.1.2.2.2.1 18 _ (zinr_not (by decide +kernel))
  have fr18_1 : ∀ j, η1 18 j = η 18 j := v18
  have v19 : ∀ j, η2 18 j = η 18 j := fun j => (k5.1.2.2.2.1 18 _ (zinr_not (by decide +kernel))).trans (v18 j)
  have fr18_2 : ∀ j, η2 18 j = η 18 j := v19
  have f0_7 : η2 0 7 = η1 0 7 := v11
  have f0_6 : η2 0 6 = η 0 6 := v12
  have f0_8 : η2 0 8 = η1 0 8 := v13
  have f0_19 : η2 0 19 = η 0 19 := v14
  have f0_44 : η2 0 44 = η 0 44 := v15
  have qn4 : ¬ x4 = 0 → 10 * (η1 0 6 - η1 0 7) + η1 0 8 < 10 * (η 0 6 - η 0 7) + η 0 8 := k4.2.2
  have qs5 : ¬ x5 = 0 → η1 0 8 = 4 := k5.2.2
  exact k5.2.1.1
set_option maxHeartbeats 8000000 in
theorem zn_lineRead_o59 {ro : Nat → List Int32} (η : zE) (hp : sP wl_n zTr zPn_lineRead [] η) (hpp : pPn_lineRead [] η) : ∀ x1 : Int, x1 = η 0 (Int.toNat 8) → zok 0 x1 → (x1 = 1) → ∀ x2 : Int, x2 = η 0 (Int.toNat 9) → zok 0 x2 → (x2 ≤ 6) → ∀ x3 : Int, x3 = η 0 (Int.toNat 9) → zok 0 x3 → (x3 = 3) → ∀ (x4 : Int) (η1 : zE), ((gC2 wl_n [(nat_lit 0, zPn_wrong, zOn_wrong, zMn_wrong), (nat_lit 1, zPn_isSign, zOn_isSign, zMn_isSign), (nat_lit 2, zPn_token1, zOn_token1, zMn_token1), (nat_lit 3, zPn_grooveLine, zOn_grooveLine, zMn_grooveLine), (nat_lit 4, zPn_scratLine, zOn_scratLine, zMn_scratLine), (nat_lit 5, zPn_guestLine, zOn_guestLine, zMn_guestLine), (nat_lit 6, zPn_onceLine0, zOn_onceLine0, zMn_onceLine0), (nat_lit 7, zPn_onceLine1, zOn_onceLine1, zMn_onceLine1), (nat_lit 8, zPn_onceLine2, zOn_onceLine2, zMn_onceLine2), (nat_lit 9, zPn_sumRead, zOn_sumRead, zMn_sumRead)] pCn_lineRead qCn_lineRead) 6).2 [] η x4 η1 → (¬ x4 = 0) → ∀ (x5 : Int) (η2 : zE), ((gC2 wl_n [(nat_lit 0, zPn_wrong, zOn_wrong, zMn_wrong), (nat_lit 1, zPn_isSign, zOn_isSign, zMn_isSign), (nat_lit 2, zPn_token1, zOn_token1, zMn_token1), (nat_lit 3, zPn_grooveLine, zOn_grooveLine, zMn_grooveLine), (nat_lit 4, zPn_scratLine, zOn_scratLine, zMn_scratLine), (nat_lit 5, zPn_guestLine, zOn_guestLine, zMn_guestLine), (nat_lit 6, zPn_onceLine0, zOn_onceLine0, zMn_onceLine0), (nat_lit 7, zPn_onceLine1, zOn_onceLine1, zMn_onceLine1), (nat_lit 8, zPn_onceLine2, zOn_onceLine2, zMn_onceLine2), (nat_lit 9, zPn_sumRead, zOn_sumRead, zMn_sumRead)] pCn_lineRead qCn_lineRead) 1).2 [59] η1 x5 η2 → (¬ x5 = 0) → ∀ (x6 : Int) (η3 : zE), ((gC2 wl_n [(nat_lit 0, zPn_wrong, zOn_wrong, zMn_wrong), (nat_lit 1, zPn_isSign, zOn_isSign, zMn_isSign), (nat_lit 2, zPn_token1, zOn_token1, zMn_token1), (nat_lit 3, zPn_grooveLine, zOn_grooveLine, zMn_grooveLine), (nat_lit 4, zPn_scratLine, zOn_scratLine, zMn_scratLine), (nat_lit 5, zPn_guestLine, zOn_guestLine, zMn_guestLine), (nat_lit 6, zPn_onceLine0, zOn_onceLine0, zMn_onceLine0), (nat_lit 7, zPn_onceLine1, zOn_onceLine1, zMn_onceLine1), (nat_lit 8, zPn_onceLine2, zOn_onceLine2, zMn_onceLine2), (nat_lit 9, zPn_sumRead, zOn_sumRead, zMn_sumRead)] pCn_lineRead qCn_lineRead) 2).2 [] η2 x6 η3 → (fun (_ : Nat) (y : Int) (η' : zE) => pQn_lineRead [] η y η') 0 1 η3 := by
  intro x1 e1 r1 c1 x2 e2 r2 c2 x3 e3 r3 c3 x4 η1 h4 c4 x5 η2 h5 c5 x6 η3 h6
  have k4 : sQ wl_n zTr zOn_onceLine0 zMn_onceLine0 [] η x4 η1 ∧ pQn_onceLine0 [] η x4 η1 := h4
  have k5 : sQ wl_n zTr zOn_isSign zMn_isSign [59] η1 x5 η2 ∧ pQn_isSign [59] η1 x5 η2 := h5
  have k6 : sQ wl_n zTr zOn_token1 zMn_token1 [] η2 x6 η3 ∧ pQn_token1 [] η2 x6 η3 := h6
  have w0_0_8 : (0 : Int) ≤ η 0 8 ∧ η 0 8 ≤ 6 := wf_ok (a := 8) (b := 8) (z := (0, 6)) hp.1 (by decide +kernel) (Nat.le_refl _) (Nat.le_refl _)
  replace e1 : x1 = η 0 8 := e1
  replace e2 : x2 = η 0 9 := e2
  replace r2 : -2147483648 ≤ x2 ∧ x2 ≤ 2147483647 := r2
  replace e3 : x3 = η 0 9 := e3
  replace r3 : -2147483648 ≤ x3 ∧ x3 ≤ 2147483647 := r3
  have w0_0_7 : (0 : Int) ≤ η 0 7 ∧ η 0 7 ≤ 700 := wf_ok (a := 7) (b := 7) (z := (0, 700)) hp.1 (by decide +kernel) (Nat.le_refl _) (Nat.le_refl _)
  have c0_0_7 : η 0 7 = η 0 7 := rfl
  have w0_0_6 : (0 : Int) ≤ η 0 6 ∧ η 0 6 ≤ 700 := wf_ok (a := 6) (b := 6) (z := (0, 700)) hp.1 (by decide +kernel) (Nat.le_refl _) (Nat.le_refl _)
  have c0_0_6 : η 0 6 = η 0 6 := rfl
  have c0_0_8 : η 0 8 = η 0 8 := rfl
  have w0_0_19 : (0 : Int) ≤ η 0 19 ∧ η 0 19 ≤ 64 := wf_ok (a := 19) (b := 19) (z := (0, 64)) hp.1 (by decide +kernel) (Nat.le_refl _) (Nat.le_refl _)
  have c0_0_19 : η 0 19 = η 0 19 := rfl
  have w0_0_44 : (0 : Int) ≤ η 0 44 ∧ η 0 44 ≤ 64 := wf_ok (a := 44) (b := 44) (z := (0, 64)) hp.1 (by decide +kernel) (Nat.le_refl _) (Nat.le_refl _)
  have c0_0_44 : η 0 44 = η 0 44 := rfl
  have bx4 : (0 : Int) ≤ x4 ∧ x4 ≤ 1 := k4.1.2.1
  have w1_0_7 : (0 : Int) ≤ η1 0 7 ∧ η1 0 7 ≤ 700 := wf_ok (a := 7) (b := 7) (z := (0, 700)) k4.1.1 (by decide +kernel) (Nat.le_refl _) (Nat.le_refl _)
  have d1_0_7 : η1 0 7 = η1 0 7 := rfl
  have v7 : zEq (η1 0 6) (η 0 6) := (k4.1.2.2.2.1 0 6 (by decide +kernel)).trans rfl
  have d1_0_6 : η1 0 6 = η 0 6 := v7
  have w1_0_8 : (0 : Int) ≤ η1 0 8 ∧ η1 0 8 ≤ 6 := wf_ok (a := 8) (b := 8) (z := (0, 6)) k4.1.1 (by decide +kernel) (Nat.le_refl _) (Nat.le_refl _)
  have d1_0_8 : η1 0 8 = η1 0 8 := rfl
  have v9 : zEq (η1 0 19) (η 0 19) := (k4.1.2.2.2.1 0 19 (by decide +kernel)).trans rfl
  have d1_0_19 : η1 0 19 = η 0 19 := v9
  have v10 : zEq (η1 0 44) (η 0 44) := (k4.1.2.2.2.1 0 44 (by decide +kernel)).trans rfl
  have d1_0_44 : η1 0 44 = η 0 44 := v10
  have c1_0_7 : η1 0 7 = η1 0 7 := rfl
  have c1_0_6 : η1 0 6 = η 0 6 := v7
  have c1_0_8 : η1 0 8 = η1 0 8 := rfl
  have c1_0_19 : η1 0 19 = η 0 19 := v9
  have c1_0_44 : η1 0 44 = η 0 44 := v10
  have bx5 : (0 : Int) ≤ x5 ∧ x5 ≤ 1 := k5.1.2.1
  have v11 : zEq (η2 0 7) (η1 0 7) := (k5.1.2.2.2.1 0 7 (by decide +kernel)).trans rfl
  have d2_0_7 : η2 0 7 = η1 0 7 := v11
  have v12 : zEq (η2 0 6) (η 0 6) := (k5.1.2.2.2.1 0 6 (by decide +kernel)).trans v7
  have d2_0_6 : η2 0 6 = η 0 6 := v12
  have v13 : zEq (η2 0 8) (η1 0 8) := (k5.1.2.2.2.1 0 8 (by decide +kernel)).trans rfl
  have d2_0_8 : η2 0 8 = η1 0 8 := v13
  have v14 : zEq (η2 0 19) (η 0 19) := (k5.1.2.2.2.1 0 19 (by decide +kernel)).trans v9
  have d2_0_19 : η2 0 19 = η 0 19 := v14
  have v15 : zEq (η2 0 44) (η 0 44) := (k5.1.2.2.2.1 0 44 (by decide +kernel)).trans v10
  have d2_0_44 : η2 0 44 = η 0 44 := v15
  have c2_0_7 : η2 0 7 = η1 0 7 := v11
  have c2_0_6 : η2 0 6 = η 0 6 := v12
  have c2_0_8 : η2 0 8 = η1 0 8 := v13
  have c2_0_19 : η2 0 19 = η 0 19 := v14
  have c2_0_44 : η2 0 44 = η 0 44 := v15
  have bx6 : (0 : Int) ≤ x6 ∧ x6 ≤ 0 := k6.1.2.1
  have w3_0_7 : (0 : Int) ≤ η3 0 7 ∧ η3 0 7 ≤ 700 := wf_ok (a := 7) (b := 7) (z := (0, 700)) k6.1.1 (by decide +kernel) (Nat.le_refl _) (Nat.le_refl _)
  have d3_0_7 : η3 0 7 = η3 0 7 := rfl
  have v17 : zEq (η3 0 6) (η 0 6) := (k6.1.2.2.2.1 0 6 (by decide +kernel)).trans v12
  have d3_0_6 : η3 0 6 = η 0 6 := v17
  have w3_0_8 : (0 : Int) ≤ η3 0 8 ∧ η3 0 8 ≤ 6 := wf_ok (a := 8) (b := 8) (z := (0, 6)) k6.1.1 (by decide +kernel) (Nat.le_refl _) (Nat.le_refl _)
  have d3_0_8 : η3 0 8 = η3 0 8 := rfl
  have v19 : zEq (η3 0 19) (η 0 19) := (k6.1.2.2.2.1 0 19 (by decide +kernel)).trans v14
  have d3_0_19 : η3 0 19 = η 0 19 := v19
  have v20 : zEq (η3 0 44) (η 0 44) := (k6.1.2.2.2.1 0 44 (by decide +kernel)).trans v15
  have d3_0_44 : η3 0 44 = η 0 44 := v20
  have fr16_0 : ∀ j, η 16 j = η 16 j := fun _ => rfl
  have v21 : ∀ j, η1 16 j = η 16 j := fun j => k4.1.2.2.2.1 16 _ (zinr_not (by decide +kernel))
  have fr16_1 : ∀ j, η1 16 j = η 16 j := v21
  have v22 : ∀ j, η2 16 j = η 16 j := fun j => (k5.1.2.2.2.1 16 _ (zinr_not (by decide +kernel))).trans (v21 j)
  have fr16_2 : ∀ j, η2 16 j = η 16 j := v22
  have v23 : ∀ j, η3 16 j = η 16 j := fun j => (k6.1.2.2.2.1 16 _ (zinr_not (by decide +kernel))).trans (v22 j)
  have fr16_3 : ∀ j, η3 16 j = η 16 j := v23
  have fr18_0 : ∀ j, η 18 j = η 18 j := fun _ => rfl
  have v24 : ∀ j, η1 18 j = η 18 j := fun j => k4.1.2.2.2.1 18 _ (zinr_not (by decide +kernel))
  have fr18_1 : ∀ j, η1 18 j = η 18 j := v24
  have v25 : ∀ j, η2 18 j = η 18 j := fun j => (k5.1.2.2.2.1 18 _ (zinr_not (by decide +kernel))).trans (v24 j)
  have fr18_2 : ∀ j, η2 18 j = η 18 j := v25
  have v26 : ∀ j, η3 18 j = η 18 j := fun j => (k6.1.2.2.2.1 18 _ (zinr_not (by decide +kernel))).trans (v25 j)
  have fr18_3 : ∀ j, η3 18 j = η 18 j := v26
  have f0_7 : η3 0 7 = η3 0 7 := rfl
  have f0_6 : η3 0 6 = η 0 6 := v17
  have f0_8 : η3 0 8 = η3 0 8 := rfl
  have f0_19 : η3 0 19 = η 0 19 := v19
  have f0_44 : η3 0 44 = η 0 44 := v20
  have qn4 : ¬ x4 = 0 → 10 * (η1 0 6 - η1 0 7) + η1 0 8 < 10 * (η 0 6 - η 0 7) + η 0 8 := k4.2.2
  have qs5 : ¬ x5 = 0 → η1 0 8 = 4 := k5.2.2
  have qt6 : ¬ η2 0 8 = 0 → 10 * (η3 0 6 - η3 0 7) + η3 0 8 < 10 * (η2 0 6 - η2 0 7) + η2 0 8 := k6.2.2
  have P3 : PL_n 6 η3 := zGk_fm2 plk_n (k5.2.1.2) k6.1.2.2.2.1 (by decide +kernel)
  exact ⟨k6.2.1.1, pl_d (P3) (by decide), fun _ => ⟨⟨k6.2.1, P3⟩, show 10 * (η3 0 6 - η3 0 7) + η3 0 8 < 10 * (η 0 6 - η 0 7) + η 0 8 by omega⟩⟩
set_option maxHeartbeats 8000000 in
theorem zn_lineRead_o60 {ro : Nat → List Int32} (η : zE) (hp : sP wl_n zTr zPn_lineRead [] η) (hpp : pPn_lineRead [] η) : ∀ x1 : Int, x1 = η 0 (Int.toNat 8) → zok 0 x1 → (x1 = 1) → ∀ x2 : Int, x2 = η 0 (Int.toNat 9) → zok 0 x2 → (x2 ≤ 6) → ∀ x3 : Int, x3 = η 0 (Int.toNat 9) → zok 0 x3 → (x3 = 3) → ∀ (x4 : Int) (η1 : zE), ((gC2 wl_n [(nat_lit 0, zPn_wrong, zOn_wrong, zMn_wrong), (nat_lit 1, zPn_isSign, zOn_isSign, zMn_isSign), (nat_lit 2, zPn_token1, zOn_token1, zMn_token1), (nat_lit 3, zPn_grooveLine, zOn_grooveLine, zMn_grooveLine), (nat_lit 4, zPn_scratLine, zOn_scratLine, zMn_scratLine), (nat_lit 5, zPn_guestLine, zOn_guestLine, zMn_guestLine), (nat_lit 6, zPn_onceLine0, zOn_onceLine0, zMn_onceLine0), (nat_lit 7, zPn_onceLine1, zOn_onceLine1, zMn_onceLine1), (nat_lit 8, zPn_onceLine2, zOn_onceLine2, zMn_onceLine2), (nat_lit 9, zPn_sumRead, zOn_sumRead, zMn_sumRead)] pCn_lineRead qCn_lineRead) 6).2 [] η x4 η1 → (¬ x4 = 0) → ∀ (x5 : Int) (η2 : zE), ((gC2 wl_n [(nat_lit 0, zPn_wrong, zOn_wrong, zMn_wrong), (nat_lit 1, zPn_isSign, zOn_isSign, zMn_isSign), (nat_lit 2, zPn_token1, zOn_token1, zMn_token1), (nat_lit 3, zPn_grooveLine, zOn_grooveLine, zMn_grooveLine), (nat_lit 4, zPn_scratLine, zOn_scratLine, zMn_scratLine), (nat_lit 5, zPn_guestLine, zOn_guestLine, zMn_guestLine), (nat_lit 6, zPn_onceLine0, zOn_onceLine0, zMn_onceLine0), (nat_lit 7, zPn_onceLine1, zOn_onceLine1, zMn_onceLine1), (nat_lit 8, zPn_onceLine2, zOn_onceLine2, zMn_onceLine2), (nat_lit 9, zPn_sumRead, zOn_sumRead, zMn_sumRead)] pCn_lineRead qCn_lineRead) 1).2 [59] η1 x5 η2 → (x5 = 0) → ((gC2 wl_n [(nat_lit 0, zPn_wrong, zOn_wrong, zMn_wrong), (nat_lit 1, zPn_isSign, zOn_isSign, zMn_isSign), (nat_lit 2, zPn_token1, zOn_token1, zMn_token1), (nat_lit 3, zPn_grooveLine, zOn_grooveLine, zMn_grooveLine), (nat_lit 4, zPn_scratLine, zOn_scratLine, zMn_scratLine), (nat_lit 5, zPn_guestLine, zOn_guestLine, zMn_guestLine), (nat_lit 6, zPn_onceLine0, zOn_onceLine0, zMn_onceLine0), (nat_lit 7, zPn_onceLine1, zOn_onceLine1, zMn_onceLine1), (nat_lit 8, zPn_onceLine2, zOn_onceLine2, zMn_onceLine2), (nat_lit 9, zPn_sumRead, zOn_sumRead, zMn_sumRead)] pCn_lineRead qCn_lineRead) 0).1 [1] η2 := by
  intro x1 e1 r1 c1 x2 e2 r2 c2 x3 e3 r3 c3 x4 η1 h4 c4 x5 η2 h5 c5
  have k4 : sQ wl_n zTr zOn_onceLine0 zMn_onceLine0 [] η x4 η1 ∧ pQn_onceLine0 [] η x4 η1 := h4
  have k5 : sQ wl_n zTr zOn_isSign zMn_isSign [59] η1 x5 η2 ∧ pQn_isSign [59] η1 x5 η2 := h5
  have w0_0_8 : (0 : Int) ≤ η 0 8 ∧ η 0 8 ≤ 6 := wf_ok (a := 8) (b := 8) (z := (0, 6)) hp.1 (by decide +kernel) (Nat.le_refl _) (Nat.le_refl _)
  replace e1 : x1 = η 0 8 := e1
  replace e2 : x2 = η 0 9 := e2
  replace r2 : -2147483648 ≤ x2 ∧ x2 ≤ 2147483647 := r2
  replace e3 : x3 = η 0 9 := e3
  replace r3 : -2147483648 ≤ x3 ∧ x3 ≤ 2147483647 := r3
  have w0_0_7 : (0 : Int) ≤ η 0 7 ∧ η 0 7 ≤ 700 := wf_ok (a := 7) (b := 7) (z := (0, 700)) hp.1 (by decide +kernel) (Nat.le_refl _) (Nat.le_refl _)
  have c0_0_7 : η 0 7 = η 0 7 := rfl
  have w0_0_6 : (0 : Int) ≤ η 0 6 ∧ η 0 6 ≤ 700 := wf_ok (a := 6) (b := 6) (z := (0, 700)) hp.1 (by decide +kernel) (Nat.le_refl _) (Nat.le_refl _)
  have c0_0_6 : η 0 6 = η 0 6 := rfl
  have c0_0_8 : η 0 8 = η 0 8 := rfl
  have w0_0_19 : (0 : Int) ≤ η 0 19 ∧ η 0 19 ≤ 64 := wf_ok (a := 19) (b := 19) (z := (0, 64)) hp.1 (by decide +kernel) (Nat.le_refl _) (Nat.le_refl _)
  have c0_0_19 : η 0 19 = η 0 19 := rfl
  have w0_0_44 : (0 : Int) ≤ η 0 44 ∧ η 0 44 ≤ 64 := wf_ok (a := 44) (b := 44) (z := (0, 64)) hp.1 (by decide +kernel) (Nat.le_refl _) (Nat.le_refl _)
  have c0_0_44 : η 0 44 = η 0 44 := rfl
  have bx4 : (0 : Int) ≤ x4 ∧ x4 ≤ 1 := k4.1.2.1
  have w1_0_7 : (0 : Int) ≤ η1 0 7 ∧ η1 0 7 ≤ 700 := wf_ok (a := 7) (b := 7) (z := (0, 700)) k4.1.1 (by decide +kernel) (Nat.le_refl _) (Nat.le_refl _)
  have d1_0_7 : η1 0 7 = η1 0 7 := rfl
  have v7 : zEq (η1 0 6) (η 0 6) := (k4.1.2.2.2.1 0 6 (by decide +kernel)).trans rfl
  have d1_0_6 : η1 0 6 = η 0 6 := v7
  have w1_0_8 : (0 : Int) ≤ η1 0 8 ∧ η1 0 8 ≤ 6 := wf_ok (a := 8) (b := 8) (z := (0, 6)) k4.1.1 (by decide +kernel) (Nat.le_refl _) (Nat.le_refl _)
  have d1_0_8 : η1 0 8 = η1 0 8 := rfl
  have v9 : zEq (η1 0 19) (η 0 19) := (k4.1.2.2.2.1 0 19 (by decide +kernel)).trans rfl
  have d1_0_19 : η1 0 19 = η 0 19 := v9
  have v10 : zEq (η1 0 44) (η 0 44) := (k4.1.2.2.2.1 0 44 (by decide +kernel)).trans rfl
  have d1_0_44 : η1 0 44 = η 0 44 := v10
  have c1_0_7 : η1 0 7 = η1 0 7 := rfl
  have c1_0_6 : η1 0 6 = η 0 6 := v7
  have c1_0_8 : η1 0 8 = η1 0 8 := rfl
  have c1_0_19 : η1 0 19 = η 0 19 := v9
  have c1_0_44 : η1 0 44 = η 0 44 := v10
  have bx5 : (0 : Int) ≤ x5 ∧ x5 ≤ 1 := k5.1.2.1
  have v11 : zEq (η2 0 7) (η1 0 7) := (k5.1.2.2.2.1 0 7 (by decide +kernel)).trans rfl
  have d2_0_7 : η2 0 7 = η1 0 7 := v11
  have v12 : zEq (η2 0 6) (η 0 6) := (k5.1.2.2.2.1 0 6 (by decide +kernel)).trans v7
  have d2_0_6 : η2 0 6 = η 0 6 := v12
  have v13 : zEq (η2 0 8) (η1 0 8) := (k5.1.2.2.2.1 0 8 (by decide +kernel)).trans rfl
  have d2_0_8 : η2 0 8 = η1 0 8 := v13
  have v14 : zEq (η2 0 19) (η 0 19) := (k5.1.2.2.2.1 0 19 (by decide +kernel)).trans v9
  have d2_0_19 : η2 0 19 = η 0 19 := v14
  have v15 : zEq (η2 0 44) (η 0 44) := (k5.1.2.2.2.1 0 44 (by decide +kernel)).trans v10
  have d2_0_44 : η2 0 44 = η 0 44 := v15
  have fr16_0 : ∀ j, η 16 j = η 16 j := fun _ => rfl
  have v16 : ∀ j, η1 16 j = η 16 j := fun j => k4.1.2.2.2.1 16 _ (zinr_not (by decide +kernel))
  have fr16_1 : ∀ j, η1 16 j = η 16 j := v16
  have v17 : ∀ j, η2 16 j = η 16 j := fun j => (k5.1.2.2.2.1 16 _ (zinr_not (by decide +kernel))).trans (v16 j)
  have fr16_2 : ∀ j, η2 16 j = η 16 j := v17
  have fr18_0 : ∀ j, η 18 j = η 18 j := fun _ => rfl
  have v18 : ∀ j, η1 18 j = η 18 j := fun j => k4.1.2.2.2.1 18 _ (zinr_not (by decide +kernel))
  have fr18_1 : ∀ j, η1 18 j = η 18 j := v18
  have v19 : ∀ j, η2 18 j = η 18 j := fun j => (k5.1.2.2.2.1 18 _ (zinr_not (by decide +kernel))).trans (v18 j)
  have fr18_2 : ∀ j, η2 18 j = η 18 j := v19
  have f0_7 : η2 0 7 = η1 0 7 := v11
  have f0_6 : η2 0 6 = η 0 6 := v12
  have f0_8 : η2 0 8 = η1 0 8 := v13
  have f0_19 : η2 0 19 = η 0 19 := v14
  have f0_44 : η2 0 44 = η 0 44 := v15
  have qn4 : ¬ x4 = 0 → 10 * (η1 0 6 - η1 0 7) + η1 0 8 < 10 * (η 0 6 - η 0 7) + η 0 8 := k4.2.2
  have qs5 : ¬ x5 = 0 → η1 0 8 = 4 := k5.2.2
  exact ⟨k5.2.1.1, k5.2.1.2⟩
set_option maxHeartbeats 8000000 in
theorem zn_lineRead_o61 {ro : Nat → List Int32} (η : zE) (hp : sP wl_n zTr zPn_lineRead [] η) (hpp : pPn_lineRead [] η) : ∀ x1 : Int, x1 = η 0 (Int.toNat 8) → zok 0 x1 → (x1 = 1) → ∀ x2 : Int, x2 = η 0 (Int.toNat 9) → zok 0 x2 → (x2 ≤ 6) → ∀ x3 : Int, x3 = η 0 (Int.toNat 9) → zok 0 x3 → (x3 = 3) → ∀ (x4 : Int) (η1 : zE), ((gC2 wl_n [(nat_lit 0, zPn_wrong, zOn_wrong, zMn_wrong), (nat_lit 1, zPn_isSign, zOn_isSign, zMn_isSign), (nat_lit 2, zPn_token1, zOn_token1, zMn_token1), (nat_lit 3, zPn_grooveLine, zOn_grooveLine, zMn_grooveLine), (nat_lit 4, zPn_scratLine, zOn_scratLine, zMn_scratLine), (nat_lit 5, zPn_guestLine, zOn_guestLine, zMn_guestLine), (nat_lit 6, zPn_onceLine0, zOn_onceLine0, zMn_onceLine0), (nat_lit 7, zPn_onceLine1, zOn_onceLine1, zMn_onceLine1), (nat_lit 8, zPn_onceLine2, zOn_onceLine2, zMn_onceLine2), (nat_lit 9, zPn_sumRead, zOn_sumRead, zMn_sumRead)] pCn_lineRead qCn_lineRead) 6).2 [] η x4 η1 → (¬ x4 = 0) → ∀ (x5 : Int) (η2 : zE), ((gC2 wl_n [(nat_lit 0, zPn_wrong, zOn_wrong, zMn_wrong), (nat_lit 1, zPn_isSign, zOn_isSign, zMn_isSign), (nat_lit 2, zPn_token1, zOn_token1, zMn_token1), (nat_lit 3, zPn_grooveLine, zOn_grooveLine, zMn_grooveLine), (nat_lit 4, zPn_scratLine, zOn_scratLine, zMn_scratLine), (nat_lit 5, zPn_guestLine, zOn_guestLine, zMn_guestLine), (nat_lit 6, zPn_onceLine0, zOn_onceLine0, zMn_onceLine0), (nat_lit 7, zPn_onceLine1, zOn_onceLine1, zMn_onceLine1), (nat_lit 8, zPn_onceLine2, zOn_onceLine2, zMn_onceLine2), (nat_lit 9, zPn_sumRead, zOn_sumRead, zMn_sumRead)] pCn_lineRead qCn_lineRead) 1).2 [59] η1 x5 η2 → (x5 = 0) → ∀ (x6 : Int) (η3 : zE), ((gC2 wl_n [(nat_lit 0, zPn_wrong, zOn_wrong, zMn_wrong), (nat_lit 1, zPn_isSign, zOn_isSign, zMn_isSign), (nat_lit 2, zPn_token1, zOn_token1, zMn_token1), (nat_lit 3, zPn_grooveLine, zOn_grooveLine, zMn_grooveLine), (nat_lit 4, zPn_scratLine, zOn_scratLine, zMn_scratLine), (nat_lit 5, zPn_guestLine, zOn_guestLine, zMn_guestLine), (nat_lit 6, zPn_onceLine0, zOn_onceLine0, zMn_onceLine0), (nat_lit 7, zPn_onceLine1, zOn_onceLine1, zMn_onceLine1), (nat_lit 8, zPn_onceLine2, zOn_onceLine2, zMn_onceLine2), (nat_lit 9, zPn_sumRead, zOn_sumRead, zMn_sumRead)] pCn_lineRead qCn_lineRead) 0).2 [1] η2 x6 η3 → (fun (_ : Nat) (y : Int) (η' : zE) => pQn_lineRead [] η y η') 0 x6 η3 := by
  intro x1 e1 r1 c1 x2 e2 r2 c2 x3 e3 r3 c3 x4 η1 h4 c4 x5 η2 h5 c5 x6 η3 h6
  have k4 : sQ wl_n zTr zOn_onceLine0 zMn_onceLine0 [] η x4 η1 ∧ pQn_onceLine0 [] η x4 η1 := h4
  have k5 : sQ wl_n zTr zOn_isSign zMn_isSign [59] η1 x5 η2 ∧ pQn_isSign [59] η1 x5 η2 := h5
  have k6 : sQ wl_n zTr zOn_wrong zMn_wrong [1] η2 x6 η3 ∧ pQn_wrong [1] η2 x6 η3 := h6
  have w0_0_8 : (0 : Int) ≤ η 0 8 ∧ η 0 8 ≤ 6 := wf_ok (a := 8) (b := 8) (z := (0, 6)) hp.1 (by decide +kernel) (Nat.le_refl _) (Nat.le_refl _)
  replace e1 : x1 = η 0 8 := e1
  replace e2 : x2 = η 0 9 := e2
  replace r2 : -2147483648 ≤ x2 ∧ x2 ≤ 2147483647 := r2
  replace e3 : x3 = η 0 9 := e3
  replace r3 : -2147483648 ≤ x3 ∧ x3 ≤ 2147483647 := r3
  have w0_0_7 : (0 : Int) ≤ η 0 7 ∧ η 0 7 ≤ 700 := wf_ok (a := 7) (b := 7) (z := (0, 700)) hp.1 (by decide +kernel) (Nat.le_refl _) (Nat.le_refl _)
  have c0_0_7 : η 0 7 = η 0 7 := rfl
  have w0_0_6 : (0 : Int) ≤ η 0 6 ∧ η 0 6 ≤ 700 := wf_ok (a := 6) (b := 6) (z := (0, 700)) hp.1 (by decide +kernel) (Nat.le_refl _) (Nat.le_refl _)
  have c0_0_6 : η 0 6 = η 0 6 := rfl
  have c0_0_8 : η 0 8 = η 0 8 := rfl
  have w0_0_19 : (0 : Int) ≤ η 0 19 ∧ η 0 19 ≤ 64 := wf_ok (a := 19) (b := 19) (z := (0, 64)) hp.1 (by decide +kernel) (Nat.le_refl _) (Nat.le_refl _)
  have c0_0_19 : η 0 19 = η 0 19 := rfl
  have w0_0_44 : (0 : Int) ≤ η 0 44 ∧ η 0 44 ≤ 64 := wf_ok (a := 44) (b := 44) (z := (0, 64)) hp.1 (by decide +kernel) (Nat.le_refl _) (Nat.le_refl _)
  have c0_0_44 : η 0 44 = η 0 44 := rfl
  have bx4 : (0 : Int) ≤ x4 ∧ x4 ≤ 1 := k4.1.2.1
  have w1_0_7 : (0 : Int) ≤ η1 0 7 ∧ η1 0 7 ≤ 700 := wf_ok (a := 7) (b := 7) (z := (0, 700)) k4.1.1 (by decide +kernel) (Nat.le_refl _) (Nat.le_refl _)
  have d1_0_7 : η1 0 7 = η1 0 7 := rfl
  have v7 : zEq (η1 0 6) (η 0 6) := (k4.1.2.2.2.1 0 6 (by decide +kernel)).trans rfl
  have d1_0_6 : η1 0 6 = η 0 6 := v7
  have w1_0_8 : (0 : Int) ≤ η1 0 8 ∧ η1 0 8 ≤ 6 := wf_ok (a := 8) (b := 8) (z := (0, 6)) k4.1.1 (by decide +kernel) (Nat.le_refl _) (Nat.le_refl _)
  have d1_0_8 : η1 0 8 = η1 0 8 := rfl
  have v9 : zEq (η1 0 19) (η 0 19) := (k4.1.2.2.2.1 0 19 (by decide +kernel)).trans rfl
  have d1_0_19 : η1 0 19 = η 0 19 := v9
  have v10 : zEq (η1 0 44) (η 0 44) := (k4.1.2.2.2.1 0 44 (by decide +kernel)).trans rfl
  have d1_0_44 : η1 0 44 = η 0 44 := v10
  have c1_0_7 : η1 0 7 = η1 0 7 := rfl
  have c1_0_6 : η1 0 6 = η 0 6 := v7
  have c1_0_8 : η1 0 8 = η1 0 8 := rfl
  have c1_0_19 : η1 0 19 = η 0 19 := v9
  have c1_0_44 : η1 0 44 = η 0 44 := v10
  have bx5 : (0 : Int) ≤ x5 ∧ x5 ≤ 1 := k5.1.2.1
  have v11 : zEq (η2 0 7) (η1 0 7) := (k5.1.2.2.2.1 0 7 (by decide +kernel)).trans rfl
  have d2_0_7 : η2 0 7 = η1 0 7 := v11
  have v12 : zEq (η2 0 6) (η 0 6) := (k5.1.2.2.2.1 0 6 (by decide +kernel)).trans v7
  have d2_0_6 : η2 0 6 = η 0 6 := v12
  have v13 : zEq (η2 0 8) (η1 0 8) := (k5.1.2.2.2.1 0 8 (by decide +kernel)).trans rfl
  have d2_0_8 : η2 0 8 = η1 0 8 := v13
  have v14 : zEq (η2 0 19) (η 0 19) := (k5.1.2.2.2.1 0 19 (by decide +kernel)).trans v9
  have d2_0_19 : η2 0 19 = η 0 19 := v14
  have v15 : zEq (η2 0 44) (η 0 44) := (k5.1.2.2.2.1 0 44 (by decide +kernel)).trans v10
  have d2_0_44 : η2 0 44 = η 0 44 := v15
  have c2_0_7 : η2 0 7 = η1 0 7 := v11
  have c2_0_6 : η2 0 6 = η 0 6 := v12
  have c2_0_8 : η2 0 8 = η1 0 8 := v13
  have c2_0_19 : η2 0 19 = η 0 19 := v14
  have c2_0_44 : η2 0 44 = η 0 44 := v15
  have bx6 : (0 : Int) ≤ x6 ∧ x6 ≤ 0 := k6.1.2.1
  have v16 : zEq (η3 0 7) (η1 0 7) := (k6.1.2.2.2.1 0 7 (by decide +kernel)).trans v11
  have d3_0_7 : η3 0 7 = η1 0 7 := v16
  have v17 : zEq (η3 0 6) (η 0 6) := (k6.1.2.2.2.1 0 6 (by decide +kernel)).trans v12
  have d3_0_6 : η3 0 6 = η 0 6 := v17
  have v18 : zEq (η3 0 8) (η1 0 8) := (k6.1.2.2.2.1 0 8 (by decide +kernel)).trans v13
  have d3_0_8 : η3 0 8 = η1 0 8 := v18
  have v19 : zEq (η3 0 19) (η 0 19) := (k6.1.2.2.2.1 0 19 (by decide +kernel)).trans v14
  have d3_0_19 : η3 0 19 = η 0 19 := v19
  have v20 : zEq (η3 0 44) (η 0 44) := (k6.1.2.2.2.1 0 44 (by decide +kernel)).trans v15
  have d3_0_44 : η3 0 44 = η 0 44 := v20
  have fr16_0 : ∀ j, η 16 j = η 16 j := fun _ => rfl
  have v21 : ∀ j, η1 16 j = η 16 j := fun j => k4.1.2.2.2.1 16 _ (zinr_not (by decide +kernel))
  have fr16_1 : ∀ j, η1 16 j = η 16 j := v21
  have v22 : ∀ j, η2 16 j = η 16 j := fun j => (k5.1.2.2.2.1 16 _ (zinr_not (by decide +kernel))).trans (v21 j)
  have fr16_2 : ∀ j, η2 16 j = η 16 j := v22
  have v23 : ∀ j, η3 16 j = η 16 j := fun j => (k6.1.2.2.2.1 16 _ (zinr_not (by decide +kernel))).trans (v22 j)
  have fr16_3 : ∀ j, η3 16 j = η 16 j := v23
  have fr18_0 : ∀ j, η 18 j = η 18 j := fun _ => rfl
  have v24 : ∀ j, η1 18 j = η 18 j := fun j => k4.1.2.2.2.1 18 _ (zinr_not (by decide +kernel))
  have fr18_1 : ∀ j, η1 18 j = η 18 j := v24
  have v25 : ∀ j, η2 18 j = η 18 j := fun j => (k5.1.2.2.2.1 18 _ (zinr_not (by decide +kernel))).trans (v24 j)
  have fr18_2 : ∀ j, η2 18 j = η 18 j := v25
  have v26 : ∀ j, η3 18 j = η 18 j := fun j => (k6.1.2.2.2.1 18 _ (zinr_not (by decide +kernel))).trans (v25 j)
  have fr18_3 : ∀ j, η3 18 j = η 18 j := v26
  have f0_7 : η3 0 7 = η1 0 7 := v16
  have f0_6 : η3 0 6 = η 0 6 := v17
  have f0_8 : η3 0 8 = η1 0 8 := v18
  have f0_19 : η3 0 19 = η 0 19 := v19
  have f0_44 : η3 0 44 = η 0 44 := v20
  have qn4 : ¬ x4 = 0 → 10 * (η1 0 6 - η1 0 7) + η1 0 8 < 10 * (η 0 6 - η 0 7) + η 0 8 := k4.2.2
  have qs5 : ¬ x5 = 0 → η1 0 8 = 4 := k5.2.2
  exact ⟨k6.2.1.1, pl_d (k6.2.2) (by decide), fun w => absurd (show (x6 : Int) = 0 by apply Int.le_antisymm <;> omega) w⟩
set_option maxHeartbeats 8000000 in
theorem zn_lineRead_o62 {ro : Nat → List Int32} (η : zE) (hp : sP wl_n zTr zPn_lineRead [] η) (hpp : pPn_lineRead [] η) : ∀ x1 : Int, x1 = η 0 (Int.toNat 8) → zok 0 x1 → (x1 = 1) → ∀ x2 : Int, x2 = η 0 (Int.toNat 9) → zok 0 x2 → (x2 ≤ 6) → ∀ x3 : Int, x3 = η 0 (Int.toNat 9) → zok 0 x3 → (x3 = 3) → ∀ (x4 : Int) (η1 : zE), ((gC2 wl_n [(nat_lit 0, zPn_wrong, zOn_wrong, zMn_wrong), (nat_lit 1, zPn_isSign, zOn_isSign, zMn_isSign), (nat_lit 2, zPn_token1, zOn_token1, zMn_token1), (nat_lit 3, zPn_grooveLine, zOn_grooveLine, zMn_grooveLine), (nat_lit 4, zPn_scratLine, zOn_scratLine, zMn_scratLine), (nat_lit 5, zPn_guestLine, zOn_guestLine, zMn_guestLine), (nat_lit 6, zPn_onceLine0, zOn_onceLine0, zMn_onceLine0), (nat_lit 7, zPn_onceLine1, zOn_onceLine1, zMn_onceLine1), (nat_lit 8, zPn_onceLine2, zOn_onceLine2, zMn_onceLine2), (nat_lit 9, zPn_sumRead, zOn_sumRead, zMn_sumRead)] pCn_lineRead qCn_lineRead) 6).2 [] η x4 η1 → (x4 = 0) → (fun (_ : Nat) (y : Int) (η' : zE) => pQn_lineRead [] η y η') 0 0 η1 := by
  intro x1 e1 r1 c1 x2 e2 r2 c2 x3 e3 r3 c3 x4 η1 h4 c4
  have k4 : sQ wl_n zTr zOn_onceLine0 zMn_onceLine0 [] η x4 η1 ∧ pQn_onceLine0 [] η x4 η1 := h4
  have w0_0_8 : (0 : Int) ≤ η 0 8 ∧ η 0 8 ≤ 6 := wf_ok (a := 8) (b := 8) (z := (0, 6)) hp.1 (by decide +kernel) (Nat.le_refl _) (Nat.le_refl _)
  replace e1 : x1 = η 0 8 := e1
  replace e2 : x2 = η 0 9 := e2
  replace r2 : -2147483648 ≤ x2 ∧ x2 ≤ 2147483647 := r2
  replace e3 : x3 = η 0 9 := e3
  replace r3 : -2147483648 ≤ x3 ∧ x3 ≤ 2147483647 := r3
  have w0_0_7 : (0 : Int) ≤ η 0 7 ∧ η 0 7 ≤ 700 := wf_ok (a := 7) (b := 7) (z := (0, 700)) hp.1 (by decide +kernel) (Nat.le_refl _) (Nat.le_refl _)
  have c0_0_7 : η 0 7 = η 0 7 := rfl
  have w0_0_6 : (0 : Int) ≤ η 0 6 ∧ η 0 6 ≤ 700 := wf_ok (a := 6) (b := 6) (z := (0, 700)) hp.1 (by decide +kernel) (Nat.le_refl _) (Nat.le_refl _)
  have c0_0_6 : η 0 6 = η 0 6 := rfl
  have c0_0_8 : η 0 8 = η 0 8 := rfl
  have w0_0_19 : (0 : Int) ≤ η 0 19 ∧ η 0 19 ≤ 64 := wf_ok (a := 19) (b := 19) (z := (0, 64)) hp.1 (by decide +kernel) (Nat.le_refl _) (Nat.le_refl _)
  have c0_0_19 : η 0 19 = η 0 19 := rfl
  have w0_0_44 : (0 : Int) ≤ η 0 44 ∧ η 0 44 ≤ 64 := wf_ok (a := 44) (b := 44) (z := (0, 64)) hp.1 (by decide +kernel) (Nat.le_refl _) (Nat.le_refl _)
  have c0_0_44 : η 0 44 = η 0 44 := rfl
  have bx4 : (0 : Int) ≤ x4 ∧ x4 ≤ 1 := k4.1.2.1
  have w1_0_7 : (0 : Int) ≤ η1 0 7 ∧ η1 0 7 ≤ 700 := wf_ok (a := 7) (b := 7) (z := (0, 700)) k4.1.1 (by decide +kernel) (Nat.le_refl _) (Nat.le_refl _)
  have d1_0_7 : η1 0 7 = η1 0 7 := rfl
  have v7 : zEq (η1 0 6) (η 0 6) := (k4.1.2.2.2.1 0 6 (by decide +kernel)).trans rfl
  have d1_0_6 : η1 0 6 = η 0 6 := v7
  have w1_0_8 : (0 : Int) ≤ η1 0 8 ∧ η1 0 8 ≤ 6 := wf_ok (a := 8) (b := 8) (z := (0, 6)) k4.1.1 (by decide +kernel) (Nat.le_refl _) (Nat.le_refl _)
  have d1_0_8 : η1 0 8 = η1 0 8 := rfl
  have v9 : zEq (η1 0 19) (η 0 19) := (k4.1.2.2.2.1 0 19 (by decide +kernel)).trans rfl
  have d1_0_19 : η1 0 19 = η 0 19 := v9
  have v10 : zEq (η1 0 44) (η 0 44) := (k4.1.2.2.2.1 0 44 (by decide +kernel)).trans rfl
  have d1_0_44 : η1 0 44 = η 0 44 := v10
  have fr16_0 : ∀ j, η 16 j = η 16 j := fun _ => rfl
  have v11 : ∀ j, η1 16 j = η 16 j := fun j => k4.1.2.2.2.1 16 _ (zinr_not (by decide +kernel))
  have fr16_1 : ∀ j, η1 16 j = η 16 j := v11
  have fr18_0 : ∀ j, η 18 j = η 18 j := fun _ => rfl
  have v12 : ∀ j, η1 18 j = η 18 j := fun j => k4.1.2.2.2.1 18 _ (zinr_not (by decide +kernel))
  have fr18_1 : ∀ j, η1 18 j = η 18 j := v12
  have f0_7 : η1 0 7 = η1 0 7 := rfl
  have f0_6 : η1 0 6 = η 0 6 := v7
  have f0_8 : η1 0 8 = η1 0 8 := rfl
  have f0_19 : η1 0 19 = η 0 19 := v9
  have f0_44 : η1 0 44 = η 0 44 := v10
  have qn4 : ¬ x4 = 0 → 10 * (η1 0 6 - η1 0 7) + η1 0 8 < 10 * (η 0 6 - η 0 7) + η 0 8 := k4.2.2
  exact ⟨k4.2.1.1.1, pl_d (k4.2.1.2) (by decide), fun w => absurd (show (0 : Int) = 0 by apply Int.le_antisymm <;> omega) w⟩
set_option maxHeartbeats 8000000 in
theorem zn_lineRead_o63 {ro : Nat → List Int32} (η : zE) (hp : sP wl_n zTr zPn_lineRead [] η) (hpp : pPn_lineRead [] η) : ∀ x1 : Int, x1 = η 0 (Int.toNat 8) → zok 0 x1 → (x1 = 1) → ∀ x2 : Int, x2 = η 0 (Int.toNat 9) → zok 0 x2 → (x2 ≤ 6) → ∀ x3 : Int, x3 = η 0 (Int.toNat 9) → zok 0 x3 → (x3 = 4) → ((gC2 wl_n [(nat_lit 0, zPn_wrong, zOn_wrong, zMn_wrong), (nat_lit 1, zPn_isSign, zOn_isSign, zMn_isSign), (nat_lit 2, zPn_token1, zOn_token1, zMn_token1), (nat_lit 3, zPn_grooveLine, zOn_grooveLine, zMn_grooveLine), (nat_lit 4, zPn_scratLine, zOn_scratLine, zMn_scratLine), (nat_lit 5, zPn_guestLine, zOn_guestLine, zMn_guestLine), (nat_lit 6, zPn_onceLine0, zOn_onceLine0, zMn_onceLine0), (nat_lit 7, zPn_onceLine1, zOn_onceLine1, zMn_onceLine1), (nat_lit 8, zPn_onceLine2, zOn_onceLine2, zMn_onceLine2), (nat_lit 9, zPn_sumRead, zOn_sumRead, zMn_sumRead)] pCn_lineRead qCn_lineRead) 7).1 [] η := by
  intro x1 e1 r1 c1 x2 e2 r2 c2 x3 e3 r3 c3
  have w0_0_8 : (0 : Int) ≤ η 0 8 ∧ η 0 8 ≤ 6 := wf_ok (a := 8) (b := 8) (z := (0, 6)) hp.1 (by decide +kernel) (Nat.le_refl _) (Nat.le_refl _)
  replace e1 : x1 = η 0 8 := e1
  replace e2 : x2 = η 0 9 := e2
  replace r2 : -2147483648 ≤ x2 ∧ x2 ≤ 2147483647 := r2
  replace e3 : x3 = η 0 9 := e3
  replace r3 : -2147483648 ≤ x3 ∧ x3 ≤ 2147483647 := r3
  have fr16_0 : ∀ j, η 16 j = η 16 j := fun _ => rfl
  have fr18_0 : ∀ j, η 18 j = η 18 j := fun _ => rfl
  have w0_0_7 : (0 : Int) ≤ η 0 7 ∧ η 0 7 ≤ 700 := wf_ok (a := 7) (b := 7) (z := (0, 700)) hp.1 (by decide +kernel) (Nat.le_refl _) (Nat.le_refl _)
  have f0_7 : η 0 7 = η 0 7 := rfl
  have w0_0_6 : (0 : Int) ≤ η 0 6 ∧ η 0 6 ≤ 700 := wf_ok (a := 6) (b := 6) (z := (0, 700)) hp.1 (by decide +kernel) (Nat.le_refl _) (Nat.le_refl _)
  have f0_6 : η 0 6 = η 0 6 := rfl
  have f0_8 : η 0 8 = η 0 8 := rfl
  have w0_0_19 : (0 : Int) ≤ η 0 19 ∧ η 0 19 ≤ 64 := wf_ok (a := 19) (b := 19) (z := (0, 64)) hp.1 (by decide +kernel) (Nat.le_refl _) (Nat.le_refl _)
  have f0_19 : η 0 19 = η 0 19 := rfl
  have w0_0_44 : (0 : Int) ≤ η 0 44 ∧ η 0 44 ≤ 64 := wf_ok (a := 44) (b := 44) (z := (0, 64)) hp.1 (by decide +kernel) (Nat.le_refl _) (Nat.le_refl _)
  have f0_44 : η 0 44 = η 0 44 := rfl
  exact ⟨⟨hpp.1, hpp.2⟩, show ¬ η 0 8 = 0 by omega⟩
set_option maxHeartbeats 8000000 in
theorem zn_lineRead_o64 {ro : Nat → List Int32} (η : zE) (hp : sP wl_n zTr zPn_lineRead [] η) (hpp : pPn_lineRead [] η) : ∀ x1 : Int, x1 = η 0 (Int.toNat 8) → zok 0 x1 → (x1 = 1) → ∀ x2 : Int, x2 = η 0 (Int.toNat 9) → zok 0 x2 → (x2 ≤ 6) → ∀ x3 : Int, x3 = η 0 (Int.toNat 9) → zok 0 x3 → (x3 = 4) → ∀ (x4 : Int) (η1 : zE), ((gC2 wl_n [(nat_lit 0, zPn_wrong, zOn_wrong, zMn_wrong), (nat_lit 1, zPn_isSign, zOn_isSign, zMn_isSign), (nat_lit 2, zPn_token1, zOn_token1, zMn_token1), (nat_lit 3, zPn_grooveLine, zOn_grooveLine, zMn_grooveLine), (nat_lit 4, zPn_scratLine, zOn_scratLine, zMn_scratLine), (nat_lit 5, zPn_guestLine, zOn_guestLine, zMn_guestLine), (nat_lit 6, zPn_onceLine0, zOn_onceLine0, zMn_onceLine0), (nat_lit 7, zPn_onceLine1, zOn_onceLine1, zMn_onceLine1), (nat_lit 8, zPn_onceLine2, zOn_onceLine2, zMn_onceLine2), (nat_lit 9, zPn_sumRead, zOn_sumRead, zMn_sumRead)] pCn_lineRead qCn_lineRead) 7).2 [] η x4 η1 → (¬ x4 = 0) → ((gC2 wl_n [(nat_lit 0, zPn_wrong, zOn_wrong, zMn_wrong), (nat_lit 1, zPn_isSign, zOn_isSign, zMn_isSign), (nat_lit 2, zPn_token1, zOn_token1, zMn_token1), (nat_lit 3, zPn_grooveLine, zOn_grooveLine, zMn_grooveLine), (nat_lit 4, zPn_scratLine, zOn_scratLine, zMn_scratLine), (nat_lit 5, zPn_guestLine, zOn_guestLine, zMn_guestLine), (nat_lit 6, zPn_onceLine0, zOn_onceLine0, zMn_onceLine0), (nat_lit 7, zPn_onceLine1, zOn_onceLine1, zMn_onceLine1), (nat_lit 8, zPn_onceLine2, zOn_onceLine2, zMn_onceLine2), (nat_lit 9, zPn_sumRead, zOn_sumRead, zMn_sumRead)] pCn_lineRead qCn_lineRead) 1).1 [59] η1 := by
  intro x1 e1 r1 c1 x2 e2 r2 c2 x3 e3 r3 c3 x4 η1 h4 c4
  have k4 : sQ wl_n zTr zOn_onceLine1 zMn_onceLine1 [] η x4 η1 ∧ pQn_onceLine1 [] η x4 η1 := h4
  have w0_0_8 : (0 : Int) ≤ η 0 8 ∧ η 0 8 ≤ 6 := wf_ok (a := 8) (b := 8) (z := (0, 6)) hp.1 (by decide +kernel) (Nat.le_refl _) (Nat.le_refl _)
  replace e1 : x1 = η 0 8 := e1
  replace e2 : x2 = η 0 9 := e2
  replace r2 : -2147483648 ≤ x2 ∧ x2 ≤ 2147483647 := r2
  replace e3 : x3 = η 0 9 := e3
  replace r3 : -2147483648 ≤ x3 ∧ x3 ≤ 2147483647 := r3
  have w0_0_7 : (0 : Int) ≤ η 0 7 ∧ η 0 7 ≤ 700 := wf_ok (a := 7) (b := 7) (z := (0, 700)) hp.1 (by decide +kernel) (Nat.le_refl _) (Nat.le_refl _)
  have c0_0_7 : η 0 7 = η 0 7 := rfl
  have w0_0_6 : (0 : Int) ≤ η 0 6 ∧ η 0 6 ≤ 700 := wf_ok (a := 6) (b := 6) (z := (0, 700)) hp.1 (by decide +kernel) (Nat.le_refl _) (Nat.le_refl _)
  have c0_0_6 : η 0 6 = η 0 6 := rfl
  have c0_0_8 : η 0 8 = η 0 8 := rfl
  have w0_0_19 : (0 : Int) ≤ η 0 19 ∧ η 0 19 ≤ 64 := wf_ok (a := 19) (b := 19) (z := (0, 64)) hp.1 (by decide +kernel) (Nat.le_refl _) (Nat.le_refl _)
  have c0_0_19 : η 0 19 = η 0 19 := rfl
  have w0_0_44 : (0 : Int) ≤ η 0 44 ∧ η 0 44 ≤ 64 := wf_ok (a := 44) (b := 44) (z := (0, 64)) hp.1 (by decide +kernel) (Nat.le_refl _) (Nat.le_refl _)
  have c0_0_44 : η 0 44 = η 0 44 := rfl
  have bx4 : (0 : Int) ≤ x4 ∧ x4 ≤ 1 := k4.1.2.1
  have w1_0_7 : (0 : Int) ≤ η1 0 7 ∧ η1 0 7 ≤ 700 := wf_ok (a := 7) (b := 7) (z := (0, 700)) k4.1.1 (by decide +kernel) (Nat.le_refl _) (Nat.le_refl _)
  have d1_0_7 : η1 0 7 = η1 0 7 := rfl
  have v7 : zEq (η1 0 6) (η 0 6) := (k4.1.2.2.2.1 0 6 (by decide +kernel)).trans rfl
  have d1_0_6 : η1 0 6 = η 0 6 := v7
  have w1_0_8 : (0 : Int) ≤ η1 0 8 ∧ η1 0 8 ≤ 6 := wf_ok (a := 8) (b := 8) (z := (0, 6)) k4.1.1 (by decide +kernel) (Nat.le_refl _) (Nat.le_refl _)
  have d1_0_8 : η1 0 8 = η1 0 8 := rfl
  have v9 : zEq (η1 0 19) (η 0 19) := (k4.1.2.2.2.1 0 19 (by decide +kernel)).trans rfl
  have d1_0_19 : η1 0 19 = η 0 19 := v9
  have v10 : zEq (η1 0 44) (η 0 44) := (k4.1.2.2.2.1 0 44 (by decide +kernel)).trans rfl
  have d1_0_44 : η1 0 44 = η 0 44 := v10
  have fr16_0 : ∀ j, η 16 j = η 16 j := fun _ => rfl
  have v11 : ∀ j, η1 16 j = η 16 j := fun j => k4.1.2.2.2.1 16 _ (zinr_not (by decide +kernel))
  have fr16_1 : ∀ j, η1 16 j = η 16 j := v11
  have fr18_0 : ∀ j, η 18 j = η 18 j := fun _ => rfl
  have v12 : ∀ j, η1 18 j = η 18 j := fun j => k4.1.2.2.2.1 18 _ (zinr_not (by decide +kernel))
  have fr18_1 : ∀ j, η1 18 j = η 18 j := v12
  have f0_7 : η1 0 7 = η1 0 7 := rfl
  have f0_6 : η1 0 6 = η 0 6 := v7
  have f0_8 : η1 0 8 = η1 0 8 := rfl
  have f0_19 : η1 0 19 = η 0 19 := v9
  have f0_44 : η1 0 44 = η 0 44 := v10
  have qn4 : ¬ x4 = 0 → 10 * (η1 0 6 - η1 0 7) + η1 0 8 < 10 * (η 0 6 - η 0 7) + η 0 8 := k4.2.2
  exact ⟨k4.2.1.1, k4.2.1.2⟩
set_option maxHeartbeats 8000000 in
theorem zn_lineRead_o65 {ro : Nat → List Int32} (η : zE) (hp : sP wl_n zTr zPn_lineRead [] η) (hpp : pPn_lineRead [] η) : ∀ x1 : Int, x1 = η 0 (Int.toNat 8) → zok 0 x1 → (x1 = 1) → ∀ x2 : Int, x2 = η 0 (Int.toNat 9) → zok 0 x2 → (x2 ≤ 6) → ∀ x3 : Int, x3 = η 0 (Int.toNat 9) → zok 0 x3 → (x3 = 4) → ∀ (x4 : Int) (η1 : zE), ((gC2 wl_n [(nat_lit 0, zPn_wrong, zOn_wrong, zMn_wrong), (nat_lit 1, zPn_isSign, zOn_isSign, zMn_isSign), (nat_lit 2, zPn_token1, zOn_token1, zMn_token1), (nat_lit 3, zPn_grooveLine, zOn_grooveLine, zMn_grooveLine), (nat_lit 4, zPn_scratLine, zOn_scratLine, zMn_scratLine), (nat_lit 5, zPn_guestLine, zOn_guestLine, zMn_guestLine), (nat_lit 6, zPn_onceLine0, zOn_onceLine0, zMn_onceLine0), (nat_lit 7, zPn_onceLine1, zOn_onceLine1, zMn_onceLine1), (nat_lit 8, zPn_onceLine2, zOn_onceLine2, zMn_onceLine2), (nat_lit 9, zPn_sumRead, zOn_sumRead, zMn_sumRead)] pCn_lineRead qCn_lineRead) 7).2 [] η x4 η1 → (¬ x4 = 0) → ∀ (x5 : Int) (η2 : zE), ((gC2 wl_n [(nat_lit 0, zPn_wrong, zOn_wrong, zMn_wrong), (nat_lit 1, zPn_isSign, zOn_isSign, zMn_isSign), (nat_lit 2, zPn_token1, zOn_token1, zMn_token1), (nat_lit 3, zPn_grooveLine, zOn_grooveLine, zMn_grooveLine), (nat_lit 4, zPn_scratLine, zOn_scratLine, zMn_scratLine), (nat_lit 5, zPn_guestLine, zOn_guestLine, zMn_guestLine), (nat_lit 6, zPn_onceLine0, zOn_onceLine0, zMn_onceLine0), (nat_lit 7, zPn_onceLine1, zOn_onceLine1, zMn_onceLine1), (nat_lit 8, zPn_onceLine2, zOn_onceLine2, zMn_onceLine2), (nat_lit 9, zPn_sumRead, zOn_sumRead, zMn_sumRead)] pCn_lineRead qCn_lineRead) 1).2 [59] η1 x5 η2 → (¬ x5 = 0) → ((gC2 wl_n [(nat_lit 0, zPn_wrong, zOn_wrong, zMn_wrong), (nat_lit 1, zPn_isSign, zOn_isSign, zMn_isSign), (nat_lit 2, zPn_token1, zOn_token1, zMn_token1), (nat_lit 3, zPn_grooveLine, zOn_grooveLine, zMn_grooveLine), (nat_lit 4, zPn_scratLine, zOn_scratLine, zMn_scratLine), (nat_lit 5, zPn_guestLine, zOn_guestLine, zMn_guestLine), (nat_lit 6, zPn_onceLine0, zOn_onceLine0, zMn_onceLine0), (nat_lit 7, zPn_onceLine1, zOn_onceLine1, zMn_onceLine1), (nat_lit 8, zPn_onceLine2, zOn_onceLine2, zMn_onceLine2), (nat_lit 9, zPn_sumRead, zOn_sumRead, zMn_sumRead)] pCn_lineRead qCn_lineRead) 2).1 [] η2 := by
  intro x1 e1 r1 c1 x2 e2 r2 c2 x3 e3 r3 c3 x4 η1 h4 c4 x5 η2 h5 c5
  have k4 : sQ wl_n zTr zOn_onceLine1 zMn_onceLine1 [] η x4 η1 ∧ pQn_onceLine1 [] η x4 η1 := h4
  have k5 : sQ wl_n zTr zOn_isSign zMn_isSign [59] η1 x5 η2 ∧ pQn_isSign [59] η1 x5 η2 := h5
  have w0_0_8 : (0 : Int) ≤ η 0 8 ∧ η 0 8 ≤ 6 := wf_ok (a := 8) (b := 8) (z := (0, 6)) hp.1 (by decide +kernel) (Nat.le_refl _) (Nat.le_refl _)
  replace e1 : x1 = η 0 8 := e1
  replace e2 : x2 = η 0 9 := e2
  replace r2 : -2147483648 ≤ x2 ∧ x2 ≤ 2147483647 := r2
  replace e3 : x3 = η 0 9 := e3
  replace r3 : -2147483648 ≤ x3 ∧ x3 ≤ 2147483647 := r3
  have w0_0_7 : (0 : Int) ≤ η 0 7 ∧ η 0 7 ≤ 700 := wf_ok (a := 7) (b := 7) (z := (0, 700)) hp.1 (by decide +kernel) (Nat.le_refl _) (Nat.le_refl _)
  have c0_0_7 : η 0 7 = η 0 7 := rfl
  have w0_0_6 : (0 : Int) ≤ η 0 6 ∧ η 0 6 ≤ 700 := wf_ok (a := 6) (b := 6) (z := (0, 700)) hp.1 (by decide +kernel) (Nat.le_refl _) (Nat.le_refl _)
  have c0_0_6 : η 0 6 = η 0 6 := rfl
  have c0_0_8 : η 0 8 = η 0 8 := rfl
  have w0_0_19 : (0 : Int) ≤ η 0 19 ∧ η 0 19 ≤ 64 := wf_ok (a := 19) (b := 19) (z := (0, 64)) hp.1 (by decide +kernel) (Nat.le_refl _) (Nat.le_refl _)
  have c0_0_19 : η 0 19 = η 0 19 := rfl
  have w0_0_44 : (0 : Int) ≤ η 0 44 ∧ η 0 44 ≤ 64 := wf_ok (a := 44) (b := 44) (z := (0, 64)) hp.1 (by decide +kernel) (Nat.le_refl _) (Nat.le_refl _)
  have c0_0_44 : η 0 44 = η 0 44 := rfl
  have bx4 : (0 : Int) ≤ x4 ∧ x4 ≤ 1 := k4.1.2.1
  have w1_0_7 : (0 : Int) ≤ η1 0 7 ∧ η1 0 7 ≤ 700 := wf_ok (a := 7) (b := 7) (z := (0, 700)) k4.1.1 (by decide +kernel) (Nat.le_refl _) (Nat.le_refl _)
  have d1_0_7 : η1 0 7 = η1 0 7 := rfl
  have v7 : zEq (η1 0 6) (η 0 6) := (k4.1.2.2.2.1 0 6 (by decide +kernel)).trans rfl
  have d1_0_6 : η1 0 6 = η 0 6 := v7
  have w1_0_8 : (0 : Int) ≤ η1 0 8 ∧ η1 0 8 ≤ 6 := wf_ok (a := 8) (b := 8) (z := (0, 6)) k4.1.1 (by decide +kernel) (Nat.le_refl _) (Nat.le_refl _)
  have d1_0_8 : η1 0 8 = η1 0 8 := rfl
  have v9 : zEq (η1 0 19) (η 0 19) := (k4.1.2.2.2.1 0 19 (by decide +kernel)).trans rfl
  have d1_0_19 : η1 0 19 = η 0 19 := v9
  have v10 : zEq (η1 0 44) (η 0 44) := (k4.1.2.2.2.1 0 44 (by decide +kernel)).trans rfl
  have d1_0_44 : η1 0 44 = η 0 44 := v10
  have c1_0_7 : η1 0 7 = η1 0 7 := rfl
  have c1_0_6 : η1 0 6 = η 0 6 := v7
  have c1_0_8 : η1 0 8 = η1 0 8 := rfl
  have c1_0_19 : η1 0 19 = η 0 19 := v9
  have c1_0_44 : η1 0 44 = η 0 44 := v10
  have bx5 : (0 : Int) ≤ x5 ∧ x5 ≤ 1 := k5.1.2.1
  have v11 : zEq (η2 0 7) (η1 0 7) := (k5.1.2.2.2.1 0 7 (by decide +kernel)).trans rfl
  have d2_0_7 : η2 0 7 = η1 0 7 := v11
  have v12 : zEq (η2 0 6) (η 0 6) := (k5.1.2.2.2.1 0 6 (by decide +kernel)).trans v7
  have d2_0_6 : η2 0 6 = η 0 6 := v12
  have v13 : zEq (η2 0 8) (η1 0 8) := (k5.1.2.2.2.1 0 8 (by decide +kernel)).trans rfl
  have d2_0_8 : η2 0 8 = η1 0 8 := v13
  have v14 : zEq (η2 0 19) (η 0 19) := (k5.1.2.2.2.1 0 19 (by decide +kernel)).trans v9
  have d2_0_19 : η2 0 19 = η 0 19 := v14
  have v15 : zEq (η2 0 44) (η 0 44) := (k5.1.2.2.2.1 0 44 (by decide +kernel)).trans v10
  have d2_0_44 : η2 0 44 = η 0 44 := v15
  have fr16_0 : ∀ j, η 16 j = η 16 j := fun _ => rfl
  have v16 : ∀ j, η1 16 j = η 16 j := fun j => k4.1.2.2.2.1 16 _ (zinr_not (by decide +kernel))
  have fr16_1 : ∀ j, η1 16 j = η 16 j := v16
  have v17 : ∀ j, η2 16 j = η 16 j := fun j => (k5.1.2.2.2.1 16 _ (zinr_not (by decide +kernel))).trans (v16 j)
  have fr16_2 : ∀ j, η2 16 j = η 16 j := v17
  have fr18_0 : ∀ j, η 18 j = η 18 j := fun _ => rfl
  have v18 : ∀ j, η1 18 j = η 18 j := fun j => k4.1.2.2.2.1 18 _ (zinr_not (by decide +kernel))
  have fr18_1 : ∀ j, η1 18 j = η 18 j := v18
  have v19 : ∀ j, η2 18 j = η 18 j := fun j => (k5.1.2.2.2.1 18 _ (zinr_not (by decide +kernel))).trans (v18 j)
  have fr18_2 : ∀ j, η2 18 j = η 18 j := v19
  have f0_7 : η2 0 7 = η1 0 7 := v11
  have f0_6 : η2 0 6 = η 0 6 := v12
  have f0_8 : η2 0 8 = η1 0 8 := v13
  have f0_19 : η2 0 19 = η 0 19 := v14
  have f0_44 : η2 0 44 = η 0 44 := v15
  have qn4 : ¬ x4 = 0 → 10 * (η1 0 6 - η1 0 7) + η1 0 8 < 10 * (η 0 6 - η 0 7) + η 0 8 := k4.2.2
  have qs5 : ¬ x5 = 0 → η1 0 8 = 4 := k5.2.2
  exact k5.2.1.1
set_option maxHeartbeats 8000000 in
theorem zn_lineRead_o66 {ro : Nat → List Int32} (η : zE) (hp : sP wl_n zTr zPn_lineRead [] η) (hpp : pPn_lineRead [] η) : ∀ x1 : Int, x1 = η 0 (Int.toNat 8) → zok 0 x1 → (x1 = 1) → ∀ x2 : Int, x2 = η 0 (Int.toNat 9) → zok 0 x2 → (x2 ≤ 6) → ∀ x3 : Int, x3 = η 0 (Int.toNat 9) → zok 0 x3 → (x3 = 4) → ∀ (x4 : Int) (η1 : zE), ((gC2 wl_n [(nat_lit 0, zPn_wrong, zOn_wrong, zMn_wrong), (nat_lit 1, zPn_isSign, zOn_isSign, zMn_isSign), (nat_lit 2, zPn_token1, zOn_token1, zMn_token1), (nat_lit 3, zPn_grooveLine, zOn_grooveLine, zMn_grooveLine), (nat_lit 4, zPn_scratLine, zOn_scratLine, zMn_scratLine), (nat_lit 5, zPn_guestLine, zOn_guestLine, zMn_guestLine), (nat_lit 6, zPn_onceLine0, zOn_onceLine0, zMn_onceLine0), (nat_lit 7, zPn_onceLine1, zOn_onceLine1, zMn_onceLine1), (nat_lit 8, zPn_onceLine2, zOn_onceLine2, zMn_onceLine2), (nat_lit 9, zPn_sumRead, zOn_sumRead, zMn_sumRead)] pCn_lineRead qCn_lineRead) 7).2 [] η x4 η1 → (¬ x4 = 0) → ∀ (x5 : Int) (η2 : zE), ((gC2 wl_n [(nat_lit 0, zPn_wrong, zOn_wrong, zMn_wrong), (nat_lit 1, zPn_isSign, zOn_isSign, zMn_isSign), (nat_lit 2, zPn_token1, zOn_token1, zMn_token1), (nat_lit 3, zPn_grooveLine, zOn_grooveLine, zMn_grooveLine), (nat_lit 4, zPn_scratLine, zOn_scratLine, zMn_scratLine), (nat_lit 5, zPn_guestLine, zOn_guestLine, zMn_guestLine), (nat_lit 6, zPn_onceLine0, zOn_onceLine0, zMn_onceLine0), (nat_lit 7, zPn_onceLine1, zOn_onceLine1, zMn_onceLine1), (nat_lit 8, zPn_onceLine2, zOn_onceLine2, zMn_onceLine2), (nat_lit 9, zPn_sumRead, zOn_sumRead, zMn_sumRead)] pCn_lineRead qCn_lineRead) 1).2 [59] η1 x5 η2 → (¬ x5 = 0) → ∀ (x6 : Int) (η3 : zE), ((gC2 wl_n [(nat_lit 0, zPn_wrong, zOn_wrong, zMn_wrong), (nat_lit 1, zPn_isSign, zOn_isSign, zMn_isSign), (nat_lit 2, zPn_token1, zOn_token1, zMn_token1), (nat_lit 3, zPn_grooveLine, zOn_grooveLine, zMn_grooveLine), (nat_lit 4, zPn_scratLine, zOn_scratLine, zMn_scratLine), (nat_lit 5, zPn_guestLine, zOn_guestLine, zMn_guestLine), (nat_lit 6, zPn_onceLine0, zOn_onceLine0, zMn_onceLine0), (nat_lit 7, zPn_onceLine1, zOn_onceLine1, zMn_onceLine1), (nat_lit 8, zPn_onceLine2, zOn_onceLine2, zMn_onceLine2), (nat_lit 9, zPn_sumRead, zOn_sumRead, zMn_sumRead)] pCn_lineRead qCn_lineRead) 2).2 [] η2 x6 η3 → (fun (_ : Nat) (y : Int) (η' : zE) => pQn_lineRead [] η y η') 0 1 η3 := by
  intro x1 e1 r1 c1 x2 e2 r2 c2 x3 e3 r3 c3 x4 η1 h4 c4 x5 η2 h5 c5 x6 η3 h6
  have k4 : sQ wl_n zTr zOn_onceLine1 zMn_onceLine1 [] η x4 η1 ∧ pQn_onceLine1 [] η x4 η1 := h4
  have k5 : sQ wl_n zTr zOn_isSign zMn_isSign [59] η1 x5 η2 ∧ pQn_isSign [59] η1 x5 η2 := h5
  have k6 : sQ wl_n zTr zOn_token1 zMn_token1 [] η2 x6 η3 ∧ pQn_token1 [] η2 x6 η3 := h6
  have w0_0_8 : (0 : Int) ≤ η 0 8 ∧ η 0 8 ≤ 6 := wf_ok (a := 8) (b := 8) (z := (0, 6)) hp.1 (by decide +kernel) (Nat.le_refl _) (Nat.le_refl _)
  replace e1 : x1 = η 0 8 := e1
  replace e2 : x2 = η 0 9 := e2
  replace r2 : -2147483648 ≤ x2 ∧ x2 ≤ 2147483647 := r2
  replace e3 : x3 = η 0 9 := e3
  replace r3 : -2147483648 ≤ x3 ∧ x3 ≤ 2147483647 := r3
  have w0_0_7 : (0 : Int) ≤ η 0 7 ∧ η 0 7 ≤ 700 := wf_ok (a := 7) (b := 7) (z := (0, 700)) hp.1 (by decide +kernel) (Nat.le_refl _) (Nat.le_refl _)
  have c0_0_7 : η 0 7 = η 0 7 := rfl
  have w0_0_6 : (0 : Int) ≤ η 0 6 ∧ η 0 6 ≤ 700 := wf_ok (a := 6) (b := 6) (z := (0, 700)) hp.1 (by decide +kernel) (Nat.le_refl _) (Nat.le_refl _)
  have c0_0_6 : η 0 6 = η 0 6 := rfl
  have c0_0_8 : η 0 8 = η 0 8 := rfl
  have w0_0_19 : (0 : Int) ≤ η 0 19 ∧ η 0 19 ≤ 64 := wf_ok (a := 19) (b := 19) (z := (0, 64)) hp.1 (by decide +kernel) (Nat.le_refl _) (Nat.le_refl _)
  have c0_0_19 : η 0 19 = η 0 19 := rfl
  have w0_0_44 : (0 : Int) ≤ η 0 44 ∧ η 0 44 ≤ 64 := wf_ok (a := 44) (b := 44) (z := (0, 64)) hp.1 (by decide +kernel) (Nat.le_refl _) (Nat.le_refl _)
  have c0_0_44 : η 0 44 = η 0 44 := rfl
  have bx4 : (0 : Int) ≤ x4 ∧ x4 ≤ 1 := k4.1.2.1
  have w1_0_7 : (0 : Int) ≤ η1 0 7 ∧ η1 0 7 ≤ 700 := wf_ok (a := 7) (b := 7) (z := (0, 700)) k4.1.1 (by decide +kernel) (Nat.le_refl _) (Nat.le_refl _)
  have d1_0_7 : η1 0 7 = η1 0 7 := rfl
  have v7 : zEq (η1 0 6) (η 0 6) := (k4.1.2.2.2.1 0 6 (by decide +kernel)).trans rfl
  have d1_0_6 : η1 0 6 = η 0 6 := v7
  have w1_0_8 : (0 : Int) ≤ η1 0 8 ∧ η1 0 8 ≤ 6 := wf_ok (a := 8) (b := 8) (z := (0, 6)) k4.1.1 (by decide +kernel) (Nat.le_refl _) (Nat.le_refl _)
  have d1_0_8 : η1 0 8 = η1 0 8 := rfl
  have v9 : zEq (η1 0 19) (η 0 19) := (k4.1.2.2.2.1 0 19 (by decide +kernel)).trans rfl
  have d1_0_19 : η1 0 19 = η 0 19 := v9
  have v10 : zEq (η1 0 44) (η 0 44) := (k4.1.2.2.2.1 0 44 (by decide +kernel)).trans rfl
  have d1_0_44 : η1 0 44 = η 0 44 := v10
  have c1_0_7 : η1 0 7 = η1 0 7 := rfl
  have c1_0_6 : η1 0 6 = η 0 6 := v7
  have c1_0_8 : η1 0 8 = η1 0 8 := rfl
  have c1_0_19 : η1 0 19 = η 0 19 := v9
  have c1_0_44 : η1 0 44 = η 0 44 := v10
  have bx5 : (0 : Int) ≤ x5 ∧ x5 ≤ 1 := k5.1.2.1
  have v11 : zEq (η2 0 7) (η1 0 7) := (k5.1.2.2.2.1 0 7 (by decide +kernel)).trans rfl
  have d2_0_7 : η2 0 7 = η1 0 7 := v11
  have v12 : zEq (η2 0 6) (η 0 6) := (k5.1.2.2.2.1 0 6 (by decide +kernel)).trans v7
  have d2_0_6 : η2 0 6 = η 0 6 := v12
  have v13 : zEq (η2 0 8) (η1 0 8) := (k5.1.2.2.2.1 0 8 (by decide +kernel)).trans rfl
  have d2_0_8 : η2 0 8 = η1 0 8 := v13
  have v14 : zEq (η2 0 19) (η 0 19) := (k5.1.2.2.2.1 0 19 (by decide +kernel)).trans v9
  have d2_0_19 : η2 0 19 = η 0 19 := v14
  have v15 : zEq (η2 0 44) (η 0 44) := (k5.1.2.2.2.1 0 44 (by decide +kernel)).trans v10
  have d2_0_44 : η2 0 44 = η 0 44 := v15
  have c2_0_7 : η2 0 7 = η1 0 7 := v11
  have c2_0_6 : η2 0 6 = η 0 6 := v12
  have c2_0_8 : η2 0 8 = η1 0 8 := v13
  have c2_0_19 : η2 0 19 = η 0 19 := v14
  have c2_0_44 : η2 0 44 = η 0 44 := v15
  have bx6 : (0 : Int) ≤ x6 ∧ x6 ≤ 0 := k6.1.2.1
  have w3_0_7 : (0 : Int) ≤ η3 0 7 ∧ η3 0 7 ≤ 700 := wf_ok (a := 7) (b := 7) (z := (0, 700)) k6.1.1 (by decide +kernel) (Nat.le_refl _) (Nat.le_refl _)
  have d3_0_7 : η3 0 7 = η3 0 7 := rfl
  have v17 : zEq (η3 0 6) (η 0 6) := (k6.1.2.2.2.1 0 6 (by decide +kernel)).trans v12
  have d3_0_6 : η3 0 6 = η 0 6 := v17
  have w3_0_8 : (0 : Int) ≤ η3 0 8 ∧ η3 0 8 ≤ 6 := wf_ok (a := 8) (b := 8) (z := (0, 6)) k6.1.1 (by decide +kernel) (Nat.le_refl _) (Nat.le_refl _)
  have d3_0_8 : η3 0 8 = η3 0 8 := rfl
  have v19 : zEq (η3 0 19) (η 0 19) := (k6.1.2.2.2.1 0 19 (by decide +kernel)).trans v14
  have d3_0_19 : η3 0 19 = η 0 19 := v19
  have v20 : zEq (η3 0 44) (η 0 44) := (k6.1.2.2.2.1 0 44 (by decide +kernel)).trans v15
  have d3_0_44 : η3 0 44 = η 0 44 := v20
  have fr16_0 : ∀ j, η 16 j = η 16 j := fun _ => rfl
  have v21 : ∀ j, η1 16 j = η 16 j := fun j => k4.1.2.2.2.1 16 _ (zinr_not (by decide +kernel))
  have fr16_1 : ∀ j, η1 16 j = η 16 j := v21
  have v22 : ∀ j, η2 16 j = η 16 j := fun j => (k5.1.2.2.2.1 16 _ (zinr_not (by decide +kernel))).trans (v21 j)
  have fr16_2 : ∀ j, η2 16 j = η 16 j := v22
  have v23 : ∀ j, η3 16 j = η 16 j := fun j => (k6.1.2.2.2.1 16 _ (zinr_not (by decide +kernel))).trans (v22 j)
  have fr16_3 : ∀ j, η3 16 j = η 16 j := v23
  have fr18_0 : ∀ j, η 18 j = η 18 j := fun _ => rfl
  have v24 : ∀ j, η1 18 j = η 18 j := fun j => k4.1.2.2.2.1 18 _ (zinr_not (by decide +kernel))
  have fr18_1 : ∀ j, η1 18 j = η 18 j := v24
  have v25 : ∀ j, η2 18 j = η 18 j := fun j => (k5.1.2.2.2.1 18 _ (zinr_not (by decide +kernel))).trans (v24 j)
  have fr18_2 : ∀ j, η2 18 j = η 18 j := v25
  have v26 : ∀ j, η3 18 j = η 18 j := fun j => (k6.1.2.2.2.1 18 _ (zinr_not (by decide +kernel))).trans (v25 j)
  have fr18_3 : ∀ j, η3 18 j = η 18 j := v26
  have f0_7 : η3 0 7 = η3 0 7 := rfl
  have f0_6 : η3 0 6 = η 0 6 := v17
  have f0_8 : η3 0 8 = η3 0 8 := rfl
  have f0_19 : η3 0 19 = η 0 19 := v19
  have f0_44 : η3 0 44 = η 0 44 := v20
  have qn4 : ¬ x4 = 0 → 10 * (η1 0 6 - η1 0 7) + η1 0 8 < 10 * (η 0 6 - η 0 7) + η 0 8 := k4.2.2
  have qs5 : ¬ x5 = 0 → η1 0 8 = 4 := k5.2.2
  have qt6 : ¬ η2 0 8 = 0 → 10 * (η3 0 6 - η3 0 7) + η3 0 8 < 10 * (η2 0 6 - η2 0 7) + η2 0 8 := k6.2.2
  have P3 : PL_n 6 η3 := zGk_fm2 plk_n (k5.2.1.2) k6.1.2.2.2.1 (by decide +kernel)
  exact ⟨k6.2.1.1, pl_d (P3) (by decide), fun _ => ⟨⟨k6.2.1, P3⟩, show 10 * (η3 0 6 - η3 0 7) + η3 0 8 < 10 * (η 0 6 - η 0 7) + η 0 8 by omega⟩⟩
set_option maxHeartbeats 8000000 in
theorem zn_lineRead_o67 {ro : Nat → List Int32} (η : zE) (hp : sP wl_n zTr zPn_lineRead [] η) (hpp : pPn_lineRead [] η) : ∀ x1 : Int, x1 = η 0 (Int.toNat 8) → zok 0 x1 → (x1 = 1) → ∀ x2 : Int, x2 = η 0 (Int.toNat 9) → zok 0 x2 → (x2 ≤ 6) → ∀ x3 : Int, x3 = η 0 (Int.toNat 9) → zok 0 x3 → (x3 = 4) → ∀ (x4 : Int) (η1 : zE), ((gC2 wl_n [(nat_lit 0, zPn_wrong, zOn_wrong, zMn_wrong), (nat_lit 1, zPn_isSign, zOn_isSign, zMn_isSign), (nat_lit 2, zPn_token1, zOn_token1, zMn_token1), (nat_lit 3, zPn_grooveLine, zOn_grooveLine, zMn_grooveLine), (nat_lit 4, zPn_scratLine, zOn_scratLine, zMn_scratLine), (nat_lit 5, zPn_guestLine, zOn_guestLine, zMn_guestLine), (nat_lit 6, zPn_onceLine0, zOn_onceLine0, zMn_onceLine0), (nat_lit 7, zPn_onceLine1, zOn_onceLine1, zMn_onceLine1), (nat_lit 8, zPn_onceLine2, zOn_onceLine2, zMn_onceLine2), (nat_lit 9, zPn_sumRead, zOn_sumRead, zMn_sumRead)] pCn_lineRead qCn_lineRead) 7).2 [] η x4 η1 → (¬ x4 = 0) → ∀ (x5 : Int) (η2 : zE), ((gC2 wl_n [(nat_lit 0, zPn_wrong, zOn_wrong, zMn_wrong), (nat_lit 1, zPn_isSign, zOn_isSign, zMn_isSign), (nat_lit 2, zPn_token1, zOn_token1, zMn_token1), (nat_lit 3, zPn_grooveLine, zOn_grooveLine, zMn_grooveLine), (nat_lit 4, zPn_scratLine, zOn_scratLine, zMn_scratLine), (nat_lit 5, zPn_guestLine, zOn_guestLine, zMn_guestLine), (nat_lit 6, zPn_onceLine0, zOn_onceLine0, zMn_onceLine0), (nat_lit 7, zPn_onceLine1, zOn_onceLine1, zMn_onceLine1), (nat_lit 8, zPn_onceLine2, zOn_onceLine2, zMn_onceLine2), (nat_lit 9, zPn_sumRead, zOn_sumRead, zMn_sumRead)] pCn_lineRead qCn_lineRead) 1).2 [59] η1 x5 η2 → (x5 = 0) → ((gC2 wl_n [(nat_lit 0, zPn_wrong, zOn_wrong, zMn_wrong), (nat_lit 1, zPn_isSign, zOn_isSign, zMn_isSign), (nat_lit 2, zPn_token1, zOn_token1, zMn_token1), (nat_lit 3, zPn_grooveLine, zOn_grooveLine, zMn_grooveLine), (nat_lit 4, zPn_scratLine, zOn_scratLine, zMn_scratLine), (nat_lit 5, zPn_guestLine, zOn_guestLine, zMn_guestLine), (nat_lit 6, zPn_onceLine0, zOn_onceLine0, zMn_onceLine0), (nat_lit 7, zPn_onceLine1, zOn_onceLine1, zMn_onceLine1), (nat_lit 8, zPn_onceLine2, zOn_onceLine2, zMn_onceLine2), (nat_lit 9, zPn_sumRead, zOn_sumRead, zMn_sumRead)] pCn_lineRead qCn_lineRead) 0).1 [1] η2 := by
  intro x1 e1 r1 c1 x2 e2 r2 c2 x3 e3 r3 c3 x4 η1 h4 c4 x5 η2 h5 c5
  have k4 : sQ wl_n zTr zOn_onceLine1 zMn_onceLine1 [] η x4 η1 ∧ pQn_onceLine1 [] η x4 η1 := h4
  have k5 : sQ wl_n zTr zOn_isSign zMn_isSign [59] η1 x5 η2 ∧ pQn_isSign [59] η1 x5 η2 := h5
  have w0_0_8 : (0 : Int) ≤ η 0 8 ∧ η 0 8 ≤ 6 := wf_ok (a := 8) (b := 8) (z := (0, 6)) hp.1 (by decide +kernel) (Nat.le_refl _) (Nat.le_refl _)
  replace e1 : x1 = η 0 8 := e1
  replace e2 : x2 = η 0 9 := e2
  replace r2 : -2147483648 ≤ x2 ∧ x2 ≤ 2147483647 := r2
  replace e3 : x3 = η 0 9 := e3
  replace r3 : -2147483648 ≤ x3 ∧ x3 ≤ 2147483647 := r3
  have w0_0_7 : (0 : Int) ≤ η 0 7 ∧ η 0 7 ≤ 700 := wf_ok (a := 7) (b := 7) (z := (0, 700)) hp.1 (by decide +kernel) (Nat.le_refl _) (Nat.le_refl _)
  have c0_0_7 : η 0 7 = η 0 7 := rfl
  have w0_0_6 : (0 : Int) ≤ η 0 6 ∧ η 0 6 ≤ 700 := wf_ok (a := 6) (b := 6) (z := (0, 700)) hp.1 (by decide +kernel) (Nat.le_refl _) (Nat.le_refl _)
  have c0_0_6 : η 0 6 = η 0 6 := rfl
  have c0_0_8 : η 0 8 = η 0 8 := rfl
  have w0_0_19 : (0 : Int) ≤ η 0 19 ∧ η 0 19 ≤ 64 := wf_ok (a := 19) (b := 19) (z := (0, 64)) hp.1 (by decide +kernel) (Nat.le_refl _) (Nat.le_refl _)
  have c0_0_19 : η 0 19 = η 0 19 := rfl
  have w0_0_44 : (0 : Int) ≤ η 0 44 ∧ η 0 44 ≤ 64 := wf_ok (a := 44) (b := 44) (z := (0, 64)) hp.1 (by decide +kernel) (Nat.le_refl _) (Nat.le_refl _)
  have c0_0_44 : η 0 44 = η 0 44 := rfl
  have bx4 : (0 : Int) ≤ x4 ∧ x4 ≤ 1 := k4.1.2.1
  have w1_0_7 : (0 : Int) ≤ η1 0 7 ∧ η1 0 7 ≤ 700 := wf_ok (a := 7) (b := 7) (z := (0, 700)) k4.1.1 (by decide +kernel) (Nat.le_refl _) (Nat.le_refl _)
  have d1_0_7 : η1 0 7 = η1 0 7 := rfl
  have v7 : zEq (η1 0 6) (η 0 6) := (k4.1.2.2.2.1 0 6 (by decide +kernel)).trans rfl
  have d1_0_6 : η1 0 6 = η 0 6 := v7
  have w1_0_8 : (0 : Int) ≤ η1 0 8 ∧ η1 0 8 ≤ 6 := wf_ok (a := 8) (b := 8) (z := (0, 6)) k4.1.1 (by decide +kernel) (Nat.le_refl _) (Nat.le_refl _)
  have d1_0_8 : η1 0 8 = η1 0 8 := rfl
  have v9 : zEq (η1 0 19) (η 0 19) := (k4.1.2.2.2.1 0 19 (by decide +kernel)).trans rfl
  have d1_0_19 : η1 0 19 = η 0 19 := v9
  have v10 : zEq (η1 0 44) (η 0 44) := (k4.1.2.2.2.1 0 44 (by decide +kernel)).trans rfl
  have d1_0_44 : η1 0 44 = η 0 44 := v10
  have c1_0_7 : η1 0 7 = η1 0 7 := rfl
  have c1_0_6 : η1 0 6 = η 0 6 := v7
  have c1_0_8 : η1 0 8 = η1 0 8 := rfl
  have c1_0_19 : η1 0 19 = η 0 19 := v9
  have c1_0_44 : η1 0 44 = η 0 44 := v10
  have bx5 : (0 : Int) ≤ x5 ∧ x5 ≤ 1 := k5.1.2.1
  have v11 : zEq (η2 0 7) (η1 0 7) := (k5.1.2.2.2.1 0 7 (by decide +kernel)).trans rfl
  have d2_0_7 : η2 0 7 = η1 0 7 := v11
  have v12 : zEq (η2 0 6) (η 0 6) := (k5.1.2.2.2.1 0 6 (by decide +kernel)).trans v7
  have d2_0_6 : η2 0 6 = η 0 6 := v12
  have v13 : zEq (η2 0 8) (η1 0 8) := (k5.1.2.2.2.1 0 8 (by decide +kernel)).trans rfl
  have d2_0_8 : η2 0 8 = η1 0 8 := v13
  have v14 : zEq (η2 0 19) (η 0 19) := (k5.1.2.2.2.1 0 19 (by decide +kernel)).trans v9
  have d2_0_19 : η2 0 19 = η 0 19 := v14
  have v15 : zEq (η2 0 44) (η 0 44) := (k5.1.2.2.2.1 0 44 (by decide +kernel)).trans v10
  have d2_0_44 : η2 0 44 = η 0 44 := v15
  have fr16_0 : ∀ j, η 16 j = η 16 j := fun _ => rfl
  have v16 : ∀ j, η1 16 j = η 16 j := fun j => k4.1.2.2.2.1 16 _ (zinr_not (by decide +kernel))
  have fr16_1 : ∀ j, η1 16 j = η 16 j := v16
  have v17 : ∀ j, η2 16 j = η 16 j := fun j => (k5.1.2.2.2.1 16 _ (zinr_not (by decide +kernel))).trans (v16 j)
  have fr16_2 : ∀ j, η2 16 j = η 16 j := v17
  have fr18_0 : ∀ j, η 18 j = η 18 j := fun _ => rfl
  have v18 : ∀ j, η1 18 j = η 18 j := fun j => k4.1.2.2.2.1 18 _ (zinr_not (by decide +kernel))
  have fr18_1 : ∀ j, η1 18 j = η 18 j := v18
  have v19 : ∀ j, η2 18 j = η 18 j := fun j => (k5.1.2.2.2.1 18 _ (zinr_not (by decide +kernel))).trans (v18 j)
  have fr18_2 : ∀ j, η2 18 j = η 18 j := v19
  have f0_7 : η2 0 7 = η1 0 7 := v11
  have f0_6 : η2 0 6 = η 0 6 := v12
  have f0_8 : η2 0 8 = η1 0 8 := v13
  have f0_19 : η2 0 19 = η 0 19 := v14
  have f0_44 : η2 0 44 = η 0 44 := v15
  have qn4 : ¬ x4 = 0 → 10 * (η1 0 6 - η1 0 7) + η1 0 8 < 10 * (η 0 6 - η 0 7) + η 0 8 := k4.2.2
  have qs5 : ¬ x5 = 0 → η1 0 8 = 4 := k5.2.2
  exact ⟨k5.2.1.1, k5.2.1.2⟩
set_option maxHeartbeats 8000000 in
theorem zn_lineRead_o68 {ro : Nat → List Int32} (η : zE) (hp : sP wl_n zTr zPn_lineRead [] η) (hpp : pPn_lineRead [] η) : ∀ x1 : Int, x1 = η 0 (Int.toNat 8) → zok 0 x1 → (x1 = 1) → ∀ x2 : Int, x2 = η 0 (Int.toNat 9) → zok 0 x2 → (x2 ≤ 6) → ∀ x3 : Int, x3 = η 0 (Int.toNat 9) → zok 0 x3 → (x3 = 4) → ∀ (x4 : Int) (η1 : zE), ((gC2 wl_n [(nat_lit 0, zPn_wrong, zOn_wrong, zMn_wrong), (nat_lit 1, zPn_isSign, zOn_isSign, zMn_isSign), (nat_lit 2, zPn_token1, zOn_token1, zMn_token1), (nat_lit 3, zPn_grooveLine, zOn_grooveLine, zMn_grooveLine), (nat_lit 4, zPn_scratLine, zOn_scratLine, zMn_scratLine), (nat_lit 5, zPn_guestLine, zOn_guestLine, zMn_guestLine), (nat_lit 6, zPn_onceLine0, zOn_onceLine0, zMn_onceLine0), (nat_lit 7, zPn_onceLine1, zOn_onceLine1, zMn_onceLine1), (nat_lit 8, zPn_onceLine2, zOn_onceLine2, zMn_onceLine2), (nat_lit 9, zPn_sumRead, zOn_sumRead, zMn_sumRead)] pCn_lineRead qCn_lineRead) 7).2 [] η x4 η1 → (¬ x4 = 0) → ∀ (x5 : Int) (η2 : zE), ((gC2 wl_n [(nat_lit 0, zPn_wrong, zOn_wrong, zMn_wrong), (nat_lit 1, zPn_isSign, zOn_isSign, zMn_isSign), (nat_lit 2, zPn_token1, zOn_token1, zMn_token1), (nat_lit 3, zPn_grooveLine, zOn_grooveLine, zMn_grooveLine), (nat_lit 4, zPn_scratLine, zOn_scratLine, zMn_scratLine), (nat_lit 5, zPn_guestLine, zOn_guestLine, zMn_guestLine), (nat_lit 6, zPn_onceLine0, zOn_onceLine0, zMn_onceLine0), (nat_lit 7, zPn_onceLine1, zOn_onceLine1, zMn_onceLine1), (nat_lit 8, zPn_onceLine2, zOn_onceLine2, zMn_onceLine2), (nat_lit 9, zPn_sumRead, zOn_sumRead, zMn_sumRead)] pCn_lineRead qCn_lineRead) 1).2 [59] η1 x5 η2 → (x5 = 0) → ∀ (x6 : Int) (η3 : zE), ((gC2 wl_n [(nat_lit 0, zPn_wrong, zOn_wrong, zMn_wrong), (nat_lit 1, zPn_isSign, zOn_isSign, zMn_isSign), (nat_lit 2, zPn_token1, zOn_token1, zMn_token1), (nat_lit 3, zPn_grooveLine, zOn_grooveLine, zMn_grooveLine), (nat_lit 4, zPn_scratLine, zOn_scratLine, zMn_scratLine), (nat_lit 5, zPn_guestLine, zOn_guestLine, zMn_guestLine), (nat_lit 6, zPn_onceLine0, zOn_onceLine0, zMn_onceLine0), (nat_lit 7, zPn_onceLine1, zOn_onceLine1, zMn_onceLine1), (nat_lit 8, zPn_onceLine2, zOn_onceLine2, zMn_onceLine2), (nat_lit 9, zPn_sumRead, zOn_sumRead, zMn_sumRead)] pCn_lineRead qCn_lineRead) 0).2 [1] η2 x6 η3 → (fun (_ : Nat) (y : Int) (η' : zE) => pQn_lineRead [] η y η') 0 x6 η3 := by
  intro x1 e1 r1 c1 x2 e2 r2 c2 x3 e3 r3 c3 x4 η1 h4 c4 x5 η2 h5 c5 x6 η3 h6
  have k4 : sQ wl_n zTr zOn_onceLine1 zMn_onceLine1 [] η x4 η1 ∧ pQn_onceLine1 [] η x4 η1 := h4
  have k5 : sQ wl_n zTr zOn_isSign zMn_isSign [59] η1 x5 η2 ∧ pQn_isSign [59] η1 x5 η2 := h5
  have k6 : sQ wl_n zTr zOn_wrong zMn_wrong [1] η2 x6 η3 ∧ pQn_wrong [1] η2 x6 η3 := h6
  have w0_0_8 : (0 : Int) ≤ η 0 8 ∧ η 0 8 ≤ 6 := wf_ok (a := 8) (b := 8) (z := (0, 6)) hp.1 (by decide +kernel) (Nat.le_refl _) (Nat.le_refl _)
  replace e1 : x1 = η 0 8 := e1
  replace e2 : x2 = η 0 9 := e2
  replace r2 : -2147483648 ≤ x2 ∧ x2 ≤ 2147483647 := r2
  replace e3 : x3 = η 0 9 := e3
  replace r3 : -2147483648 ≤ x3 ∧ x3 ≤ 2147483647 := r3
  have w0_0_7 : (0 : Int) ≤ η 0 7 ∧ η 0 7 ≤ 700 := wf_ok (a := 7) (b := 7) (z := (0, 700)) hp.1 (by decide +kernel) (Nat.le_refl _) (Nat.le_refl _)
  have c0_0_7 : η 0 7 = η 0 7 := rfl
  have w0_0_6 : (0 : Int) ≤ η 0 6 ∧ η 0 6 ≤ 700 := wf_ok (a := 6) (b := 6) (z := (0, 700)) hp.1 (by decide +kernel) (Nat.le_refl _) (Nat.le_refl _)
  have c0_0_6 : η 0 6 = η 0 6 := rfl
  have c0_0_8 : η 0 8 = η 0 8 := rfl
  have w0_0_19 : (0 : Int) ≤ η 0 19 ∧ η 0 19 ≤ 64 := wf_ok (a := 19) (b := 19) (z := (0, 64)) hp.1 (by decide +kernel) (Nat.le_refl _) (Nat.le_refl _)
  have c0_0_19 : η 0 19 = η 0 19 := rfl
  have w0_0_44 : (0 : Int) ≤ η 0 44 ∧ η 0 44 ≤ 64 := wf_ok (a := 44) (b := 44) (z := (0, 64)) hp.1 (by decide +kernel) (Nat.le_refl _) (Nat.le_refl _)
  have c0_0_44 : η 0 44 = η 0 44 := rfl
  have bx4 : (0 : Int) ≤ x4 ∧ x4 ≤ 1 := k4.1.2.1
  have w1_0_7 : (0 : Int) ≤ η1 0 7 ∧ η1 0 7 ≤ 700 := wf_ok (a := 7) (b := 7) (z := (0, 700)) k4.1.1 (by decide +kernel) (Nat.le_refl _) (Nat.le_refl _)
  have d1_0_7 : η1 0 7 = η1 0 7 := rfl
  have v7 : zEq (η1 0 6) (η 0 6) := (k4.1.2.2.2.1 0 6 (by decide +kernel)).trans rfl
  have d1_0_6 : η1 0 6 = η 0 6 := v7
  have w1_0_8 : (0 : Int) ≤ η1 0 8 ∧ η1 0 8 ≤ 6 := wf_ok (a := 8) (b := 8) (z := (0, 6)) k4.1.1 (by decide +kernel) (Nat.le_refl _) (Nat.le_refl _)
  have d1_0_8 : η1 0 8 = η1 0 8 := rfl
  have v9 : zEq (η1 0 19) (η 0 19) := (k4.1.2.2.2.1 0 19 (by decide +kernel)).trans rfl
  have d1_0_19 : η1 0 19 = η 0 19 := v9
  have v10 : zEq (η1 0 44) (η 0 44) := (k4.1.2.2.2.1 0 44 (by decide +kernel)).trans rfl
  have d1_0_44 : η1 0 44 = η 0 44 := v10
  have c1_0_7 : η1 0 7 = η1 0 7 := rfl
  have c1_0_6 : η1 0 6 = η 0 6 := v7
  have c1_0_8 : η1 0 8 = η1 0 8 := rfl
  have c1_0_19 : η1 0 19 = η 0 19 := v9
  have c1_0_44 : η1 0 44 = η 0 44 := v10
  have bx5 : (0 : Int) ≤ x5 ∧ x5 ≤ 1 := k5.1.2.1
  have v11 : zEq (η2 0 7) (η1 0 7) := (k5.1.2.2.2.1 0 7 (by decide +kernel)).trans rfl
  have d2_0_7 : η2 0 7 = η1 0 7 := v11
  have v12 : zEq (η2 0 6) (η 0 6) := (k5.1.2.2.2.1 0 6 (by decide +kernel)).trans v7
  have d2_0_6 : η2 0 6 = η 0 6 := v12
  have v13 : zEq (η2 0 8) (η1 0 8) := (k5.1.2.2.2.1 0 8 (by decide +kernel)).trans rfl
  have d2_0_8 : η2 0 8 = η1 0 8 := v13
  have v14 : zEq (η2 0 19) (η 0 19) := (k5.1.2.2.2.1 0 19 (by decide +kernel)).trans v9
  have d2_0_19 : η2 0 19 = η 0 19 := v14
  have v15 : zEq (η2 0 44) (η 0 44) := (k5.1.2.2.2.1 0 44 (by decide +kernel)).trans v10
  have d2_0_44 : η2 0 44 = η 0 44 := v15
  have c2_0_7 : η2 0 7 = η1 0 7 := v11
  have c2_0_6 : η2 0 6 = η 0 6 := v12
  have c2_0_8 : η2 0 8 = η1 0 8 := v13
  have c2_0_19 : η2 0 19 = η 0 19 := v14
  have c2_0_44 : η2 0 44 = η 0 44 := v15
  have bx6 : (0 : Int) ≤ x6 ∧ x6 ≤ 0 := k6.1.2.1
  have v16 : zEq (η3 0 7) (η1 0 7) := (k6.1.2.2.2.1 0 7 (by decide +kernel)).trans v11
  have d3_0_7 : η3 0 7 = η1 0 7 := v16
  have v17 : zEq (η3 0 6) (η 0 6) := (k6.1.2.2.2.1 0 6 (by decide +kernel)).trans v12
  have d3_0_6 : η3 0 6 = η 0 6 := v17
  have v18 : zEq (η3 0 8) (η1 0 8) := (k6.1.2.2.2.1 0 8 (by decide +kernel)).trans v13
  have d3_0_8 : η3 0 8 = η1 0 8 := v18
  have v19 : zEq (η3 0 19) (η 0 19) := (k6.1.2.2.2.1 0 19 (by decide +kernel)).trans v14
  have d3_0_19 : η3 0 19 = η 0 19 := v19
  have v20 : zEq (η3 0 44) (η 0 44) := (k6.1.2.2.2.1 0 44 (by decide +kernel)).trans v15
  have d3_0_44 : η3 0 44 = η 0 44 := v20
  have fr16_0 : ∀ j, η 16 j = η 16 j := fun _ => rfl
  have v21 : ∀ j, η1 16 j = η 16 j := fun j => k4.1.2.2.2.1 16 _ (zinr_not (by decide +kernel))
  have fr16_1 : ∀ j, η1 16 j = η 16 j := v21
  have v22 : ∀ j, η2 16 j = η 16 j := fun j => (k5.1.2.2.2.1 16 _ (zinr_not (by decide +kernel))).trans (v21 j)
  have fr16_2 : ∀ j, η2 16 j = η 16 j := v22
  have v23 : ∀ j, η3 16 j = η 16 j := fun j => (k6.1.2.2.2.1 16 _ (zinr_not (by decide +kernel))).trans (v22 j)
  have fr16_3 : ∀ j, η3 16 j = η 16 j := v23
  have fr18_0 : ∀ j, η 18 j = η 18 j := fun _ => rfl
  have v24 : ∀ j, η1 18 j = η 18 j := fun j => k4.1.2.2.2.1 18 _ (zinr_not (by decide +kernel))
  have fr18_1 : ∀ j, η1 18 j = η 18 j := v24
  have v25 : ∀ j, η2 18 j = η 18 j := fun j => (k5.1.2.2.2.1 18 _ (zinr_not (by decide +kernel))).trans (v24 j)
  have fr18_2 : ∀ j, η2 18 j = η 18 j := v25
  have v26 : ∀ j, η3 18 j = η 18 j := fun j => (k6.1.2.2.2.1 18 _ (zinr_not (by decide +kernel))).trans (v25 j)
  have fr18_3 : ∀ j, η3 18 j = η 18 j := v26
  have f0_7 : η3 0 7 = η1 0 7 := v16
  have f0_6 : η3 0 6 = η 0 6 := v17
  have f0_8 : η3 0 8 = η1 0 8 := v18
  have f0_19 : η3 0 19 = η 0 19 := v19
  have f0_44 : η3 0 44 = η 0 44 := v20
  have qn4 : ¬ x4 = 0 → 10 * (η1 0 6 - η1 0 7) + η1 0 8 < 10 * (η 0 6 - η 0 7) + η 0 8 := k4.2.2
  have qs5 : ¬ x5 = 0 → η1 0 8 = 4 := k5.2.2
  exact ⟨k6.2.1.1, pl_d (k6.2.2) (by decide), fun w => absurd (show (x6 : Int) = 0 by apply Int.le_antisymm <;> omega) w⟩
set_option maxHeartbeats 8000000 in
theorem zn_lineRead_o69 {ro : Nat → List Int32} (η : zE) (hp : sP wl_n zTr zPn_lineRead [] η) (hpp : pPn_lineRead [] η) : ∀ x1 : Int, x1 = η 0 (Int.toNat 8) → zok 0 x1 → (x1 = 1) → ∀ x2 : Int, x2 = η 0 (Int.toNat 9) → zok 0 x2 → (x2 ≤ 6) → ∀ x3 : Int, x3 = η 0 (Int.toNat 9) → zok 0 x3 → (x3 = 4) → ∀ (x4 : Int) (η1 : zE), ((gC2 wl_n [(nat_lit 0, zPn_wrong, zOn_wrong, zMn_wrong), (nat_lit 1, zPn_isSign, zOn_isSign, zMn_isSign), (nat_lit 2, zPn_token1, zOn_token1, zMn_token1), (nat_lit 3, zPn_grooveLine, zOn_grooveLine, zMn_grooveLine), (nat_lit 4, zPn_scratLine, zOn_scratLine, zMn_scratLine), (nat_lit 5, zPn_guestLine, zOn_guestLine, zMn_guestLine), (nat_lit 6, zPn_onceLine0, zOn_onceLine0, zMn_onceLine0), (nat_lit 7, zPn_onceLine1, zOn_onceLine1, zMn_onceLine1), (nat_lit 8, zPn_onceLine2, zOn_onceLine2, zMn_onceLine2), (nat_lit 9, zPn_sumRead, zOn_sumRead, zMn_sumRead)] pCn_lineRead qCn_lineRead) 7).2 [] η x4 η1 → (x4 = 0) → (fun (_ : Nat) (y : Int) (η' : zE) => pQn_lineRead [] η y η') 0 0 η1 := by
  intro x1 e1 r1 c1 x2 e2 r2 c2 x3 e3 r3 c3 x4 η1 h4 c4
  have k4 : sQ wl_n zTr zOn_onceLine1 zMn_onceLine1 [] η x4 η1 ∧ pQn_onceLine1 [] η x4 η1 := h4
  have w0_0_8 : (0 : Int) ≤ η 0 8 ∧ η 0 8 ≤ 6 := wf_ok (a := 8) (b := 8) (z := (0, 6)) hp.1 (by decide +kernel) (Nat.le_refl _) (Nat.le_refl _)
  replace e1 : x1 = η 0 8 := e1
  replace e2 : x2 = η 0 9 := e2
  replace r2 : -2147483648 ≤ x2 ∧ x2 ≤ 2147483647 := r2
  replace e3 : x3 = η 0 9 := e3
  replace r3 : -2147483648 ≤ x3 ∧ x3 ≤ 2147483647 := r3
  have w0_0_7 : (0 : Int) ≤ η 0 7 ∧ η 0 7 ≤ 700 := wf_ok (a := 7) (b := 7) (z := (0, 700)) hp.1 (by decide +kernel) (Nat.le_refl _) (Nat.le_refl _)
  have c0_0_7 : η 0 7 = η 0 7 := rfl
  have w0_0_6 : (0 : Int) ≤ η 0 6 ∧ η 0 6 ≤ 700 := wf_ok (a := 6) (b := 6) (z := (0, 700)) hp.1 (by decide +kernel) (Nat.le_refl _) (Nat.le_refl _)
  have c0_0_6 : η 0 6 = η 0 6 := rfl
  have c0_0_8 : η 0 8 = η 0 8 := rfl
  have w0_0_19 : (0 : Int) ≤ η 0 19 ∧ η 0 19 ≤ 64 := wf_ok (a := 19) (b := 19) (z := (0, 64)) hp.1 (by decide +kernel) (Nat.le_refl _) (Nat.le_refl _)
  have c0_0_19 : η 0 19 = η 0 19 := rfl
  have w0_0_44 : (0 : Int) ≤ η 0 44 ∧ η 0 44 ≤ 64 := wf_ok (a := 44) (b := 44) (z := (0, 64)) hp.1 (by decide +kernel) (Nat.le_refl _) (Nat.le_refl _)
  have c0_0_44 : η 0 44 = η 0 44 := rfl
  have bx4 : (0 : Int) ≤ x4 ∧ x4 ≤ 1 := k4.1.2.1
  have w1_0_7 : (0 : Int) ≤ η1 0 7 ∧ η1 0 7 ≤ 700 := wf_ok (a := 7) (b := 7) (z := (0, 700)) k4.1.1 (by decide +kernel) (Nat.le_refl _) (Nat.le_refl _)
  have d1_0_7 : η1 0 7 = η1 0 7 := rfl
  have v7 : zEq (η1 0 6) (η 0 6) := (k4.1.2.2.2.1 0 6 (by decide +kernel)).trans rfl
  have d1_0_6 : η1 0 6 = η 0 6 := v7
  have w1_0_8 : (0 : Int) ≤ η1 0 8 ∧ η1 0 8 ≤ 6 := wf_ok (a := 8) (b := 8) (z := (0, 6)) k4.1.1 (by decide +kernel) (Nat.le_refl _) (Nat.le_refl _)
  have d1_0_8 : η1 0 8 = η1 0 8 := rfl
  have v9 : zEq (η1 0 19) (η 0 19) := (k4.1.2.2.2.1 0 19 (by decide +kernel)).trans rfl
  have d1_0_19 : η1 0 19 = η 0 19 := v9
  have v10 : zEq (η1 0 44) (η 0 44) := (k4.1.2.2.2.1 0 44 (by decide +kernel)).trans rfl
  have d1_0_44 : η1 0 44 = η 0 44 := v10
  have fr16_0 : ∀ j, η 16 j = η 16 j := fun _ => rfl
  have v11 : ∀ j, η1 16 j = η 16 j := fun j => k4.1.2.2.2.1 16 _ (zinr_not (by decide +kernel))
  have fr16_1 : ∀ j, η1 16 j = η 16 j := v11
  have fr18_0 : ∀ j, η 18 j = η 18 j := fun _ => rfl
  have v12 : ∀ j, η1 18 j = η 18 j := fun j => k4.1.2.2.2.1 18 _ (zinr_not (by decide +kernel))
  have fr18_1 : ∀ j, η1 18 j = η 18 j := v12
  have f0_7 : η1 0 7 = η1 0 7 := rfl
  have f0_6 : η1 0 6 = η 0 6 := v7
  have f0_8 : η1 0 8 = η1 0 8 := rfl
  have f0_19 : η1 0 19 = η 0 19 := v9
  have f0_44 : η1 0 44 = η 0 44 := v10
  have qn4 : ¬ x4 = 0 → 10 * (η1 0 6 - η1 0 7) + η1 0 8 < 10 * (η 0 6 - η 0 7) + η 0 8 := k4.2.2
  exact ⟨k4.2.1.1.1, pl_d (k4.2.1.2) (by decide), fun w => absurd (show (0 : Int) = 0 by apply Int.le_antisymm <;> omega) w⟩
set_option maxHeartbeats 8000000 in
theorem zn_lineRead_o70 {ro : Nat → List Int32} (η : zE) (hp : sP wl_n zTr zPn_lineRead [] η) (hpp : pPn_lineRead [] η) : ∀ x1 : Int, x1 = η 0 (Int.toNat 8) → zok 0 x1 → (x1 = 1) → ∀ x2 : Int, x2 = η 0 (Int.toNat 9) → zok 0 x2 → (x2 ≤ 6) → ∀ x3 : Int, x3 = η 0 (Int.toNat 9) → zok 0 x3 → (x3 = 5) → ((gC2 wl_n [(nat_lit 0, zPn_wrong, zOn_wrong, zMn_wrong), (nat_lit 1, zPn_isSign, zOn_isSign, zMn_isSign), (nat_lit 2, zPn_token1, zOn_token1, zMn_token1), (nat_lit 3, zPn_grooveLine, zOn_grooveLine, zMn_grooveLine), (nat_lit 4, zPn_scratLine, zOn_scratLine, zMn_scratLine), (nat_lit 5, zPn_guestLine, zOn_guestLine, zMn_guestLine), (nat_lit 6, zPn_onceLine0, zOn_onceLine0, zMn_onceLine0), (nat_lit 7, zPn_onceLine1, zOn_onceLine1, zMn_onceLine1), (nat_lit 8, zPn_onceLine2, zOn_onceLine2, zMn_onceLine2), (nat_lit 9, zPn_sumRead, zOn_sumRead, zMn_sumRead)] pCn_lineRead qCn_lineRead) 8).1 [] η := by
  intro x1 e1 r1 c1 x2 e2 r2 c2 x3 e3 r3 c3
  have w0_0_8 : (0 : Int) ≤ η 0 8 ∧ η 0 8 ≤ 6 := wf_ok (a := 8) (b := 8) (z := (0, 6)) hp.1 (by decide +kernel) (Nat.le_refl _) (Nat.le_refl _)
  replace e1 : x1 = η 0 8 := e1
  replace e2 : x2 = η 0 9 := e2
  replace r2 : -2147483648 ≤ x2 ∧ x2 ≤ 2147483647 := r2
  replace e3 : x3 = η 0 9 := e3
  replace r3 : -2147483648 ≤ x3 ∧ x3 ≤ 2147483647 := r3
  have fr16_0 : ∀ j, η 16 j = η 16 j := fun _ => rfl
  have fr18_0 : ∀ j, η 18 j = η 18 j := fun _ => rfl
  have w0_0_7 : (0 : Int) ≤ η 0 7 ∧ η 0 7 ≤ 700 := wf_ok (a := 7) (b := 7) (z := (0, 700)) hp.1 (by decide +kernel) (Nat.le_refl _) (Nat.le_refl _)
  have f0_7 : η 0 7 = η 0 7 := rfl
  have w0_0_6 : (0 : Int) ≤ η 0 6 ∧ η 0 6 ≤ 700 := wf_ok (a := 6) (b := 6) (z := (0, 700)) hp.1 (by decide +kernel) (Nat.le_refl _) (Nat.le_refl _)
  have f0_6 : η 0 6 = η 0 6 := rfl
  have f0_8 : η 0 8 = η 0 8 := rfl
  have w0_0_19 : (0 : Int) ≤ η 0 19 ∧ η 0 19 ≤ 64 := wf_ok (a := 19) (b := 19) (z := (0, 64)) hp.1 (by decide +kernel) (Nat.le_refl _) (Nat.le_refl _)
  have f0_19 : η 0 19 = η 0 19 := rfl
  have w0_0_44 : (0 : Int) ≤ η 0 44 ∧ η 0 44 ≤ 64 := wf_ok (a := 44) (b := 44) (z := (0, 64)) hp.1 (by decide +kernel) (Nat.le_refl _) (Nat.le_refl _)
  have f0_44 : η 0 44 = η 0 44 := rfl
  exact ⟨⟨hpp.1, hpp.2⟩, show ¬ η 0 8 = 0 by omega⟩
set_option maxHeartbeats 8000000 in
theorem zn_lineRead_o71 {ro : Nat → List Int32} (η : zE) (hp : sP wl_n zTr zPn_lineRead [] η) (hpp : pPn_lineRead [] η) : ∀ x1 : Int, x1 = η 0 (Int.toNat 8) → zok 0 x1 → (x1 = 1) → ∀ x2 : Int, x2 = η 0 (Int.toNat 9) → zok 0 x2 → (x2 ≤ 6) → ∀ x3 : Int, x3 = η 0 (Int.toNat 9) → zok 0 x3 → (x3 = 5) → ∀ (x4 : Int) (η1 : zE), ((gC2 wl_n [(nat_lit 0, zPn_wrong, zOn_wrong, zMn_wrong), (nat_lit 1, zPn_isSign, zOn_isSign, zMn_isSign), (nat_lit 2, zPn_token1, zOn_token1, zMn_token1), (nat_lit 3, zPn_grooveLine, zOn_grooveLine, zMn_grooveLine), (nat_lit 4, zPn_scratLine, zOn_scratLine, zMn_scratLine), (nat_lit 5, zPn_guestLine, zOn_guestLine, zMn_guestLine), (nat_lit 6, zPn_onceLine0, zOn_onceLine0, zMn_onceLine0), (nat_lit 7, zPn_onceLine1, zOn_onceLine1, zMn_onceLine1), (nat_lit 8, zPn_onceLine2, zOn_onceLine2, zMn_onceLine2), (nat_lit 9, zPn_sumRead, zOn_sumRead, zMn_sumRead)] pCn_lineRead qCn_lineRead) 8).2 [] η x4 η1 → (¬ x4 = 0) → ((gC2 wl_n [(nat_lit 0, zPn_wrong, zOn_wrong, zMn_wrong), (nat_lit 1, zPn_isSign, zOn_isSign, zMn_isSign), (nat_lit 2, zPn_token1, zOn_token1, zMn_token1), (nat_lit 3, zPn_grooveLine, zOn_grooveLine, zMn_grooveLine), (nat_lit 4, zPn_scratLine, zOn_scratLine, zMn_scratLine), (nat_lit 5, zPn_guestLine, zOn_guestLine, zMn_guestLine), (nat_lit 6, zPn_onceLine0, zOn_onceLine0, zMn_onceLine0), (nat_lit 7, zPn_onceLine1, zOn_onceLine1, zMn_onceLine1), (nat_lit 8, zPn_onceLine2, zOn_onceLine2, zMn_onceLine2), (nat_lit 9, zPn_sumRead, zOn_sumRead, zMn_sumRead)] pCn_lineRead qCn_lineRead) 1).1 [59] η1 := by
  intro x1 e1 r1 c1 x2 e2 r2 c2 x3 e3 r3 c3 x4 η1 h4 c4
  have k4 : sQ wl_n zTr zOn_onceLine2 zMn_onceLine2 [] η x4 η1 ∧ pQn_onceLine2 [] η x4 η1 := h4
  have w0_0_8 : (0 : Int) ≤ η 0 8 ∧ η 0 8 ≤ 6 := wf_ok (a := 8) (b := 8) (z := (0, 6)) hp.1 (by decide +kernel) (Nat.le_refl _) (Nat.le_refl _)
  replace e1 : x1 = η 0 8 := e1
  replace e2 : x2 = η 0 9 := e2
  replace r2 : -2147483648 ≤ x2 ∧ x2 ≤ 2147483647 := r2
  replace e3 : x3 = η 0 9 := e3
  replace r3 : -2147483648 ≤ x3 ∧ x3 ≤ 2147483647 := r3
  have w0_0_7 : (0 : Int) ≤ η 0 7 ∧ η 0 7 ≤ 700 := wf_ok (a := 7) (b := 7) (z := (0, 700)) hp.1 (by decide +kernel) (Nat.le_refl _) (Nat.le_refl _)
  have c0_0_7 : η 0 7 = η 0 7 := rfl
  have w0_0_6 : (0 : Int) ≤ η 0 6 ∧ η 0 6 ≤ 700 := wf_ok (a := 6) (b := 6) (z := (0, 700)) hp.1 (by decide +kernel) (Nat.le_refl _) (Nat.le_refl _)
  have c0_0_6 : η 0 6 = η 0 6 := rfl
  have c0_0_8 : η 0 8 = η 0 8 := rfl
  have w0_0_19 : (0 : Int) ≤ η 0 19 ∧ η 0 19 ≤ 64 := wf_ok (a := 19) (b := 19) (z := (0, 64)) hp.1 (by decide +kernel) (Nat.le_refl _) (Nat.le_refl _)
  have c0_0_19 : η 0 19 = η 0 19 := rfl
  have w0_0_44 : (0 : Int) ≤ η 0 44 ∧ η 0 44 ≤ 64 := wf_ok (a := 44) (b := 44) (z := (0, 64)) hp.1 (by decide +kernel) (Nat.le_refl _) (Nat.le_refl _)
  have c0_0_44 : η 0 44 = η 0 44 := rfl
  have bx4 : (0 : Int) ≤ x4 ∧ x4 ≤ 1 := k4.1.2.1
  have w1_0_7 : (0 : Int) ≤ η1 0 7 ∧ η1 0 7 ≤ 700 := wf_ok (a := 7) (b := 7) (z := (0, 700)) k4.1.1 (by decide +kernel) (Nat.le_refl _) (Nat.le_refl _)
  have d1_0_7 : η1 0 7 = η1 0 7 := rfl
  have v7 : zEq (η1 0 6) (η 0 6) := (k4.1.2.2.2.1 0 6 (by decide +kernel)).trans rfl
  have d1_0_6 : η1 0 6 = η 0 6 := v7
  have w1_0_8 : (0 : Int) ≤ η1 0 8 ∧ η1 0 8 ≤ 6 := wf_ok (a := 8) (b := 8) (z := (0, 6)) k4.1.1 (by decide +kernel) (Nat.le_refl _) (Nat.le_refl _)
  have d1_0_8 : η1 0 8 = η1 0 8 := rfl
  have v9 : zEq (η1 0 19) (η 0 19) := (k4.1.2.2.2.1 0 19 (by decide +kernel)).trans rfl
  have d1_0_19 : η1 0 19 = η 0 19 := v9
  have v10 : zEq (η1 0 44) (η 0 44) := (k4.1.2.2.2.1 0 44 (by decide +kernel)).trans rfl
  have d1_0_44 : η1 0 44 = η 0 44 := v10
  have fr16_0 : ∀ j, η 16 j = η 16 j := fun _ => rfl
  have v11 : ∀ j, η1 16 j = η 16 j := fun j => k4.1.2.2.2.1 16 _ (zinr_not (by decide +kernel))
  have fr16_1 : ∀ j, η1 16 j = η 16 j := v11
  have fr18_0 : ∀ j, η 18 j = η 18 j := fun _ => rfl
  have v12 : ∀ j, η1 18 j = η 18 j := fun j => k4.1.2.2.2.1 18 _ (zinr_not (by decide +kernel))
  have fr18_1 : ∀ j, η1 18 j = η 18 j := v12
  have f0_7 : η1 0 7 = η1 0 7 := rfl
  have f0_6 : η1 0 6 = η 0 6 := v7
  have f0_8 : η1 0 8 = η1 0 8 := rfl
  have f0_19 : η1 0 19 = η 0 19 := v9
  have f0_44 : η1 0 44 = η 0 44 := v10
  have qn4 : ¬ x4 = 0 → 10 * (η1 0 6 - η1 0 7) + η1 0 8 < 10 * (η 0 6 - η 0 7) + η 0 8 := k4.2.2
  exact ⟨k4.2.1.1, k4.2.1.2⟩
set_option maxHeartbeats 8000000 in
theorem zn_lineRead_o72 {ro : Nat → List Int32} (η : zE) (hp : sP wl_n zTr zPn_lineRead [] η) (hpp : pPn_lineRead [] η) : ∀ x1 : Int, x1 = η 0 (Int.toNat 8) → zok 0 x1 → (x1 = 1) → ∀ x2 : Int, x2 = η 0 (Int.toNat 9) → zok 0 x2 → (x2 ≤ 6) → ∀ x3 : Int, x3 = η 0 (Int.toNat 9) → zok 0 x3 → (x3 = 5) → ∀ (x4 : Int) (η1 : zE), ((gC2 wl_n [(nat_lit 0, zPn_wrong, zOn_wrong, zMn_wrong), (nat_lit 1, zPn_isSign, zOn_isSign, zMn_isSign), (nat_lit 2, zPn_token1, zOn_token1, zMn_token1), (nat_lit 3, zPn_grooveLine, zOn_grooveLine, zMn_grooveLine), (nat_lit 4, zPn_scratLine, zOn_scratLine, zMn_scratLine), (nat_lit 5, zPn_guestLine, zOn_guestLine, zMn_guestLine), (nat_lit 6, zPn_onceLine0, zOn_onceLine0, zMn_onceLine0), (nat_lit 7, zPn_onceLine1, zOn_onceLine1, zMn_onceLine1), (nat_lit 8, zPn_onceLine2, zOn_onceLine2, zMn_onceLine2), (nat_lit 9, zPn_sumRead, zOn_sumRead, zMn_sumRead)] pCn_lineRead qCn_lineRead) 8).2 [] η x4 η1 → (¬ x4 = 0) → ∀ (x5 : Int) (η2 : zE), ((gC2 wl_n [(nat_lit 0, zPn_wrong, zOn_wrong, zMn_wrong), (nat_lit 1, zPn_isSign, zOn_isSign, zMn_isSign), (nat_lit 2, zPn_token1, zOn_token1, zMn_token1), (nat_lit 3, zPn_grooveLine, zOn_grooveLine, zMn_grooveLine), (nat_lit 4, zPn_scratLine, zOn_scratLine, zMn_scratLine), (nat_lit 5, zPn_guestLine, zOn_guestLine, zMn_guestLine), (nat_lit 6, zPn_onceLine0, zOn_onceLine0, zMn_onceLine0), (nat_lit 7, zPn_onceLine1, zOn_onceLine1, zMn_onceLine1), (nat_lit 8, zPn_onceLine2, zOn_onceLine2, zMn_onceLine2), (nat_lit 9, zPn_sumRead, zOn_sumRead, zMn_sumRead)] pCn_lineRead qCn_lineRead) 1).2 [59] η1 x5 η2 → (¬ x5 = 0) → ((gC2 wl_n [(nat_lit 0, zPn_wrong, zOn_wrong, zMn_wrong), (nat_lit 1, zPn_isSign, zOn_isSign, zMn_isSign), (nat_lit 2, zPn_token1, zOn_token1, zMn_token1), (nat_lit 3, zPn_grooveLine, zOn_grooveLine, zMn_grooveLine), (nat_lit 4, zPn_scratLine, zOn_scratLine, zMn_scratLine), (nat_lit 5, zPn_guestLine, zOn_guestLine, zMn_guestLine), (nat_lit 6, zPn_onceLine0, zOn_onceLine0, zMn_onceLine0), (nat_lit 7, zPn_onceLine1, zOn_onceLine1, zMn_onceLine1), (nat_lit 8, zPn_onceLine2, zOn_onceLine2, zMn_onceLine2), (nat_lit 9, zPn_sumRead, zOn_sumRead, zMn_sumRead)] pCn_lineRead qCn_lineRead) 2).1 [] η2 := by
  intro x1 e1 r1 c1 x2 e2 r2 c2 x3 e3 r3 c3 x4 η1 h4 c4 x5 η2 h5 c5
  have k4 : sQ wl_n zTr zOn_onceLine2 zMn_onceLine2 [] η x4 η1 ∧ pQn_onceLine2 [] η x4 η1 := h4
  have k5 : sQ wl_n zTr zOn_isSign zMn_isSign [59] η1 x5 η2 ∧ pQn_isSign [59] η1 x5 η2 := h5
  have w0_0_8 : (0 : Int) ≤ η 0 8 ∧ η 0 8 ≤ 6 := wf_ok (a := 8) (b := 8) (z := (0, 6)) hp.1 (by decide +kernel) (Nat.le_refl _) (Nat.le_refl _)
  replace e1 : x1 = η 0 8 := e1
  replace e2 : x2 = η 0 9 := e2
  replace r2 : -2147483648 ≤ x2 ∧ x2 ≤ 2147483647 := r2
  replace e3 : x3 = η 0 9 := e3
  replace r3 : -2147483648 ≤ x3 ∧ x3 ≤ 2147483647 := r3
  have w0_0_7 : (0 : Int) ≤ η 0 7 ∧ η 0 7 ≤ 700 := wf_ok (a := 7) (b := 7) (z := (0, 700)) hp.1 (by decide +kernel) (Nat.le_refl _) (Nat.le_refl _)
  have c0_0_7 : η 0 7 = η 0 7 := rfl
  have w0_0_6 : (0 : Int) ≤ η 0 6 ∧ η 0 6 ≤ 700 := wf_ok (a := 6) (b := 6) (z := (0, 700)) hp.1 (by decide +kernel) (Nat.le_refl _) (Nat.le_refl _)
  have c0_0_6 : η 0 6 = η 0 6 := rfl
  have c0_0_8 : η 0 8 = η 0 8 := rfl
  have w0_0_19 : (0 : Int) ≤ η 0 19 ∧ η 0 19 ≤ 64 := wf_ok (a := 19) (b := 19) (z := (0, 64)) hp.1 (by decide +kernel) (Nat.le_refl _) (Nat.le_refl _)
  have c0_0_19 : η 0 19 = η 0 19 := rfl
  have w0_0_44 : (0 : Int) ≤ η 0 44 ∧ η 0 44 ≤ 64 := wf_ok (a := 44) (b := 44) (z := (0, 64)) hp.1 (by decide +kernel) (Nat.le_refl _) (Nat.le_refl _)
  have c0_0_44 : η 0 44 = η 0 44 := rfl
  have bx4 : (0 : Int) ≤ x4 ∧ x4 ≤ 1 := k4.1.2.1
  have w1_0_7 : (0 : Int) ≤ η1 0 7 ∧ η1 0 7 ≤ 700 := wf_ok (a := 7) (b := 7) (z := (0, 700)) k4.1.1 (by decide +kernel) (Nat.le_refl _) (Nat.le_refl _)
  have d1_0_7 : η1 0 7 = η1 0 7 := rfl
  have v7 : zEq (η1 0 6) (η 0 6) := (k4.1.2.2.2.1 0 6 (by decide +kernel)).trans rfl
  have d1_0_6 : η1 0 6 = η 0 6 := v7
  have w1_0_8 : (0 : Int) ≤ η1 0 8 ∧ η1 0 8 ≤ 6 := wf_ok (a := 8) (b := 8) (z := (0, 6)) k4.1.1 (by decide +kernel) (Nat.le_refl _) (Nat.le_refl _)
  have d1_0_8 : η1 0 8 = η1 0 8 := rfl
  have v9 : zEq (η1 0 19) (η 0 19) := (k4.1.2.2.2.1 0 19 (by decide +kernel)).trans rfl
  have d1_0_19 : η1 0 19 = η 0 19 := v9
  have v10 : zEq (η1 0 44) (η 0 44) := (k4.1.2.2.2.1 0 44 (by decide +kernel)).trans rfl
  have d1_0_44 : η1 0 44 = η 0 44 := v10
  have c1_0_7 : η1 0 7 = η1 0 7 := rfl
  have c1_0_6 : η1 0 6 = η 0 6 := v7
  have c1_0_8 : η1 0 8 = η1 0 8 := rfl
  have c1_0_19 : η1 0 19 = η 0 19 := v9
  have c1_0_44 : η1 0 44 = η 0 44 := v10
  have bx5 : (0 : Int) ≤ x5 ∧ x5 ≤ 1 := k5.1.2.1
  have v11 : zEq (η2 0 7) (η1 0 7) := (k5.1.2.2.2.1 0 7 (by decide +kernel)).trans rfl
  have d2_0_7 : η2 0 7 = η1 0 7 := v11
  have v12 : zEq (η2 0 6) (η 0 6) := (k5.1.2.2.2.1 0 6 (by decide +kernel)).trans v7
  have d2_0_6 : η2 0 6 = η 0 6 := v12
  have v13 : zEq (η2 0 8) (η1 0 8) := (k5.1.2.2.2.1 0 8 (by decide +kernel)).trans rfl
  have d2_0_8 : η2 0 8 = η1 0 8 := v13
  have v14 : zEq (η2 0 19) (η 0 19) := (k5.1.2.2.2.1 0 19 (by decide +kernel)).trans v9
  have d2_0_19 : η2 0 19 = η 0 19 := v14
  have v15 : zEq (η2 0 44) (η 0 44) := (k5.1.2.2.2.1 0 44 (by decide +kernel)).trans v10
  have d2_0_44 : η2 0 44 = η 0 44 := v15
  have fr16_0 : ∀ j, η 16 j = η 16 j := fun _ => rfl
  have v16 : ∀ j, η1 16 j = η 16 j := fun j => k4.1.2.2.2.1 16 _ (zinr_not (by decide +kernel))
  have fr16_1 : ∀ j, η1 16 j = η 16 j := v16
  have v17 : ∀ j, η2 16 j = η 16 j := fun j => (k5.1.2.2.2.1 16 _ (zinr_not (by decide +kernel))).trans (v16 j)
  have fr16_2 : ∀ j, η2 16 j = η 16 j := v17
  have fr18_0 : ∀ j, η 18 j = η 18 j := fun _ => rfl
  have v18 : ∀ j, η1 18 j = η 18 j := fun j => k4.1.2.2.2.1 18 _ (zinr_not (by decide +kernel))
  have fr18_1 : ∀ j, η1 18 j = η 18 j := v18
  have v19 : ∀ j, η2 18 j = η 18 j := fun j => (k5.1.2.2.2.1 18 _ (zinr_not (by decide +kernel))).trans (v18 j)
  have fr18_2 : ∀ j, η2 18 j = η 18 j := v19
  have f0_7 : η2 0 7 = η1 0 7 := v11
  have f0_6 : η2 0 6 = η 0 6 := v12
  have f0_8 : η2 0 8 = η1 0 8 := v13
  have f0_19 : η2 0 19 = η 0 19 := v14
  have f0_44 : η2 0 44 = η 0 44 := v15
  have qn4 : ¬ x4 = 0 → 10 * (η1 0 6 - η1 0 7) + η1 0 8 < 10 * (η 0 6 - η 0 7) + η 0 8 := k4.2.2
  have qs5 : ¬ x5 = 0 → η1 0 8 = 4 := k5.2.2
  exact k5.2.1.1
