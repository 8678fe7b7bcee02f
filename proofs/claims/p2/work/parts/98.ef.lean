set_option maxHeartbeats 8000000 in
theorem zl_leafRead_o23 {ro : Nat → List Int32} (η : zE) (hp : sP wl_l zTr zPl_leafRead [] η) (hpp : pPl_leafRead [] η) : ∀ (x1 : Int) (η1 : zE), ((gC2 wl_l [(nat_lit 0, zPl_isSign, zOl_isSign, zMl_isSign), (nat_lit 1, zPl_wrong, zOl_wrong, zMl_wrong), (nat_lit 2, zPl_waitsFor0, zOl_waitsFor0, zMl_waitsFor0), (nat_lit 3, zPl_token, zOl_token, zMl_token), (nat_lit 4, zPl_isKey, zOl_isKey, zMl_isKey), (nat_lit 5, zPl_isCounted, zOl_isCounted, zMl_isCounted), (nat_lit 6, zPl_waitsFor2, zOl_waitsFor2, zMl_waitsFor2), (nat_lit 7, zPl_nameMet, zOl_nameMet, zMl_nameMet), (nat_lit 8, zPl_grown, zOl_grown, zMl_grown)] pCl_leafRead qCl_leafRead) 0).2 [40] η x1 η1 → (x1 = 0) → ∀ (x2 : Int) (η2 : zE), ((gC2 wl_l [(nat_lit 0, zPl_isSign, zOl_isSign, zMl_isSign), (nat_lit 1, zPl_wrong, zOl_wrong, zMl_wrong), (nat_lit 2, zPl_waitsFor0, zOl_waitsFor0, zMl_waitsFor0), (nat_lit 3, zPl_token, zOl_token, zMl_token), (nat_lit 4, zPl_isKey, zOl_isKey, zMl_isKey), (nat_lit 5, zPl_isCounted, zOl_isCounted, zMl_isCounted), (nat_lit 6, zPl_waitsFor2, zOl_waitsFor2, zMl_waitsFor2), (nat_lit 7, zPl_nameMet, zOl_nameMet, zMl_nameMet), (nat_lit 8, zPl_grown, zOl_grown, zMl_grown)] pCl_leafRead qCl_leafRead) 4).2 [12] η1 x2 η2 → (¬ x2 = 0) → ∀ x3 : Int, x3 = η2 0 (Int.toNat 46) → zok 1 x3 → (x3 = 0) → ∀ (x4 : Int) (η3 : zE), ((gC2 wl_l [(nat_lit 0, zPl_isSign, zOl_isSign, zMl_isSign), (nat_lit 1, zPl_wrong, zOl_wrong, zMl_wrong), (nat_lit 2, zPl_waitsFor0, zOl_waitsFor0, zMl_waitsFor0), (nat_lit 3, zPl_token, zOl_token, zMl_token), (nat_lit 4, zPl_isKey, zOl_isKey, zMl_isKey), (nat_lit 5, zPl_isCounted, zOl_isCounted, zMl_isCounted), (nat_lit 6, zPl_waitsFor2, zOl_waitsFor2, zMl_waitsFor2), (nat_lit 7, zPl_nameMet, zOl_nameMet, zMl_nameMet), (nat_lit 8, zPl_grown, zOl_grown, zMl_grown)] pCl_leafRead qCl_leafRead) 7).2 [] η2 x4 η3 → (x4 < 0) → ∀ x5 : Int, x5 = η3 0 (Int.toNat 8) → zok 0 x5 → (x5 = 3) → (x4 < 0) → ∀ x6 : Int, x6 = η3 0 (Int.toNat 9) → zok 0 x6 → (x6 ≤ 9999) → ((gC2 wl_l [(nat_lit 0, zPl_isSign, zOl_isSign, zMl_isSign), (nat_lit 1, zPl_wrong, zOl_wrong, zMl_wrong), (nat_lit 2, zPl_waitsFor0, zOl_waitsFor0, zMl_waitsFor0), (nat_lit 3, zPl_token, zOl_token, zMl_token), (nat_lit 4, zPl_isKey, zOl_isKey, zMl_isKey), (nat_lit 5, zPl_isCounted, zOl_isCounted, zMl_isCounted), (nat_lit 6, zPl_waitsFor2, zOl_waitsFor2, zMl_waitsFor2), (nat_lit 7, zPl_nameMet, zOl_nameMet, zMl_nameMet), (nat_lit 8, zPl_grown, zOl_grown, zMl_grown)] pCl_leafRead qCl_leafRead) 5).1 [] η3 := by
  have hw : η 0 45 = 1 := hpp.2
  have hs : η 0 7 ≤ η 0 6 := hpp.1.1.1.1
  have bd43 : (0 : Int) ≤ η 0 43 ∧ η 0 43 ≤ 8 := wf_ok (a := 43) (b := 43) (z := (0, 8)) hp.1 (by decide +kernel) (Nat.le_refl _) (Nat.le_refl _)
  have bd44 : (0 : Int) ≤ η 0 44 ∧ η 0 44 ≤ 64 := wf_ok (a := 44) (b := 44) (z := (0, 64)) hp.1 (by decide +kernel) (Nat.le_refl _) (Nat.le_refl _)
  have bd19 : (0 : Int) ≤ η 0 19 ∧ η 0 19 ≤ 64 := wf_ok (a := 19) (b := 19) (z := (0, 64)) hp.1 (by decide +kernel) (Nat.le_refl _) (Nat.le_refl _)
  intro x1 η1 h1 c1 x2 η2 h2 c2 x3 e3 r3 c3 x4 η3 h4 c4 x5 e5 r5 c5 c6 x6 e6 r6 c7
  have k1 : sQ wl_l zTr zOl_isSign zMl_isSign [40] η x1 η1 ∧ pQl_isSign [40] η x1 η1 := h1
  have k2 : sQ wl_l zTr zOl_isKey zMl_isKey [12] η1 x2 η2 ∧ pQl_isKey [12] η1 x2 η2 := h2
  have k4 : sQ wl_l zTr zOl_nameMet zMl_nameMet [] η2 x4 η3 ∧ pQl_nameMet [] η2 x4 η3 := h4
  have c0_0_41 : η 0 41 = η 0 41 := rfl
  have w0_0_43 : (0 : Int) ≤ η 0 43 ∧ η 0 43 ≤ 8 := wf_ok (a := 43) (b := 43) (z := (0, 8)) hp.1 (by decide +kernel) (Nat.le_refl _) (Nat.le_refl _)
  have c0_0_43 : η 0 43 = η 0 43 := rfl
  have c0_0_42 : η 0 42 = η 0 42 := rfl
  have c0_0_45 : η 0 45 = η 0 45 := rfl
  have w0_0_19 : (0 : Int) ≤ η 0 19 ∧ η 0 19 ≤ 64 := wf_ok (a := 19) (b := 19) (z := (0, 64)) hp.1 (by decide +kernel) (Nat.le_refl _) (Nat.le_refl _)
  have c0_0_19 : η 0 19 = η 0 19 := rfl
  have w0_0_44 : (0 : Int) ≤ η 0 44 ∧ η 0 44 ≤ 64 := wf_ok (a := 44) (b := 44) (z := (0, 64)) hp.1 (by decide +kernel) (Nat.le_refl _) (Nat.le_refl _)
  have c0_0_44 : η 0 44 = η 0 44 := rfl
  have w0_0_7 : (0 : Int) ≤ η 0 7 ∧ η 0 7 ≤ 700 := wf_ok (a := 7) (b := 7) (z := (0, 700)) hp.1 (by decide +kernel) (Nat.le_refl _) (Nat.le_refl _)
  have c0_0_7 : η 0 7 = η 0 7 := rfl
  have w0_0_6 : (0 : Int) ≤ η 0 6 ∧ η 0 6 ≤ 700 := wf_ok (a := 6) (b := 6) (z := (0, 700)) hp.1 (by decide +kernel) (Nat.le_refl _) (Nat.le_refl _)
  have c0_0_6 : η 0 6 = η 0 6 := rfl
  have w0_0_8 : (0 : Int) ≤ η 0 8 ∧ η 0 8 ≤ 6 := wf_ok (a := 8) (b := 8) (z := (0, 6)) hp.1 (by decide +kernel) (Nat.le_refl _) (Nat.le_refl _)
  have c0_0_8 : η 0 8 = η 0 8 := rfl
  have wb1 : wB wl_l zTr η1 := k1.1.1
  have bx1 : (0 : Int) ≤ x1 ∧ x1 ≤ 1 := k1.1.2.1
  have v9 : zEq (η1 0 41) (η 0 41) := (k1.1.2.2.2.1 0 41 (by decide +kernel)).trans rfl
  have c1_0_41 : η1 0 41 = η 0 41 := v9
  have v10 : zEq (η1 0 43) (η 0 43) := (k1.1.2.2.2.1 0 43 (by decide +kernel)).trans rfl
  have c1_0_43 : η1 0 43 = η 0 43 := v10
  have v11 : zEq (η1 0 42) (η 0 42) := (k1.1.2.2.2.1 0 42 (by decide +kernel)).trans rfl
  have c1_0_42 : η1 0 42 = η 0 42 := v11
  have v12 : zEq (η1 0 45) (η 0 45) := (k1.1.2.2.2.1 0 45 (by decide +kernel)).trans rfl
  have c1_0_45 : η1 0 45 = η 0 45 := v12
  have v13 : zEq (η1 0 19) (η 0 19) := (k1.1.2.2.2.1 0 19 (by decide +kernel)).trans rfl
  have c1_0_19 : η1 0 19 = η 0 19 := v13
  have v14 : zEq (η1 0 44) (η 0 44) := (k1.1.2.2.2.1 0 44 (by decide +kernel)).trans rfl
  have c1_0_44 : η1 0 44 = η 0 44 := v14
  have v15 : zEq (η1 0 7) (η 0 7) := (k1.1.2.2.2.1 0 7 (by decide +kernel)).trans rfl
  have c1_0_7 : η1 0 7 = η 0 7 := v15
  have v16 : zEq (η1 0 6) (η 0 6) := (k1.1.2.2.2.1 0 6 (by decide +kernel)).trans rfl
  have c1_0_6 : η1 0 6 = η 0 6 := v16
  have v17 : zEq (η1 0 8) (η 0 8) := (k1.1.2.2.2.1 0 8 (by decide +kernel)).trans rfl
  have c1_0_8 : η1 0 8 = η 0 8 := v17
  have wb2 : wB wl_l zTr η2 := k2.1.1
  have bx2 : (0 : Int) ≤ x2 ∧ x2 ≤ 1 := k2.1.2.1
  have v19 : zEq (η1 0 46) (η 0 46) := (k1.1.2.2.2.1 0 46 (by decide +kernel)).trans rfl
  have v20 : zEq (η2 0 46) (η 0 46) := (k2.1.2.2.2.1 0 46 (by decide +kernel)).trans v19
  replace e3 : x3 = η 0 46 := e3.trans v20
  replace r3 : 0 ≤ x3 ∧ x3 ≤ 1 := r3
  have v21 : zEq (η2 0 41) (η 0 41) := (k2.1.2.2.2.1 0 41 (by decide +kernel)).trans v9
  have c2_0_41 : η2 0 41 = η 0 41 := v21
  have v22 : zEq (η2 0 43) (η 0 43) := (k2.1.2.2.2.1 0 43 (by decide +kernel)).trans v10
  have c2_0_43 : η2 0 43 = η 0 43 := v22
  have v23 : zEq (η2 0 42) (η 0 42) := (k2.1.2.2.2.1 0 42 (by decide +kernel)).trans v11
  have c2_0_42 : η2 0 42 = η 0 42 := v23
  have v24 : zEq (η2 0 45) (η 0 45) := (k2.1.2.2.2.1 0 45 (by decide +kernel)).trans v12
  have c2_0_45 : η2 0 45 = η 0 45 := v24
  have v25 : zEq (η2 0 19) (η 0 19) := (k2.1.2.2.2.1 0 19 (by decide +kernel)).trans v13
  have c2_0_19 : η2 0 19 = η 0 19 := v25
  have v26 : zEq (η2 0 44) (η 0 44) := (k2.1.2.2.2.1 0 44 (by decide +kernel)).trans v14
  have c2_0_44 : η2 0 44 = η 0 44 := v26
  have v27 : zEq (η2 0 7) (η 0 7) := (k2.1.2.2.2.1 0 7 (by decide +kernel)).trans v15
  have c2_0_7 : η2 0 7 = η 0 7 := v27
  have v28 : zEq (η2 0 6) (η 0 6) := (k2.1.2.2.2.1 0 6 (by decide +kernel)).trans v16
  have c2_0_6 : η2 0 6 = η 0 6 := v28
  have v29 : zEq (η2 0 8) (η 0 8) := (k2.1.2.2.2.1 0 8 (by decide +kernel)).trans v17
  have c2_0_8 : η2 0 8 = η 0 8 := v29
  have wb3 : wB wl_l zTr η3 := k4.1.1
  have bx4 : ((-1) : Int) ≤ x4 ∧ x4 ≤ 6 := k4.1.2.1
  have v30 : zEq (η3 0 8) (η 0 8) := (k4.1.2.2.2.1 0 8 (by decide +kernel)).trans v29
  replace e5 : x5 = η 0 8 := e5.trans v30
  replace r5 : -2147483648 ≤ x5 ∧ x5 ≤ 2147483647 := r5
  have v32 : zEq (η1 0 9) (η 0 9) := (k1.1.2.2.2.1 0 9 (by decide +kernel)).trans rfl
  have v33 : zEq (η2 0 9) (η 0 9) := (k2.1.2.2.2.1 0 9 (by decide +kernel)).trans v32
  have v34 : zEq (η3 0 9) (η 0 9) := (k4.1.2.2.2.1 0 9 (by decide +kernel)).trans v33
  replace e6 : x6 = η 0 9 := e6.trans v34
  replace r6 : -2147483648 ≤ x6 ∧ x6 ≤ 2147483647 := r6
  have fm1 : zFm zMl_leafRead η η1 := zFm_tr2 zFm_rf k1.1.2.2.2.1 (by decide +kernel)
  have fm2 : zFm zMl_leafRead η η2 := zFm_tr2 fm1 k2.1.2.2.2.1 (by decide +kernel)
  have fm3 : zFm zMl_leafRead η η3 := zFm_tr2 fm2 k4.1.2.2.2.1 (by decide +kernel)
  have fmE : zFm zMl_leafRead η η3 := fm3
  have fr22_0 : ∀ j, η 22 j = η 22 j := fun _ => rfl
  have v35 : ∀ j, η1 22 j = η 22 j := fun j => k1.1.2.2.2.1 22 _ (zinr_not (by decide +kernel))
  have fr22_1 : ∀ j, η1 22 j = η 22 j := v35
  have v36 : ∀ j, η2 22 j = η 22 j := fun j => (k2.1.2.2.2.1 22 _ (zinr_not (by decide +kernel))).trans (v35 j)
  have fr22_2 : ∀ j, η2 22 j = η 22 j := v36
  have v37 : ∀ j, η3 22 j = η 22 j := fun j => (k4.1.2.2.2.1 22 _ (zinr_not (by decide +kernel))).trans (v36 j)
  have fr22_3 : ∀ j, η3 22 j = η 22 j := v37
  have fr22 : ∀ j, η3 22 j = η 22 j := v37
  have v38 : zEq (η3 0 41) (η 0 41) := (k4.1.2.2.2.1 0 41 (by decide +kernel)).trans v21
  have f0_41 : η3 0 41 = η 0 41 := v38
  have v39 : zEq (η3 0 43) (η 0 43) := (k4.1.2.2.2.1 0 43 (by decide +kernel)).trans v22
  have f0_43 : η3 0 43 = η 0 43 := v39
  have v40 : zEq (η3 0 42) (η 0 42) := (k4.1.2.2.2.1 0 42 (by decide +kernel)).trans v23
  have f0_42 : η3 0 42 = η 0 42 := v40
  have v41 : zEq (η3 0 45) (η 0 45) := (k4.1.2.2.2.1 0 45 (by decide +kernel)).trans v24
  have f0_45 : η3 0 45 = η 0 45 := v41
  have v42 : zEq (η3 0 19) (η 0 19) := (k4.1.2.2.2.1 0 19 (by decide +kernel)).trans v25
  have f0_19 : η3 0 19 = η 0 19 := v42
  have v43 : zEq (η3 0 44) (η 0 44) := (k4.1.2.2.2.1 0 44 (by decide +kernel)).trans v26
  have f0_44 : η3 0 44 = η 0 44 := v43
  have v44 : zEq (η3 0 7) (η 0 7) := (k4.1.2.2.2.1 0 7 (by decide +kernel)).trans v27
  have f0_7 : η3 0 7 = η 0 7 := v44
  have v45 : zEq (η3 0 6) (η 0 6) := (k4.1.2.2.2.1 0 6 (by decide +kernel)).trans v28
  have f0_6 : η3 0 6 = η 0 6 := v45
  have f0_8 : η3 0 8 = η 0 8 := v30
  have wbE : wB wl_l zTr η3 := wb3
  
  have I0 : H_l 0 0 0 η := hpp.1
  have I1 : H_l 0 0 0 η1 := k1.2.1
  have I2 : H_l 0 0 0 η2 := k2.2.1
  have qk2 : η1 0 8 = 1 := k2.2.2 c2
  have I3 : H_l 0 0 0 η3 := k4.2.1
  exact I3
set_option maxHeartbeats 8000000 in
theorem zl_leafRead_o24 {ro : Nat → List Int32} (η : zE) (hp : sP wl_l zTr zPl_leafRead [] η) (hpp : pPl_leafRead [] η) : ∀ (x1 : Int) (η1 : zE), ((gC2 wl_l [(nat_lit 0, zPl_isSign, zOl_isSign, zMl_isSign), (nat_lit 1, zPl_wrong, zOl_wrong, zMl_wrong), (nat_lit 2, zPl_waitsFor0, zOl_waitsFor0, zMl_waitsFor0), (nat_lit 3, zPl_token, zOl_token, zMl_token), (nat_lit 4, zPl_isKey, zOl_isKey, zMl_isKey), (nat_lit 5, zPl_isCounted, zOl_isCounted, zMl_isCounted), (nat_lit 6, zPl_waitsFor2, zOl_waitsFor2, zMl_waitsFor2), (nat_lit 7, zPl_nameMet, zOl_nameMet, zMl_nameMet), (nat_lit 8, zPl_grown, zOl_grown, zMl_grown)] pCl_leafRead qCl_leafRead) 0).2 [40] η x1 η1 → (x1 = 0) → ∀ (x2 : Int) (η2 : zE), ((gC2 wl_l [(nat_lit 0, zPl_isSign, zOl_isSign, zMl_isSign), (nat_lit 1, zPl_wrong, zOl_wrong, zMl_wrong), (nat_lit 2, zPl_waitsFor0, zOl_waitsFor0, zMl_waitsFor0), (nat_lit 3, zPl_token, zOl_token, zMl_token), (nat_lit 4, zPl_isKey, zOl_isKey, zMl_isKey), (nat_lit 5, zPl_isCounted, zOl_isCounted, zMl_isCounted), (nat_lit 6, zPl_waitsFor2, zOl_waitsFor2, zMl_waitsFor2), (nat_lit 7, zPl_nameMet, zOl_nameMet, zMl_nameMet), (nat_lit 8, zPl_grown, zOl_grown, zMl_grown)] pCl_leafRead qCl_leafRead) 4).2 [12] η1 x2 η2 → (¬ x2 = 0) → ∀ x3 : Int, x3 = η2 0 (Int.toNat 46) → zok 1 x3 → (x3 = 0) → ∀ (x4 : Int) (η3 : zE), ((gC2 wl_l [(nat_lit 0, zPl_isSign, zOl_isSign, zMl_isSign), (nat_lit 1, zPl_wrong, zOl_wrong, zMl_wrong), (nat_lit 2, zPl_waitsFor0, zOl_waitsFor0, zMl_waitsFor0), (nat_lit 3, zPl_token, zOl_token, zMl_token), (nat_lit 4, zPl_isKey, zOl_isKey, zMl_isKey), (nat_lit 5, zPl_isCounted, zOl_isCounted, zMl_isCounted), (nat_lit 6, zPl_waitsFor2, zOl_waitsFor2, zMl_waitsFor2), (nat_lit 7, zPl_nameMet, zOl_nameMet, zMl_nameMet), (nat_lit 8, zPl_grown, zOl_grown, zMl_grown)] pCl_leafRead qCl_leafRead) 7).2 [] η2 x4 η3 → (x4 < 0) → ∀ x5 : Int, x5 = η3 0 (Int.toNat 8) → zok 0 x5 → (x5 = 3) → (x4 < 0) → ∀ x6 : Int, x6 = η3 0 (Int.toNat 9) → zok 0 x6 → (x6 ≤ 9999) → ∀ (x7 : Int) (η4 : zE), ((gC2 wl_l [(nat_lit 0, zPl_isSign, zOl_isSign, zMl_isSign), (nat_lit 1, zPl_wrong, zOl_wrong, zMl_wrong), (nat_lit 2, zPl_waitsFor0, zOl_waitsFor0, zMl_waitsFor0), (nat_lit 3, zPl_token, zOl_token, zMl_token), (nat_lit 4, zPl_isKey, zOl_isKey, zMl_isKey), (nat_lit 5, zPl_isCounted, zOl_isCounted, zMl_isCounted), (nat_lit 6, zPl_waitsFor2, zOl_waitsFor2, zMl_waitsFor2), (nat_lit 7, zPl_nameMet, zOl_nameMet, zMl_nameMet), (nat_lit 8, zPl_grown, zOl_grown, zMl_grown)] pCl_leafRead qCl_leafRead) 5).2 [] η3 x7 η4 → (¬ x7 = 0) → (x4 < 0) → (x4 < 0) → ∀ x8 : Int, x8 = η4 0 (Int.toNat 9) → zok 0 x8 → ((gC2 wl_l [(nat_lit 0, zPl_isSign, zOl_isSign, zMl_isSign), (nat_lit 1, zPl_wrong, zOl_wrong, zMl_wrong), (nat_lit 2, zPl_waitsFor0, zOl_waitsFor0, zMl_waitsFor0), (nat_lit 3, zPl_token, zOl_token, zMl_token), (nat_lit 4, zPl_isKey, zOl_isKey, zMl_isKey), (nat_lit 5, zPl_isCounted, zOl_isCounted, zMl_isCounted), (nat_lit 6, zPl_waitsFor2, zOl_waitsFor2, zMl_waitsFor2), (nat_lit 7, zPl_nameMet, zOl_nameMet, zMl_nameMet), (nat_lit 8, zPl_grown, zOl_grown, zMl_grown)] pCl_leafRead qCl_leafRead) 8).1 [0, x8, 0] η4 := by
  have hw : η 0 45 = 1 := hpp.2
  have hs : η 0 7 ≤ η 0 6 := hpp.1.1.1.1
  have bd43 : (0 : Int) ≤ η 0 43 ∧ η 0 43 ≤ 8 := wf_ok (a := 43) (b := 43) (z := (0, 8)) hp.1 (by decide +kernel) (Nat.le_refl _) (Nat.le_refl _)
  have bd44 : (0 : Int) ≤ η 0 44 ∧ η 0 44 ≤ 64 := wf_ok (a := 44) (b := 44) (z := (0, 64)) hp.1 (by decide +kernel) (Nat.le_refl _) (Nat.le_refl _)
  have bd19 : (0 : Int) ≤ η 0 19 ∧ η 0 19 ≤ 64 := wf_ok (a := 19) (b := 19) (z := (0, 64)) hp.1 (by decide +kernel) (Nat.le_refl _) (Nat.le_refl _)
  intro x1 η1 h1 c1 x2 η2 h2 c2 x3 e3 r3 c3 x4 η3 h4 c4 x5 e5 r5 c5 c6 x6 e6 r6 c7 x7 η4 h7 c8 c9 c10 x8 e8 r8
  have k1 : sQ wl_l zTr zOl_isSign zMl_isSign [40] η x1 η1 ∧ pQl_isSign [40] η x1 η1 := h1
  have k2 : sQ wl_l zTr zOl_isKey zMl_isKey [12] η1 x2 η2 ∧ pQl_isKey [12] η1 x2 η2 := h2
  have k4 : sQ wl_l zTr zOl_nameMet zMl_nameMet [] η2 x4 η3 ∧ pQl_nameMet [] η2 x4 η3 := h4
  have k7 : sQ wl_l zTr zOl_isCounted zMl_isCounted [] η3 x7 η4 ∧ pQl_isCounted [] η3 x7 η4 := h7
  have c0_0_41 : η 0 41 = η 0 41 := rfl
  have w0_0_43 : (0 : Int) ≤ η 0 43 ∧ η 0 43 ≤ 8 := wf_ok (a := 43) (b := 43) (z := (0, 8)) hp.1 (by decide +kernel) (Nat.le_refl _) (Nat.le_refl _)
  have c0_0_43 : η 0 43 = η 0 43 := rfl
  have c0_0_42 : η 0 42 = η 0 42 := rfl
  have c0_0_45 : η 0 45 = η 0 45 := rfl
  have w0_0_19 : (0 : Int) ≤ η 0 19 ∧ η 0 19 ≤ 64 := wf_ok (a := 19) (b := 19) (z := (0, 64)) hp.1 (by decide +kernel) (Nat.le_refl _) (Nat.le_refl _)
  have c0_0_19 : η 0 19 = η 0 19 := rfl
  have w0_0_44 : (0 : Int) ≤ η 0 44 ∧ η 0 44 ≤ 64 := wf_ok (a := 44) (b := 44) (z := (0, 64)) hp.1 (by decide +kernel) (Nat.le_refl _) (Nat.le_refl _)
  have c0_0_44 : η 0 44 = η 0 44 := rfl
  have w0_0_7 : (0 : Int) ≤ η 0 7 ∧ η 0 7 ≤ 700 := wf_ok (a := 7) (b := 7) (z := (0, 700)) hp.1 (by decide +kernel) (Nat.le_refl _) (Nat.le_refl _)
  have c0_0_7 : η 0 7 = η 0 7 := rfl
  have w0_0_6 : (0 : Int) ≤ η 0 6 ∧ η 0 6 ≤ 700 := wf_ok (a := 6) (b := 6) (z := (0, 700)) hp.1 (by decide +kernel) (Nat.le_refl _) (Nat.le_refl _)
  have c0_0_6 : η 0 6 = η 0 6 := rfl
  have w0_0_8 : (0 : Int) ≤ η 0 8 ∧ η 0 8 ≤ 6 := wf_ok (a := 8) (b := 8) (z := (0, 6)) hp.1 (by decide +kernel) (Nat.le_refl _) (Nat.le_refl _)
  have c0_0_8 : η 0 8 = η 0 8 := rfl
  have wb1 : wB wl_l zTr η1 := k1.1.1
  have bx1 : (0 : Int) ≤ x1 ∧ x1 ≤ 1 := k1.1.2.1
  have v9 : zEq (η1 0 41) (η 0 41) := (k1.1.2.2.2.1 0 41 (by decide +kernel)).trans rfl
  have c1_0_41 : η1 0 41 = η 0 41 := v9
  have v10 : zEq (η1 0 43) (η 0 43) := (k1.1.2.2.2.1 0 43 (by decide +kernel)).trans rfl
  have c1_0_43 : η1 0 43 = η 0 43 := v10
  have v11 : zEq (η1 0 42) (η 0 42) := (k1.1.2.2.2.1 0 42 (by decide +kernel)).trans rfl
  have c1_0_42 : η1 0 42 = η 0 42 := v11
  have v12 : zEq (η1 0 45) (η 0 45) := (k1.1.2.2.2.1 0 45 (by decide +kernel)).trans rfl
  have c1_0_45 : η1 0 45 = η 0 45 := v12
  have v13 : zEq (η1 0 19) (η 0 19) := (k1.1.2.2.2.1 0 19 (by decide +kernel)).trans rfl
  have c1_0_19 : η1 0 19 = η 0 19 := v13
  have v14 : zEq (η1 0 44) (η 0 44) := (k1.1.2.2.2.1 0 44 (by decide +kernel)).trans rfl
  have c1_0_44 : η1 0 44 = η 0 44 := v14
  have v15 : zEq (η1 0 7) (η 0 7) := (k1.1.2.2.2.1 0 7 (by decide +kernel)).trans rfl
  have c1_0_7 : η1 0 7 = η 0 7 := v15
  have v16 : zEq (η1 0 6) (η 0 6) := (k1.1.2.2.2.1 0 6 (by decide +kernel)).trans rfl
  have c1_0_6 : η1 0 6 = η 0 6 := v16
  have v17 : zEq (η1 0 8) (η 0 8) := (k1.1.2.2.2.1 0 8 (by decide +kernel)).trans rfl
  have c1_0_8 : η1 0 8 = η 0 8 := v17
  have wb2 : wB wl_l zTr η2 := k2.1.1
  have bx2 : (0 : Int) ≤ x2 ∧ x2 ≤ 1 := k2.1.2.1
  have v19 : zEq (η1 0 46) (η 0 46) := (k1.1.2.2.2.1 0 46 (by decide +kernel)).trans rfl
  have v20 : zEq (η2 0 46) (η 0 46) := (k2.1.2.2.2.1 0 46 (by decide +kernel)).trans v19
  replace e3 : x3 = η 0 46 := e3.trans v20
  replace r3 : 0 ≤ x3 ∧ x3 ≤ 1 := r3
  have v21 : zEq (η2 0 41) (η 0 41) := (k2.1.2.2.2.1 0 41 (by decide +kernel)).trans v9
  have c2_0_41 : η2 0 41 = η 0 41 := v21
  have v22 : zEq (η2 0 43) (η 0 43) := (k2.1.2.2.2.1 0 43 (by decide +kernel)).trans v10
  have c2_0_43 : η2 0 43 = η 0 43 := v22
  have v23 : zEq (η2 0 42) (η 0 42) := (k2.1.2.2.2.1 0 42 (by decide +kernel)).trans v11
  have c2_0_42 : η2 0 42 = η 0 42 := v23
  have v24 : zEq (η2 0 45) (η 0 45) := (k2.1.2.2.2.1 0 45 (by decide +kernel)).trans v12
  have c2_0_45 : η2 0 45 = η 0 45 := v24
  have v25 : zEq (η2 0 19) (η 0 19) := (k2.1.2.2.2.1 0 19 (by decide +kernel)).trans v13
  have c2_0_19 : η2 0 19 = η 0 19 := v25
  have v26 : zEq (η2 0 44) (η 0 44) := (k2.1.2.2.2.1 0 44 (by decide +kernel)).trans v14
  have c2_0_44 : η2 0 44 = η 0 44 := v26
  have v27 : zEq (η2 0 7) (η 0 7) := (k2.1.2.2.2.1 0 7 (by decide +kernel)).trans v15
  have c2_0_7 : η2 0 7 = η 0 7 := v27
  have v28 : zEq (η2 0 6) (η 0 6) := (k2.1.2.2.2.1 0 6 (by decide +kernel)).trans v16
  have c2_0_6 : η2 0 6 = η 0 6 := v28
  have v29 : zEq (η2 0 8) (η 0 8) := (k2.1.2.2.2.1 0 8 (by decide +kernel)).trans v17
  have c2_0_8 : η2 0 8 = η 0 8 := v29
  have wb3 : wB wl_l zTr η3 := k4.1.1
  have bx4 : ((-1) : Int) ≤ x4 ∧ x4 ≤ 6 := k4.1.2.1
  have v30 : zEq (η3 0 8) (η 0 8) := (k4.1.2.2.2.1 0 8 (by decide +kernel)).trans v29
  replace e5 : x5 = η 0 8 := e5.trans v30
  replace r5 : -2147483648 ≤ x5 ∧ x5 ≤ 2147483647 := r5
  have v32 : zEq (η1 0 9) (η 0 9) := (k1.1.2.2.2.1 0 9 (by decide +kernel)).trans rfl
  have v33 : zEq (η2 0 9) (η 0 9) := (k2.1.2.2.2.1 0 9 (by decide +kernel)).trans v32
  have v34 : zEq (η3 0 9) (η 0 9) := (k4.1.2.2.2.1 0 9 (by decide +kernel)).trans v33
  replace e6 : x6 = η 0 9 := e6.trans v34
  replace r6 : -2147483648 ≤ x6 ∧ x6 ≤ 2147483647 := r6
  have v35 : zEq (η3 0 41) (η 0 41) := (k4.1.2.2.2.1 0 41 (by decide +kernel)).trans v21
  have c3_0_41 : η3 0 41 = η 0 41 := v35
  have v36 : zEq (η3 0 43) (η 0 43) := (k4.1.2.2.2.1 0 43 (by decide +kernel)).trans v22
  have c3_0_43 : η3 0 43 = η 0 43 := v36
  have v37 : zEq (η3 0 42) (η 0 42) := (k4.1.2.2.2.1 0 42 (by decide +kernel)).trans v23
  have c3_0_42 : η3 0 42 = η 0 42 := v37
  have v38 : zEq (η3 0 45) (η 0 45) := (k4.1.2.2.2.1 0 45 (by decide +kernel)).trans v24
  have c3_0_45 : η3 0 45 = η 0 45 := v38
  have v39 : zEq (η3 0 19) (η 0 19) := (k4.1.2.2.2.1 0 19 (by decide +kernel)).trans v25
  have c3_0_19 : η3 0 19 = η 0 19 := v39
  have v40 : zEq (η3 0 44) (η 0 44) := (k4.1.2.2.2.1 0 44 (by decide +kernel)).trans v26
  have c3_0_44 : η3 0 44 = η 0 44 := v40
  have v41 : zEq (η3 0 7) (η 0 7) := (k4.1.2.2.2.1 0 7 (by decide +kernel)).trans v27
  have c3_0_7 : η3 0 7 = η 0 7 := v41
  have v42 : zEq (η3 0 6) (η 0 6) := (k4.1.2.2.2.1 0 6 (by decide +kernel)).trans v28
  have c3_0_6 : η3 0 6 = η 0 6 := v42
  have c3_0_8 : η3 0 8 = η 0 8 := v30
  have wb4 : wB wl_l zTr η4 := k7.1.1
  have bx7 : (0 : Int) ≤ x7 ∧ x7 ≤ 1 := k7.1.2.1
  have v43 : zEq (η4 0 9) (η 0 9) := (k7.1.2.2.2.1 0 9 (by decide +kernel)).trans v34
  replace e8 : x8 = η 0 9 := e8.trans v43
  replace r8 : -2147483648 ≤ x8 ∧ x8 ≤ 2147483647 := r8
  have fm1 : zFm zMl_leafRead η η1 := zFm_tr2 zFm_rf k1.1.2.2.2.1 (by decide +kernel)
  have fm2 : zFm zMl_leafRead η η2 := zFm_tr2 fm1 k2.1.2.2.2.1 (by decide +kernel)
  have fm3 : zFm zMl_leafRead η η3 := zFm_tr2 fm2 k4.1.2.2.2.1 (by decide +kernel)
  have fm4 : zFm zMl_leafRead η η4 := zFm_tr2 fm3 k7.1.2.2.2.1 (by decide +kernel)
  have fmE : zFm zMl_leafRead η η4 := fm4
  have fr22_0 : ∀ j, η 22 j = η 22 j := fun _ => rfl
  have v44 : ∀ j, η1 22 j = η 22 j := fun j => k1.1.2.2.2.1 22 _ (zinr_not (by decide +kernel))
  have fr22_1 : ∀ j, η1 22 j = η 22 j := v44
  have v45 : ∀ j, η2 22 j = η 22 j := fun j => (k2.1.2.2.2.1 22 _ (zinr_not (by decide +kernel))).trans (v44 j)
  have fr22_2 : ∀ j, η2 22 j = η 22 j := v45
  have v46 : ∀ j, η3 22 j = η 22 j := fun j => (k4.1.2.2.2.1 22 _ (zinr_not (by decide +kernel))).trans (v45 j)
  have fr22_3 : ∀ j, η3 22 j = η 22 j := v46
  have v47 : ∀ j, η4 22 j = η 22 j := fun j => (k7.1.2.2.2.1 22 _ (zinr_not (by decide +kernel))).trans (v46 j)
  have fr22_4 : ∀ j, η4 22 j = η 22 j := v47
  have fr22 : ∀ j, η4 22 j = η 22 j := v47
  have v48 : zEq (η4 0 41) (η 0 41) := (k7.1.2.2.2.1 0 41 (by decide +kernel)).trans v35
  have f0_41 : η4 0 41 = η 0 41 := v48
  have v49 : zEq (η4 0 43) (η 0 43) := (k7.1.2.2.2.1 0 43 (by decide +kernel)).trans v36
  have f0_43 : η4 0 43 = η 0 43 := v49
  have v50 : zEq (η4 0 42) (η 0 42) := (k7.1.2.2.2.1 0 42 (by decide +kernel)).trans v37
  have f0_42 : η4 0 42 = η 0 42 := v50
  have v51 : zEq (η4 0 45) (η 0 45) := (k7.1.2.2.2.1 0 45 (by decide +kernel)).trans v38
  have f0_45 : η4 0 45 = η 0 45 := v51
  have v52 : zEq (η4 0 19) (η 0 19) := (k7.1.2.2.2.1 0 19 (by decide +kernel)).trans v39
  have f0_19 : η4 0 19 = η 0 19 := v52
  have w4_0_44 : (0 : Int) ≤ η4 0 44 ∧ η4 0 44 ≤ 64 := wf_ok (a := 44) (b := 44) (z := (0, 64)) k7.1.1 (by decide +kernel) (Nat.le_refl _) (Nat.le_refl _)
  have f0_44 : η4 0 44 = η4 0 44 := rfl
  have v54 : zEq (η4 0 7) (η 0 7) := (k7.1.2.2.2.1 0 7 (by decide +kernel)).trans v41
  have f0_7 : η4 0 7 = η 0 7 := v54
  have v55 : zEq (η4 0 6) (η 0 6) := (k7.1.2.2.2.1 0 6 (by decide +kernel)).trans v42
  have f0_6 : η4 0 6 = η 0 6 := v55
  have v56 : zEq (η4 0 8) (η 0 8) := (k7.1.2.2.2.1 0 8 (by decide +kernel)).trans v30
  have f0_8 : η4 0 8 = η 0 8 := v56
  have wbE : wB wl_l zTr η4 := wb4
  
  have I0 : H_l 0 0 0 η := hpp.1
  have I1 : H_l 0 0 0 η1 := k1.2.1
  have I2 : H_l 0 0 0 η2 := k2.2.1
  have qk2 : η1 0 8 = 1 := k2.2.2 c2
  have I3 : H_l 0 0 0 η3 := k4.2.1
  have I4 : H_l 1 0 0 η4 := k7.2.1 c8
  obtain ⟨j1, j2, j3, j4⟩ := I4.2
  have cn := cz_n (η := η4) (η4 0 41).toNat
  exact ⟨Or.inl I4, ⟨fun w => absurd w (show ¬ (0 : Int) = 1 by decide), fun w => absurd rfl w, fun w => absurd rfl w⟩, show 0 ≤ η4 0 42 by omega, show η4 0 42 ≤ 95 by omega⟩
set_option maxHeartbeats 8000000 in
theorem zl_leafRead_o25 {ro : Nat → List Int32} (η : zE) (hp : sP wl_l zTr zPl_leafRead [] η) (hpp : pPl_leafRead [] η) : ∀ (x1 : Int) (η1 : zE), ((gC2 wl_l [(nat_lit 0, zPl_isSign, zOl_isSign, zMl_isSign), (nat_lit 1, zPl_wrong, zOl_wrong, zMl_wrong), (nat_lit 2, zPl_waitsFor0, zOl_waitsFor0, zMl_waitsFor0), (nat_lit 3, zPl_token, zOl_token, zMl_token), (nat_lit 4, zPl_isKey, zOl_isKey, zMl_isKey), (nat_lit 5, zPl_isCounted, zOl_isCounted, zMl_isCounted), (nat_lit 6, zPl_waitsFor2, zOl_waitsFor2, zMl_waitsFor2), (nat_lit 7, zPl_nameMet, zOl_nameMet, zMl_nameMet), (nat_lit 8, zPl_grown, zOl_grown, zMl_grown)] pCl_leafRead qCl_leafRead) 0).2 [40] η x1 η1 → (x1 = 0) → ∀ (x2 : Int) (η2 : zE), ((gC2 wl_l [(nat_lit 0, zPl_isSign, zOl_isSign, zMl_isSign), (nat_lit 1, zPl_wrong, zOl_wrong, zMl_wrong), (nat_lit 2, zPl_waitsFor0, zOl_waitsFor0, zMl_waitsFor0), (nat_lit 3, zPl_token, zOl_token, zMl_token), (nat_lit 4, zPl_isKey, zOl_isKey, zMl_isKey), (nat_lit 5, zPl_isCounted, zOl_isCounted, zMl_isCounted), (nat_lit 6, zPl_waitsFor2, zOl_waitsFor2, zMl_waitsFor2), (nat_lit 7, zPl_nameMet, zOl_nameMet, zMl_nameMet), (nat_lit 8, zPl_grown, zOl_grown, zMl_grown)] pCl_leafRead qCl_leafRead) 4).2 [12] η1 x2 η2 → (¬ x2 = 0) → ∀ x3 : Int, x3 = η2 0 (Int.toNat 46) → zok 1 x3 → (x3 = 0) → ∀ (x4 : Int) (η3 : zE), ((gC2 wl_l [(nat_lit 0, zPl_isSign, zOl_isSign, zMl_isSign), (nat_lit 1, zPl_wrong, zOl_wrong, zMl_wrong), (nat_lit 2, zPl_waitsFor0, zOl_waitsFor0, zMl_waitsFor0), (nat_lit 3, zPl_token, zOl_token, zMl_token), (nat_lit 4, zPl_isKey, zOl_isKey, zMl_isKey), (nat_lit 5, zPl_isCounted, zOl_isCounted, zMl_isCounted), (nat_lit 6, zPl_waitsFor2, zOl_waitsFor2, zMl_waitsFor2), (nat_lit 7, zPl_nameMet, zOl_nameMet, zMl_nameMet), (nat_lit 8, zPl_grown, zOl_grown, zMl_grown)] pCl_leafRead qCl_leafRead) 7).2 [] η2 x4 η3 → (x4 < 0) → ∀ x5 : Int, x5 = η3 0 (Int.toNat 8) → zok 0 x5 → (x5 = 3) → (x4 < 0) → ∀ x6 : Int, x6 = η3 0 (Int.toNat 9) → zok 0 x6 → (x6 ≤ 9999) → ∀ (x7 : Int) (η4 : zE), ((gC2 wl_l [(nat_lit 0, zPl_isSign, zOl_isSign, zMl_isSign), (nat_lit 1, zPl_wrong, zOl_wrong, zMl_wrong), (nat_lit 2, zPl_waitsFor0, zOl_waitsFor0, zMl_waitsFor0), (nat_lit 3, zPl_token, zOl_token, zMl_token), (nat_lit 4, zPl_isKey, zOl_isKey, zMl_isKey), (nat_lit 5, zPl_isCounted, zOl_isCounted, zMl_isCounted), (nat_lit 6, zPl_waitsFor2, zOl_waitsFor2, zMl_waitsFor2), (nat_lit 7, zPl_nameMet, zOl_nameMet, zMl_nameMet), (nat_lit 8, zPl_grown, zOl_grown, zMl_grown)] pCl_leafRead qCl_leafRead) 5).2 [] η3 x7 η4 → (¬ x7 = 0) → (x4 < 0) → (x4 < 0) → ∀ x8 : Int, x8 = η4 0 (Int.toNat 9) → zok 0 x8 → ∀ (x9 : Int) (η5 : zE), ((gC2 wl_l [(nat_lit 0, zPl_isSign, zOl_isSign, zMl_isSign), (nat_lit 1, zPl_wrong, zOl_wrong, zMl_wrong), (nat_lit 2, zPl_waitsFor0, zOl_waitsFor0, zMl_waitsFor0), (nat_lit 3, zPl_token, zOl_token, zMl_token), (nat_lit 4, zPl_isKey, zOl_isKey, zMl_isKey), (nat_lit 5, zPl_isCounted, zOl_isCounted, zMl_isCounted), (nat_lit 6, zPl_waitsFor2, zOl_waitsFor2, zMl_waitsFor2), (nat_lit 7, zPl_nameMet, zOl_nameMet, zMl_nameMet), (nat_lit 8, zPl_grown, zOl_grown, zMl_grown)] pCl_leafRead qCl_leafRead) 8).2 [0, x8, 0] η4 x9 η5 → ∀ η6 : zE, η6 = zup η5 0 (Int.toNat 45) 0 → ((gC2 wl_l [(nat_lit 0, zPl_isSign, zOl_isSign, zMl_isSign), (nat_lit 1, zPl_wrong, zOl_wrong, zMl_wrong), (nat_lit 2, zPl_waitsFor0, zOl_waitsFor0, zMl_waitsFor0), (nat_lit 3, zPl_token, zOl_token, zMl_token), (nat_lit 4, zPl_isKey, zOl_isKey, zMl_isKey), (nat_lit 5, zPl_isCounted, zOl_isCounted, zMl_isCounted), (nat_lit 6, zPl_waitsFor2, zOl_waitsFor2, zMl_waitsFor2), (nat_lit 7, zPl_nameMet, zOl_nameMet, zMl_nameMet), (nat_lit 8, zPl_grown, zOl_grown, zMl_grown)] pCl_leafRead qCl_leafRead) 3).1 [] η6 := by
  have hw : η 0 45 = 1 := hpp.2
  have hs : η 0 7 ≤ η 0 6 := hpp.1.1.1.1
  have bd43 : (0 : Int) ≤ η 0 43 ∧ η 0 43 ≤ 8 := wf_ok (a := 43) (b := 43) (z := (0, 8)) hp.1 (by decide +kernel) (Nat.le_refl _) (Nat.le_refl _)
  have bd44 : (0 : Int) ≤ η 0 44 ∧ η 0 44 ≤ 64 := wf_ok (a := 44) (b := 44) (z := (0, 64)) hp.1 (by decide +kernel) (Nat.le_refl _) (Nat.le_refl _)
  have bd19 : (0 : Int) ≤ η 0 19 ∧ η 0 19 ≤ 64 := wf_ok (a := 19) (b := 19) (z := (0, 64)) hp.1 (by decide +kernel) (Nat.le_refl _) (Nat.le_refl _)
  intro x1 η1 h1 c1 x2 η2 h2 c2 x3 e3 r3 c3 x4 η3 h4 c4 x5 e5 r5 c5 c6 x6 e6 r6 c7 x7 η4 h7 c8 c9 c10 x8 e8 r8 x9 η5 h9 η6 eη6
  have k1 : sQ wl_l zTr zOl_isSign zMl_isSign [40] η x1 η1 ∧ pQl_isSign [40] η x1 η1 := h1
  have k2 : sQ wl_l zTr zOl_isKey zMl_isKey [12] η1 x2 η2 ∧ pQl_isKey [12] η1 x2 η2 := h2
  have k4 : sQ wl_l zTr zOl_nameMet zMl_nameMet [] η2 x4 η3 ∧ pQl_nameMet [] η2 x4 η3 := h4
  have k7 : sQ wl_l zTr zOl_isCounted zMl_isCounted [] η3 x7 η4 ∧ pQl_isCounted [] η3 x7 η4 := h7
  have k9 : sQ wl_l zTr zOl_grown zMl_grown [0, x8, 0] η4 x9 η5 ∧ pQl_grown [0, x8, 0] η4 x9 η5 := h9
  have c0_0_41 : η 0 41 = η 0 41 := rfl
  have w0_0_43 : (0 : Int) ≤ η 0 43 ∧ η 0 43 ≤ 8 := wf_ok (a := 43) (b := 43) (z := (0, 8)) hp.1 (by decide +kernel) (Nat.le_refl _) (Nat.le_refl _)
  have c0_0_43 : η 0 43 = η 0 43 := rfl
  have c0_0_42 : η 0 42 = η 0 42 := rfl
  have c0_0_45 : η 0 45 = η 0 45 := rfl
  have w0_0_19 : (0 : Int) ≤ η 0 19 ∧ η 0 19 ≤ 64 := wf_ok (a := 19) (b := 19) (z := (0, 64)) hp.1 (by decide +kernel) (Nat.le_refl _) (Nat.le_refl _)
  have c0_0_19 : η 0 19 = η 0 19 := rfl
  have w0_0_44 : (0 : Int) ≤ η 0 44 ∧ η 0 44 ≤ 64 := wf_ok (a := 44) (b := 44) (z := (0, 64)) hp.1 (by decide +kernel) (Nat.le_refl _) (Nat.le_refl _)
  have c0_0_44 : η 0 44 = η 0 44 := rfl
  have w0_0_7 : (0 : Int) ≤ η 0 7 ∧ η 0 7 ≤ 700 := wf_ok (a := 7) (b := 7) (z := (0, 700)) hp.1 (by decide +kernel) (Nat.le_refl _) (Nat.le_refl _)
  have c0_0_7 : η 0 7 = η 0 7 := rfl
  have w0_0_6 : (0 : Int) ≤ η 0 6 ∧ η 0 6 ≤ 700 := wf_ok (a := 6) (b := 6) (z := (0, 700)) hp.1 (by decide +kernel) (Nat.le_refl _) (Nat.le_refl _)
  have c0_0_6 : η 0 6 = η 0 6 := rfl
  have w0_0_8 : (0 : Int) ≤ η 0 8 ∧ η 0 8 ≤ 6 := wf_ok (a := 8) (b := 8) (z := (0, 6)) hp.1 (by decide +kernel) (Nat.le_refl _) (Nat.le_refl _)
  have c0_0_8 : η 0 8 = η 0 8 := rfl
  have wb1 : wB wl_l zTr η1 := k1.1.1
  have bx1 : (0 : Int) ≤ x1 ∧ x1 ≤ 1 := k1.1.2.1
  have v9 : zEq (η1 0 41) (η 0 41) := (k1.1.2.2.2.1 0 41 (by decide +kernel)).trans rfl
  have c1_0_41 : η1 0 41 = η 0 41 := v9
  have v10 : zEq (η1 0 43) (η 0 43) := (k1.1.2.2.2.1 0 43 (by decide +kernel)).trans rfl
  have c1_0_43 : η1 0 43 = η 0 43 := v10
  have v11 : zEq (η1 0 42) (η 0 42) := (k1.1.2.2.2.1 0 42 (by decide +kernel)).trans rfl
  have c1_0_42 : η1 0 42 = η 0 42 := v11
  have v12 : zEq (η1 0 45) (η 0 45) := (k1.1.2.2.2.1 0 45 (by decide +kernel)).trans rfl
  have c1_0_45 : η1 0 45 = η 0 45 := v12
  have v13 : zEq (η1 0 19) (η 0 19) := (k1.1.2.2.2.1 0 19 (by decide +kernel)).trans rfl
  have c1_0_19 : η1 0 19 = η 0 19 := v13
  have v14 : zEq (η1 0 44) (η 0 44) := (k1.1.2.2.2.1 0 44 (by decide +kernel)).trans rfl
  have c1_0_44 : η1 0 44 = η 0 44 := v14
  have v15 : zEq (η1 0 7) (η 0 7) := (k1.1.2.2.2.1 0 7 (by decide +kernel)).trans rfl
  have c1_0_7 : η1 0 7 = η 0 7 := v15
  have v16 : zEq (η1 0 6) (η 0 6) := (k1.1.2.2.2.1 0 6 (by decide +kernel)).trans rfl
  have c1_0_6 : η1 0 6 = η 0 6 := v16
  have v17 : zEq (η1 0 8) (η 0 8) := (k1.1.2.2.2.1 0 8 (by decide +kernel)).trans rfl
  have c1_0_8 : η1 0 8 = η 0 8 := v17
  have wb2 : wB wl_l zTr η2 := k2.1.1
  have bx2 : (0 : Int) ≤ x2 ∧ x2 ≤ 1 := k2.1.2.1
  have v19 : zEq (η1 0 46) (η 0 46) := (k1.1.2.2.2.1 0 46 (by decide +kernel)).trans rfl
  have v20 : zEq (η2 0 46) (η 0 46) := (k2.1.2.2.2.1 0 46 (by decide +kernel)).trans v19
  replace e3 : x3 = η 0 46 := e3.trans v20
  replace r3 : 0 ≤ x3 ∧ x3 ≤ 1 := r3
  have v21 : zEq (η2 0 41) (η 0 41) := (k2.1.2.2.2.1 0 41 (by decide +kernel)).trans v9
  have c2_0_41 : η2 0 41 = η 0 41 := v21
  have v22 : zEq (η2 0 43) (η 0 43) := (k2.1.2.2.2.1 0 43 (by decide +kernel)).trans v10
  have c2_0_43 : η2 0 43 = η 0 43 := v22
  have v23 : zEq (η2 0 42) (η 0 42) := (k2.1.2.2.2.1 0 42 (by decide +kernel)).trans v11
  have c2_0_42 : η2 0 42 = η 0 42 := v23
  have v24 : zEq (η2 0 45) (η 0 45) := (k2.1.2.2.2.1 0 45 (by decide +kernel)).trans v12
  have c2_0_45 : η2 0 45 = η 0 45 := v24
  have v25 : zEq (η2 0 19) (η 0 19) := (k2.1.2.2.2.1 0 19 (by decide +kernel)).trans v13
  have c2_0_19 : η2 0 19 = η 0 19 := v25
  have v26 : zEq (η2 0 44) (η 0 44) := (k2.1.2.2.2.1 0 44 (by decide +kernel)).trans v14
  have c2_0_44 : η2 0 44 = η 0 44 := v26
  have v27 : zEq (η2 0 7) (η 0 7) := (k2.1.2.2.2.1 0 7 (by decide +kernel)).trans v15
  have c2_0_7 : η2 0 7 = η 0 7 := v27
  have v28 : zEq (η2 0 6) (η 0 6) := (k2.1.2.2.2.1 0 6 (by decide +kernel)).trans v16
  have c2_0_6 : η2 0 6 = η 0 6 := v28
  have v29 : zEq (η2 0 8) (η 0 8) := (k2.1.2.2.2.1 0 8 (by decide +kernel)).trans v17
  have c2_0_8 : η2 0 8 = η 0 8 := v29
  have wb3 : wB wl_l zTr η3 := k4.1.1
  have bx4 : ((-1) : Int) ≤ x4 ∧ x4 ≤ 6 := k4.1.2.1
  have v30 : zEq (η3 0 8) (η 0 8) := (k4.1.2.2.2.1 0 8 (by decide +kernel)).trans v29
  replace e5 : x5 = η 0 8 := e5.trans v30
  replace r5 : -2147483648 ≤ x5 ∧ x5 ≤ 2147483647 := r5
  have v32 : zEq (η1 0 9) (η 0 9) := (k1.1.2.2.2.1 0 9 (by decide +kernel)).trans rfl
  have v33 : zEq (η2 0 9) (η 0 9) := (k2.1.2.2.2.1 0 9 (by decide +kernel)).trans v32
  have v34 : zEq (η3 0 9) (η 0 9) := (k4.1.2.2.2.1 0 9 (by decide +kernel)).trans v33
  replace e6 : x6 = η 0 9 := e6.trans v34
  replace r6 : -2147483648 ≤ x6 ∧ x6 ≤ 2147483647 := r6
  have v35 : zEq (η3 0 41) (η 0 41) := (k4.1.2.2.2.1 0 41 (by decide +kernel)).trans v21
  have c3_0_41 : η3 0 41 = η 0 41 := v35
  have v36 : zEq (η3 0 43) (η 0 43) := (k4.1.2.2.2.1 0 43 (by decide +kernel)).trans v22
  have c3_0_43 : η3 0 43 = η 0 43 := v36
  have v37 : zEq (η3 0 42) (η 0 42) := (k4.1.2.2.2.1 0 42 (by decide +kernel)).trans v23
  have c3_0_42 : η3 0 42 = η 0 42 := v37
  have v38 : zEq (η3 0 45) (η 0 45) := (k4.1.2.2.2.1 0 45 (by decide +kernel)).trans v24
  have c3_0_45 : η3 0 45 = η 0 45 := v38
  have v39 : zEq (η3 0 19) (η 0 19) := (k4.1.2.2.2.1 0 19 (by decide +kernel)).trans v25
  have c3_0_19 : η3 0 19 = η 0 19 := v39
  have v40 : zEq (η3 0 44) (η 0 44) := (k4.1.2.2.2.1 0 44 (by decide +kernel)).trans v26
  have c3_0_44 : η3 0 44 = η 0 44 := v40
  have v41 : zEq (η3 0 7) (η 0 7) := (k4.1.2.2.2.1 0 7 (by decide +kernel)).trans v27
  have c3_0_7 : η3 0 7 = η 0 7 := v41
  have v42 : zEq (η3 0 6) (η 0 6) := (k4.1.2.2.2.1 0 6 (by decide +kernel)).trans v28
  have c3_0_6 : η3 0 6 = η 0 6 := v42
  have c3_0_8 : η3 0 8 = η 0 8 := v30
  have wb4 : wB wl_l zTr η4 := k7.1.1
  have bx7 : (0 : Int) ≤ x7 ∧ x7 ≤ 1 := k7.1.2.1
  have v43 : zEq (η4 0 9) (η 0 9) := (k7.1.2.2.2.1 0 9 (by decide +kernel)).trans v34
  replace e8 : x8 = η 0 9 := e8.trans v43
  replace r8 : -2147483648 ≤ x8 ∧ x8 ≤ 2147483647 := r8
  have v44 : zEq (η4 0 41) (η 0 41) := (k7.1.2.2.2.1 0 41 (by decide +kernel)).trans v35
  have c4_0_41 : η4 0 41 = η 0 41 := v44
  have v45 : zEq (η4 0 43) (η 0 43) := (k7.1.2.2.2.1 0 43 (by decide +kernel)).trans v36
  have c4_0_43 : η4 0 43 = η 0 43 := v45
  have v46 : zEq (η4 0 42) (η 0 42) := (k7.1.2.2.2.1 0 42 (by decide +kernel)).trans v37
  have c4_0_42 : η4 0 42 = η 0 42 := v46
  have v47 : zEq (η4 0 45) (η 0 45) := (k7.1.2.2.2.1 0 45 (by decide +kernel)).trans v38
  have c4_0_45 : η4 0 45 = η 0 45 := v47
  have v48 : zEq (η4 0 19) (η 0 19) := (k7.1.2.2.2.1 0 19 (by decide +kernel)).trans v39
  have c4_0_19 : η4 0 19 = η 0 19 := v48
  have w4_0_44 : (0 : Int) ≤ η4 0 44 ∧ η4 0 44 ≤ 64 := wf_ok (a := 44) (b := 44) (z := (0, 64)) k7.1.1 (by decide +kernel) (Nat.le_refl _) (Nat.le_refl _)
  have c4_0_44 : η4 0 44 = η4 0 44 := rfl
  have v50 : zEq (η4 0 7) (η 0 7) := (k7.1.2.2.2.1 0 7 (by decide +kernel)).trans v41
  have c4_0_7 : η4 0 7 = η 0 7 := v50
  have v51 : zEq (η4 0 6) (η 0 6) := (k7.1.2.2.2.1 0 6 (by decide +kernel)).trans v42
  have c4_0_6 : η4 0 6 = η 0 6 := v51
  have v52 : zEq (η4 0 8) (η 0 8) := (k7.1.2.2.2.1 0 8 (by decide +kernel)).trans v30
  have c4_0_8 : η4 0 8 = η 0 8 := v52
  have wb5 : wB wl_l zTr η5 := k9.1.1
  have bx9 : (0 : Int) ≤ x9 ∧ x9 ≤ 0 := k9.1.2.1
  have v53 : zEq (η5 0 45) (η 0 45) := (k9.1.2.2.2.1 0 45 (by decide +kernel)).trans v47
  have c5_0_45 : η5 0 45 = η 0 45 := v53
  have wb6 : wB wl_l zTr η6 := by rw [eη6]; exact wk_ok (a := 45) (b := 45) (z := ((-2147483648), 2147483647)) zTr_k (GR := []) wb5 (by decide +kernel) (by decide) (by decide) (show ((-2147483648) : Int) ≤ 0 by omega) (show 0 ≤ (2147483647 : Int) by omega)
  have fm1 : zFm zMl_leafRead η η1 := zFm_tr2 zFm_rf k1.1.2.2.2.1 (by decide +kernel)
  have fm2 : zFm zMl_leafRead η η2 := zFm_tr2 fm1 k2.1.2.2.2.1 (by decide +kernel)
  have fm3 : zFm zMl_leafRead η η3 := zFm_tr2 fm2 k4.1.2.2.2.1 (by decide +kernel)
  have fm4 : zFm zMl_leafRead η η4 := zFm_tr2 fm3 k7.1.2.2.2.1 (by decide +kernel)
  have fm5 : zFm zMl_leafRead η η5 := zFm_tr2 fm4 k9.1.2.2.2.1 (by decide +kernel)
  have fm6 : zFm zMl_leafRead η η6 := by rw [eη6]; exact zFm_up fm5 rfl
  have fmE : zFm zMl_leafRead η η6 := fm6
  have fr22_0 : ∀ j, η 22 j = η 22 j := fun _ => rfl
  have v54 : ∀ j, η1 22 j = η 22 j := fun j => k1.1.2.2.2.1 22 _ (zinr_not (by decide +kernel))
  have fr22_1 : ∀ j, η1 22 j = η 22 j := v54
  have v55 : ∀ j, η2 22 j = η 22 j := fun j => (k2.1.2.2.2.1 22 _ (zinr_not (by decide +kernel))).trans (v54 j)
  have fr22_2 : ∀ j, η2 22 j = η 22 j := v55
  have v56 : ∀ j, η3 22 j = η 22 j := fun j => (k4.1.2.2.2.1 22 _ (zinr_not (by decide +kernel))).trans (v55 j)
  have fr22_3 : ∀ j, η3 22 j = η 22 j := v56
  have v57 : ∀ j, η4 22 j = η 22 j := fun j => (k7.1.2.2.2.1 22 _ (zinr_not (by decide +kernel))).trans (v56 j)
  have fr22_4 : ∀ j, η4 22 j = η 22 j := v57
  have v58 : ∀ j, η5 22 j = η 22 j := fun j => (k9.1.2.2.2.1 22 _ (zinr_not (by decide +kernel))).trans (v57 j)
  have fr22_5 : ∀ j, η5 22 j = η 22 j := v58
  have v59 : ∀ j, η6 22 j = η 22 j := fun j => by rw [eη6]; exact (zup_ne (fun e _ => absurd e (by decide))).trans (v58 j)
  have fr22_6 : ∀ j, η6 22 j = η 22 j := v59
  have fr22 : ∀ j, η6 22 j = η 22 j := v59
  have v60 : zEq (η5 0 41) (η 0 41) := (k9.1.2.2.2.1 0 41 (by decide +kernel)).trans v44
  have v61 : zEq (η6 0 41) (η 0 41) := by rw [eη6]; exact (zup_ne (fun _ e => absurd e (by decide))).trans v60
  have f0_41 : η6 0 41 = η 0 41 := v61
  have v62 : zEq (η5 0 43) (η 0 43) := (k9.1.2.2.2.1 0 43 (by decide +kernel)).trans v45
  have v63 : zEq (η6 0 43) (η 0 43) := by rw [eη6]; exact (zup_ne (fun _ e => absurd e (by decide))).trans v62
  have f0_43 : η6 0 43 = η 0 43 := v63
  have v65 : zEq (η6 0 42) (η5 0 42) := by rw [eη6]; exact (zup_ne (fun _ e => absurd e (by decide))).trans rfl
  have f0_42 : η6 0 42 = η5 0 42 := v65
  have v66 : zEq (η6 0 45) (0) := by rw [eη6]; exact zup_eq
  have f0_45 : η6 0 45 = 0 := v66
  have w5_0_19 : (0 : Int) ≤ η5 0 19 ∧ η5 0 19 ≤ 64 := wf_ok (a := 19) (b := 19) (z := (0, 64)) k9.1.1 (by decide +kernel) (Nat.le_refl _) (Nat.le_refl _)
  have v68 : zEq (η6 0 19) (η5 0 19) := by rw [eη6]; exact (zup_ne (fun _ e => absurd e (by decide))).trans rfl
  have f0_19 : η6 0 19 = η5 0 19 := v68
  have v69 : zEq (η5 0 44) (η4 0 44) := (k9.1.2.2.2.1 0 44 (by decide +kernel)).trans rfl
  have v70 : zEq (η6 0 44) (η4 0 44) := by rw [eη6]; exact (zup_ne (fun _ e => absurd e (by decide))).trans v69
  have f0_44 : η6 0 44 = η4 0 44 := v70
  have v71 : zEq (η5 0 7) (η 0 7) := (k9.1.2.2.2.1 0 7 (by decide +kernel)).trans v50
  have v72 : zEq (η6 0 7) (η 0 7) := by rw [eη6]; exact (zup_ne (fun _ e => absurd e (by decide))).trans v71
  have f0_7 : η6 0 7 = η 0 7 := v72
  have v73 : zEq (η5 0 6) (η 0 6) := (k9.1.2.2.2.1 0 6 (by decide +kernel)).trans v51
  have v74 : zEq (η6 0 6) (η 0 6) := by rw [eη6]; exact (zup_ne (fun _ e => absurd e (by decide))).trans v73
  have f0_6 : η6 0 6 = η 0 6 := v74
  have v75 : zEq (η5 0 8) (η 0 8) := (k9.1.2.2.2.1 0 8 (by decide +kernel)).trans v52
  have v76 : zEq (η6 0 8) (η 0 8) := by rw [eη6]; exact (zup_ne (fun _ e => absurd e (by decide))).trans v75
  have f0_8 : η6 0 8 = η 0 8 := v76
  have wbE : wB wl_l zTr η6 := wb6
  
  have I0 : H_l 0 0 0 η := hpp.1
  have I1 : H_l 0 0 0 η1 := k1.2.1
  have I2 : H_l 0 0 0 η2 := k2.2.1
  have qk2 : η1 0 8 = 1 := k2.2.2 c2
  have I3 : H_l 0 0 0 η3 := k4.2.1
  have I4 : H_l 1 0 0 η4 := k7.2.1 c8
  have I5 : H_l 0 0 1 η5 := k9.2.1 I4
  have qg9 : η5 0 19 = η4 0 19 + 1 := k9.2.2.2
  have I6 : H_l 0 0 0 η6 := by rw [eη6]; exact h_eq (wn_up I5) rfl rfl (by omega)
  exact I6
set_option maxHeartbeats 8000000 in
theorem zl_leafRead_o26 {ro : Nat → List Int32} (η : zE) (hp : sP wl_l zTr zPl_leafRead [] η) (hpp : pPl_leafRead [] η) : ∀ (x1 : Int) (η1 : zE), ((gC2 wl_l [(nat_lit 0, zPl_isSign, zOl_isSign, zMl_isSign), (nat_lit 1, zPl_wrong, zOl_wrong, zMl_wrong), (nat_lit 2, zPl_waitsFor0, zOl_waitsFor0, zMl_waitsFor0), (nat_lit 3, zPl_token, zOl_token, zMl_token), (nat_lit 4, zPl_isKey, zOl_isKey, zMl_isKey), (nat_lit 5, zPl_isCounted, zOl_isCounted, zMl_isCounted), (nat_lit 6, zPl_waitsFor2, zOl_waitsFor2, zMl_waitsFor2), (nat_lit 7, zPl_nameMet, zOl_nameMet, zMl_nameMet), (nat_lit 8, zPl_grown, zOl_grown, zMl_grown)] pCl_leafRead qCl_leafRead) 0).2 [40] η x1 η1 → (x1 = 0) → ∀ (x2 : Int) (η2 : zE), ((gC2 wl_l [(nat_lit 0, zPl_isSign, zOl_isSign, zMl_isSign), (nat_lit 1, zPl_wrong, zOl_wrong, zMl_wrong), (nat_lit 2, zPl_waitsFor0, zOl_waitsFor0, zMl_waitsFor0), (nat_lit 3, zPl_token, zOl_token, zMl_token), (nat_lit 4, zPl_isKey, zOl_isKey, zMl_isKey), (nat_lit 5, zPl_isCounted, zOl_isCounted, zMl_isCounted), (nat_lit 6, zPl_waitsFor2, zOl_waitsFor2, zMl_waitsFor2), (nat_lit 7, zPl_nameMet, zOl_nameMet, zMl_nameMet), (nat_lit 8, zPl_grown, zOl_grown, zMl_grown)] pCl_leafRead qCl_leafRead) 4).2 [12] η1 x2 η2 → (¬ x2 = 0) → ∀ x3 : Int, x3 = η2 0 (Int.toNat 46) → zok 1 x3 → (x3 = 0) → ∀ (x4 : Int) (η3 : zE), ((gC2 wl_l [(nat_lit 0, zPl_isSign, zOl_isSign, zMl_isSign), (nat_lit 1, zPl_wrong, zOl_wrong, zMl_wrong), (nat_lit 2, zPl_waitsFor0, zOl_waitsFor0, zMl_waitsFor0), (nat_lit 3, zPl_token, zOl_token, zMl_token), (nat_lit 4, zPl_isKey, zOl_isKey, zMl_isKey), (nat_lit 5, zPl_isCounted, zOl_isCounted, zMl_isCounted), (nat_lit 6, zPl_waitsFor2, zOl_waitsFor2, zMl_waitsFor2), (nat_lit 7, zPl_nameMet, zOl_nameMet, zMl_nameMet), (nat_lit 8, zPl_grown, zOl_grown, zMl_grown)] pCl_leafRead qCl_leafRead) 7).2 [] η2 x4 η3 → (x4 < 0) → ∀ x5 : Int, x5 = η3 0 (Int.toNat 8) → zok 0 x5 → (x5 = 3) → (x4 < 0) → ∀ x6 : Int, x6 = η3 0 (Int.toNat 9) → zok 0 x6 → (x6 ≤ 9999) → ∀ (x7 : Int) (η4 : zE), ((gC2 wl_l [(nat_lit 0, zPl_isSign, zOl_isSign, zMl_isSign), (nat_lit 1, zPl_wrong, zOl_wrong, zMl_wrong), (nat_lit 2, zPl_waitsFor0, zOl_waitsFor0, zMl_waitsFor0), (nat_lit 3, zPl_token, zOl_token, zMl_token), (nat_lit 4, zPl_isKey, zOl_isKey, zMl_isKey), (nat_lit 5, zPl_isCounted, zOl_isCounted, zMl_isCounted), (nat_lit 6, zPl_waitsFor2, zOl_waitsFor2, zMl_waitsFor2), (nat_lit 7, zPl_nameMet, zOl_nameMet, zMl_nameMet), (nat_lit 8, zPl_grown, zOl_grown, zMl_grown)] pCl_leafRead qCl_leafRead) 5).2 [] η3 x7 η4 → (¬ x7 = 0) → (x4 < 0) → (x4 < 0) → ∀ x8 : Int, x8 = η4 0 (Int.toNat 9) → zok 0 x8 → ∀ (x9 : Int) (η5 : zE), ((gC2 wl_l [(nat_lit 0, zPl_isSign, zOl_isSign, zMl_isSign), (nat_lit 1, zPl_wrong, zOl_wrong, zMl_wrong), (nat_lit 2, zPl_waitsFor0, zOl_waitsFor0, zMl_waitsFor0), (nat_lit 3, zPl_token, zOl_token, zMl_token), (nat_lit 4, zPl_isKey, zOl_isKey, zMl_isKey), (nat_lit 5, zPl_isCounted, zOl_isCounted, zMl_isCounted), (nat_lit 6, zPl_waitsFor2, zOl_waitsFor2, zMl_waitsFor2), (nat_lit 7, zPl_nameMet, zOl_nameMet, zMl_nameMet), (nat_lit 8, zPl_grown, zOl_grown, zMl_grown)] pCl_leafRead qCl_leafRead) 8).2 [0, x8, 0] η4 x9 η5 → ∀ η6 : zE, η6 = zup η5 0 (Int.toNat 45) 0 → ∀ (x10 : Int) (η7 : zE), ((gC2 wl_l [(nat_lit 0, zPl_isSign, zOl_isSign, zMl_isSign), (nat_lit 1, zPl_wrong, zOl_wrong, zMl_wrong), (nat_lit 2, zPl_waitsFor0, zOl_waitsFor0, zMl_waitsFor0), (nat_lit 3, zPl_token, zOl_token, zMl_token), (nat_lit 4, zPl_isKey, zOl_isKey, zMl_isKey), (nat_lit 5, zPl_isCounted, zOl_isCounted, zMl_isCounted), (nat_lit 6, zPl_waitsFor2, zOl_waitsFor2, zMl_waitsFor2), (nat_lit 7, zPl_nameMet, zOl_nameMet, zMl_nameMet), (nat_lit 8, zPl_grown, zOl_grown, zMl_grown)] pCl_leafRead qCl_leafRead) 3).2 [] η6 x10 η7 → (fun (_ : Nat) (y : Int) (η' : zE) => pQl_leafRead [] η y η') 0 1 η7 := by
  have hw : η 0 45 = 1 := hpp.2
  have hs : η 0 7 ≤ η 0 6 := hpp.1.1.1.1
  have bd43 : (0 : Int) ≤ η 0 43 ∧ η 0 43 ≤ 8 := wf_ok (a := 43) (b := 43) (z := (0, 8)) hp.1 (by decide +kernel) (Nat.le_refl _) (Nat.le_refl _)
  have bd44 : (0 : Int) ≤ η 0 44 ∧ η 0 44 ≤ 64 := wf_ok (a := 44) (b := 44) (z := (0, 64)) hp.1 (by decide +kernel) (Nat.le_refl _) (Nat.le_refl _)
  have bd19 : (0 : Int) ≤ η 0 19 ∧ η 0 19 ≤ 64 := wf_ok (a := 19) (b := 19) (z := (0, 64)) hp.1 (by decide +kernel) (Nat.le_refl _) (Nat.le_refl _)
  intro x1 η1 h1 c1 x2 η2 h2 c2 x3 e3 r3 c3 x4 η3 h4 c4 x5 e5 r5 c5 c6 x6 e6 r6 c7 x7 η4 h7 c8 c9 c10 x8 e8 r8 x9 η5 h9 η6 eη6 x10 η7 h10
  have k1 : sQ wl_l zTr zOl_isSign zMl_isSign [40] η x1 η1 ∧ pQl_isSign [40] η x1 η1 := h1
  have k2 : sQ wl_l zTr zOl_isKey zMl_isKey [12] η1 x2 η2 ∧ pQl_isKey [12] η1 x2 η2 := h2
  have k4 : sQ wl_l zTr zOl_nameMet zMl_nameMet [] η2 x4 η3 ∧ pQl_nameMet [] η2 x4 η3 := h4
  have k7 : sQ wl_l zTr zOl_isCounted zMl_isCounted [] η3 x7 η4 ∧ pQl_isCounted [] η3 x7 η4 := h7
  have k9 : sQ wl_l zTr zOl_grown zMl_grown [0, x8, 0] η4 x9 η5 ∧ pQl_grown [0, x8, 0] η4 x9 η5 := h9
  have k10 : sQ wl_l zTr zOl_token zMl_token [] η6 x10 η7 ∧ pQl_token [] η6 x10 η7 := h10
  have c0_0_41 : η 0 41 = η 0 41 := rfl
  have w0_0_43 : (0 : Int) ≤ η 0 43 ∧ η 0 43 ≤ 8 := wf_ok (a := 43) (b := 43) (z := (0, 8)) hp.1 (by decide +kernel) (Nat.le_refl _) (Nat.le_refl _)
  have c0_0_43 : η 0 43 = η 0 43 := rfl
  have c0_0_42 : η 0 42 = η 0 42 := rfl
  have c0_0_45 : η 0 45 = η 0 45 := rfl
  have w0_0_19 : (0 : Int) ≤ η 0 19 ∧ η 0 19 ≤ 64 := wf_ok (a := 19) (b := 19) (z := (0, 64)) hp.1 (by decide +kernel) (Nat.le_refl _) (Nat.le_refl _)
  have c0_0_19 : η 0 19 = η 0 19 := rfl
  have w0_0_44 : (0 : Int) ≤ η 0 44 ∧ η 0 44 ≤ 64 := wf_ok (a := 44) (b := 44) (z := (0, 64)) hp.1 (by decide +kernel) (Nat.le_refl _) (Nat.le_refl _)
  have c0_0_44 : η 0 44 = η 0 44 := rfl
  have w0_0_7 : (0 : Int) ≤ η 0 7 ∧ η 0 7 ≤ 700 := wf_ok (a := 7) (b := 7) (z := (0, 700)) hp.1 (by decide +kernel) (Nat.le_refl _) (Nat.le_refl _)
  have c0_0_7 : η 0 7 = η 0 7 := rfl
  have w0_0_6 : (0 : Int) ≤ η 0 6 ∧ η 0 6 ≤ 700 := wf_ok (a := 6) (b := 6) (z := (0, 700)) hp.1 (by decide +kernel) (Nat.le_refl _) (Nat.le_refl _)
  have c0_0_6 : η 0 6 = η 0 6 := rfl
  have w0_0_8 : (0 : Int) ≤ η 0 8 ∧ η 0 8 ≤ 6 := wf_ok (a := 8) (b := 8) (z := (0, 6)) hp.1 (by decide +kernel) (Nat.le_refl _) (Nat.le_refl _)
  have c0_0_8 : η 0 8 = η 0 8 := rfl
  have wb1 : wB wl_l zTr η1 := k1.1.1
  have bx1 : (0 : Int) ≤ x1 ∧ x1 ≤ 1 := k1.1.2.1
  have v9 : zEq (η1 0 41) (η 0 41) := (k1.1.2.2.2.1 0 41 (by decide +kernel)).trans rfl
  have c1_0_41 : η1 0 41 = η 0 41 := v9
  have v10 : zEq (η1 0 43) (η 0 43) := (k1.1.2.2.2.1 0 43 (by decide +kernel)).trans rfl
  have c1_0_43 : η1 0 43 = η 0 43 := v10
  have v11 : zEq (η1 0 42) (η 0 42) := (k1.1.2.2.2.1 0 42 (by decide +kernel)).trans rfl
  have c1_0_42 : η1 0 42 = η 0 42 := v11
  have v12 : zEq (η1 0 45) (η 0 45) := (k1.1.2.2.2.1 0 45 (by decide +kernel)).trans rfl
  have c1_0_45 : η1 0 45 = η 0 45 := v12
  have v13 : zEq (η1 0 19) (η 0 19) := (k1.1.2.2.2.1 0 19 (by decide +kernel)).trans rfl
  have c1_0_19 : η1 0 19 = η 0 19 := v13
  have v14 : zEq (η1 0 44) (η 0 44) := (k1.1.2.2.2.1 0 44 (by decide +kernel)).trans rfl
  have c1_0_44 : η1 0 44 = η 0 44 := v14
  have v15 : zEq (η1 0 7) (η 0 7) := (k1.1.2.2.2.1 0 7 (by decide +kernel)).trans rfl
  have c1_0_7 : η1 0 7 = η 0 7 := v15
  have v16 : zEq (η1 0 6) (η 0 6) := (k1.1.2.2.2.1 0 6 (by decide +kernel)).trans rfl
  have c1_0_6 : η1 0 6 = η 0 6 := v16
  have v17 : zEq (η1 0 8) (η 0 8) := (k1.1.2.2.2.1 0 8 (by decide +kernel)).trans rfl
  have c1_0_8 : η1 0 8 = η 0 8 := v17
  have wb2 : wB wl_l zTr η2 := k2.1.1
  have bx2 : (0 : Int) ≤ x2 ∧ x2 ≤ 1 := k2.1.2.1
  have v19 : zEq (η1 0 46) (η 0 46) := (k1.1.2.2.2.1 0 46 (by decide +kernel)).trans rfl
  have v20 : zEq (η2 0 46) (η 0 46) := (k2.1.2.2.2.1 0 46 (by decide +kernel)).trans v19
  replace e3 : x3 = η 0 46 := e3.trans v20
  replace r3 : 0 ≤ x3 ∧ x3 ≤ 1 := r3
  have v21 : zEq (η2 0 41) (η 0 41) := (k2.1.2.2.2.1 0 41 (by decide +kernel)).trans v9
  have c2_0_41 : η2 0 41 = η 0 41 := v21
  have v22 : zEq (η2 0 43) (η 0 43) := (k2.1.2.2.2.1 0 43 (by decide +kernel)).trans v10
  have c2_0_43 : η2 0 43 = η 0 43 := v22
  have v23 : zEq (η2 0 42) (η 0 42) := (k2.1.2.2.2.1 0 42 (by decide +kernel)).trans v11
  have c2_0_42 : η2 0 42 = η 0 42 := v23
  have v24 : zEq (η2 0 45) (η 0 45) := (k2.1.2.2.2.1 0 45 (by decide +kernel)).trans v12
  have c2_0_45 : η2 0 45 = η 0 45 := v24
  have v25 : zEq (η2 0 19) (η 0 19) := (k2.1.2.2.2.1 0 19 (by decide +kernel)).trans v13
  have c2_0_19 : η2 0 19 = η 0 19 := v25
  have v26 : zEq (η2 0 44) (η 0 44) := (k2.1.2.2.2.1 0 44 (by decide +kernel)).trans v14
  have c2_0_44 : η2 0 44 = η 0 44 := v26
  have v27 : zEq (η2 0 7) (η 0 7) := (k2.1.2.2.2.1 0 7 (by decide +kernel)).trans v15
  have c2_0_7 : η2 0 7 = η 0 7 := v27
  have v28 : zEq (η2 0 6) (η 0 6) := (k2.1.2.2.2.1 0 6 (by decide +kernel)).trans v16
  have c2_0_6 : η2 0 6 = η 0 6 := v28
  have v29 : zEq (η2 0 8) (η 0 8) := (k2.1.2.2.2.1 0 8 (by decide +kernel)).trans v17
  have c2_0_8 : η2 0 8 = η 0 8 := v29
  have wb3 : wB wl_l zTr η3 := k4.1.1
  have bx4 : ((-1) : Int) ≤ x4 ∧ x4 ≤ 6 := k4.1.2.1
  have v30 : zEq (η3 0 8) (η 0 8) := (k4.1.2.2.2.1 0 8 (by decide +kernel)).trans v29
  replace e5 : x5 = η 0 8 := e5.trans v30
  replace r5 : -2147483648 ≤ x5 ∧ x5 ≤ 2147483647 := r5
  have v32 : zEq (η1 0 9) (η 0 9) := (k1.1.2.2.2.1 0 9 (by decide +kernel)).trans rfl
  have v33 : zEq (η2 0 9) (η 0 9) := (k2.1.2.2.2.1 0 9 (by decide +kernel)).trans v32
  have v34 : zEq (η3 0 9) (η 0 9) := (k4.1.2.2.2.1 0 9 (by decide +kernel)).trans v33
  replace e6 : x6 = η 0 9 := e6.trans v34
  replace r6 : -2147483648 ≤ x6 ∧ x6 ≤ 2147483647 := r6
  have v35 : zEq (η3 0 41) (η 0 41) := (k4.1.2.2.2.1 0 41 (by decide +kernel)).trans v21
  have c3_0_41 : η3 0 41 = η 0 41 := v35
  have v36 : zEq (η3 0 43) (η 0 43) := (k4.1.2.2.2.1 0 43 (by decide +kernel)).trans v22
  have c3_0_43 : η3 0 43 = η 0 43 := v36
  have v37 : zEq (η3 0 42) (η 0 42) := (k4.1.2.2.2.1 0 42 (by decide +kernel)).trans v23
  have c3_0_42 : η3 0 42 = η 0 42 := v37
  have v38 : zEq (η3 0 45) (η 0 45) := (k4.1.2.2.2.1 0 45 (by decide +kernel)).trans v24
  have c3_0_45 : η3 0 45 = η 0 45 := v38
  have v39 : zEq (η3 0 19) (η 0 19) := (k4.1.2.2.2.1 0 19 (by decide +kernel)).trans v25
  have c3_0_19 : η3 0 19 = η 0 19 := v39
  have v40 : zEq (η3 0 44) (η 0 44) := (k4.1.2.2.2.1 0 44 (by decide +kernel)).trans v26
  have c3_0_44 : η3 0 44 = η 0 44 := v40
  have v41 : zEq (η3 0 7) (η 0 7) := (k4.1.2.2.2.1 0 7 (by decide +kernel)).trans v27
  have c3_0_7 : η3 0 7 = η 0 7 := v41
  have v42 : zEq (η3 0 6) (η 0 6) := (k4.1.2.2.2.1 0 6 (by decide +kernel)).trans v28
  have c3_0_6 : η3 0 6 = η 0 6 := v42
  have c3_0_8 : η3 0 8 = η 0 8 := v30
  have wb4 : wB wl_l zTr η4 := k7.1.1
  have bx7 : (0 : Int) ≤ x7 ∧ x7 ≤ 1 := k7.1.2.1
  have v43 : zEq (η4 0 9) (η 0 9) := (k7.1.2.2.2.1 0 9 (by decide +kernel)).trans v34
  replace e8 : x8 = η 0 9 := e8.trans v43
  replace r8 : -2147483648 ≤ x8 ∧ x8 ≤ 2147483647 := r8
  have v44 : zEq (η4 0 41) (η 0 41) := (k7.1.2.2.2.1 0 41 (by decide +kernel)).trans v35
  have c4_0_41 : η4 0 41 = η 0 41 := v44
  have v45 : zEq (η4 0 43) (η 0 43) := (k7.1.2.2.2.1 0 43 (by decide +kernel)).trans v36
  have c4_0_43 : η4 0 43 = η 0 43 := v45
  have v46 : zEq (η4 0 42) (η 0 42) := (k7.1.2.2.2.1 0 42 (by decide +kernel)).trans v37
  have c4_0_42 : η4 0 42 = η 0 42 := v46
  have v47 : zEq (η4 0 45) (η 0 45) := (k7.1.2.2.2.1 0 45 (by decide +kernel)).trans v38
  have c4_0_45 : η4 0 45 = η 0 45 := v47
  have v48 : zEq (η4 0 19) (η 0 19) := (k7.1.2.2.2.1 0 19 (by decide +kernel)).trans v39
  have c4_0_19 : η4 0 19 = η 0 19 := v48
  have w4_0_44 : (0 : Int) ≤ η4 0 44 ∧ η4 0 44 ≤ 64 := wf_ok (a := 44) (b := 44) (z := (0, 64)) k7.1.1 (by decide +kernel) (Nat.le_refl _) (Nat.le_refl _)
  have c4_0_44 : η4 0 44 = η4 0 44 := rfl
  have v50 : zEq (η4 0 7) (η 0 7) := (k7.1.2.2.2.1 0 7 (by decide +kernel)).trans v41
  have c4_0_7 : η4 0 7 = η 0 7 := v50
  have v51 : zEq (η4 0 6) (η 0 6) := (k7.1.2.2.2.1 0 6 (by decide +kernel)).trans v42
  have c4_0_6 : η4 0 6 = η 0 6 := v51
  have v52 : zEq (η4 0 8) (η 0 8) := (k7.1.2.2.2.1 0 8 (by decide +kernel)).trans v30
  have c4_0_8 : η4 0 8 = η 0 8 := v52
  have wb5 : wB wl_l zTr η5 := k9.1.1
  have bx9 : (0 : Int) ≤ x9 ∧ x9 ≤ 0 := k9.1.2.1
  have v53 : zEq (η5 0 45) (η 0 45) := (k9.1.2.2.2.1 0 45 (by decide +kernel)).trans v47
  have c5_0_45 : η5 0 45 = η 0 45 := v53
  have wb6 : wB wl_l zTr η6 := by rw [eη6]; exact wk_ok (a := 45) (b := 45) (z := ((-2147483648), 2147483647)) zTr_k (GR := []) wb5 (by decide +kernel) (by decide) (by decide) (show ((-2147483648) : Int) ≤ 0 by omega) (show 0 ≤ (2147483647 : Int) by omega)
  have v54 : zEq (η5 0 41) (η 0 41) := (k9.1.2.2.2.1 0 41 (by decide +kernel)).trans v44
  have v55 : zEq (η6 0 41) (η 0 41) := by rw [eη6]; exact (zup_ne (fun _ e => absurd e (by decide))).trans v54
  have c6_0_41 : η6 0 41 = η 0 41 := v55
  have v56 : zEq (η5 0 43) (η 0 43) := (k9.1.2.2.2.1 0 43 (by decide +kernel)).trans v45
  have v57 : zEq (η6 0 43) (η 0 43) := by rw [eη6]; exact (zup_ne (fun _ e => absurd e (by decide))).trans v56
  have c6_0_43 : η6 0 43 = η 0 43 := v57
  have v59 : zEq (η6 0 42) (η5 0 42) := by rw [eη6]; exact (zup_ne (fun _ e => absurd e (by decide))).trans rfl
  have c6_0_42 : η6 0 42 = η5 0 42 := v59
  have v60 : zEq (η6 0 45) (0) := by rw [eη6]; exact zup_eq
  have c6_0_45 : η6 0 45 = 0 := v60
  have w5_0_19 : (0 : Int) ≤ η5 0 19 ∧ η5 0 19 ≤ 64 := wf_ok (a := 19) (b := 19) (z := (0, 64)) k9.1.1 (by decide +kernel) (Nat.le_refl _) (Nat.le_refl _)
  have v62 : zEq (η6 0 19) (η5 0 19) := by rw [eη6]; exact (zup_ne (fun _ e => absurd e (by decide))).trans rfl
  have c6_0_19 : η6 0 19 = η5 0 19 := v62
  have v63 : zEq (η5 0 44) (η4 0 44) := (k9.1.2.2.2.1 0 44 (by decide +kernel)).trans rfl
  have v64 : zEq (η6 0 44) (η4 0 44) := by rw [eη6]; exact (zup_ne (fun _ e => absurd e (by decide))).trans v63
  have c6_0_44 : η6 0 44 = η4 0 44 := v64
  have v65 : zEq (η5 0 7) (η 0 7) := (k9.1.2.2.2.1 0 7 (by decide +kernel)).trans v50
  have v66 : zEq (η6 0 7) (η 0 7) := by rw [eη6]; exact (zup_ne (fun _ e => absurd e (by decide))).trans v65
  have c6_0_7 : η6 0 7 = η 0 7 := v66
  have v67 : zEq (η5 0 6) (η 0 6) := (k9.1.2.2.2.1 0 6 (by decide +kernel)).trans v51
  have v68 : zEq (η6 0 6) (η 0 6) := by rw [eη6]; exact (zup_ne (fun _ e => absurd e (by decide))).trans v67
  have c6_0_6 : η6 0 6 = η 0 6 := v68
  have v69 : zEq (η5 0 8) (η 0 8) := (k9.1.2.2.2.1 0 8 (by decide +kernel)).trans v52
  have v70 : zEq (η6 0 8) (η 0 8) := by rw [eη6]; exact (zup_ne (fun _ e => absurd e (by decide))).trans v69
  have c6_0_8 : η6 0 8 = η 0 8 := v70
  have wb7 : wB wl_l zTr η7 := k10.1.1
  have bx10 : (0 : Int) ≤ x10 ∧ x10 ≤ 0 := k10.1.2.1
  have fm1 : zFm zMl_leafRead η η1 := zFm_tr2 zFm_rf k1.1.2.2.2.1 (by decide +kernel)
  have fm2 : zFm zMl_leafRead η η2 := zFm_tr2 fm1 k2.1.2.2.2.1 (by decide +kernel)
  have fm3 : zFm zMl_leafRead η η3 := zFm_tr2 fm2 k4.1.2.2.2.1 (by decide +kernel)
  have fm4 : zFm zMl_leafRead η η4 := zFm_tr2 fm3 k7.1.2.2.2.1 (by decide +kernel)
  have fm5 : zFm zMl_leafRead η η5 := zFm_tr2 fm4 k9.1.2.2.2.1 (by decide +kernel)
  have fm6 : zFm zMl_leafRead η η6 := by rw [eη6]; exact zFm_up fm5 rfl
  have fm7 : zFm zMl_leafRead η η7 := zFm_tr2 fm6 k10.1.2.2.2.1 (by decide +kernel)
  have fmE : zFm zMl_leafRead η η7 := fm7
  have fr22_0 : ∀ j, η 22 j = η 22 j := fun _ => rfl
  have v71 : ∀ j, η1 22 j = η 22 j := fun j => k1.1.2.2.2.1 22 _ (zinr_not (by decide +kernel))
  have fr22_1 : ∀ j, η1 22 j = η 22 j := v71
  have v72 : ∀ j, η2 22 j = η 22 j := fun j => (k2.1.2.2.2.1 22 _ (zinr_not (by decide +kernel))).trans (v71 j)
  have fr22_2 : ∀ j, η2 22 j = η 22 j := v72
  have v73 : ∀ j, η3 22 j = η 22 j := fun j => (k4.1.2.2.2.1 22 _ (zinr_not (by decide +kernel))).trans (v72 j)
  have fr22_3 : ∀ j, η3 22 j = η 22 j := v73
  have v74 : ∀ j, η4 22 j = η 22 j := fun j => (k7.1.2.2.2.1 22 _ (zinr_not (by decide +kernel))).trans (v73 j)
  have fr22_4 : ∀ j, η4 22 j = η 22 j := v74
  have v75 : ∀ j, η5 22 j = η 22 j := fun j => (k9.1.2.2.2.1 22 _ (zinr_not (by decide +kernel))).trans (v74 j)
  have fr22_5 : ∀ j, η5 22 j = η 22 j := v75
  have v76 : ∀ j, η6 22 j = η 22 j := fun j => by rw [eη6]; exact (zup_ne (fun e _ => absurd e (by decide))).trans (v75 j)
  have fr22_6 : ∀ j, η6 22 j = η 22 j := v76
  have v77 : ∀ j, η7 22 j = η 22 j := fun j => (k10.1.2.2.2.1 22 _ (zinr_not (by decide +kernel))).trans (v76 j)
  have fr22_7 : ∀ j, η7 22 j = η 22 j := v77
  have fr22 : ∀ j, η7 22 j = η 22 j := v77
  have v78 : zEq (η7 0 41) (η 0 41) := (k10.1.2.2.2.1 0 41 (by decide +kernel)).trans v55
  have f0_41 : η7 0 41 = η 0 41 := v78
  have v79 : zEq (η7 0 43) (η 0 43) := (k10.1.2.2.2.1 0 43 (by decide +kernel)).trans v57
  have f0_43 : η7 0 43 = η 0 43 := v79
  have v80 : zEq (η7 0 42) (η5 0 42) := (k10.1.2.2.2.1 0 42 (by decide +kernel)).trans v59
  have f0_42 : η7 0 42 = η5 0 42 := v80
  have v81 : zEq (η7 0 45) (0) := (k10.1.2.2.2.1 0 45 (by decide +kernel)).trans v60
  have f0_45 : η7 0 45 = 0 := v81
  have v82 : zEq (η7 0 19) (η5 0 19) := (k10.1.2.2.2.1 0 19 (by decide +kernel)).trans v62
  have f0_19 : η7 0 19 = η5 0 19 := v82
  have v83 : zEq (η7 0 44) (η4 0 44) := (k10.1.2.2.2.1 0 44 (by decide +kernel)).trans v64
  have f0_44 : η7 0 44 = η4 0 44 := v83
  have w7_0_7 : (0 : Int) ≤ η7 0 7 ∧ η7 0 7 ≤ 700 := wf_ok (a := 7) (b := 7) (z := (0, 700)) k10.1.1 (by decide +kernel) (Nat.le_refl _) (Nat.le_refl _)
  have f0_7 : η7 0 7 = η7 0 7 := rfl
  have v85 : zEq (η7 0 6) (η 0 6) := (k10.1.2.2.2.1 0 6 (by decide +kernel)).trans v68
  have f0_6 : η7 0 6 = η 0 6 := v85
  have w7_0_8 : (0 : Int) ≤ η7 0 8 ∧ η7 0 8 ≤ 6 := wf_ok (a := 8) (b := 8) (z := (0, 6)) k10.1.1 (by decide +kernel) (Nat.le_refl _) (Nat.le_refl _)
  have f0_8 : η7 0 8 = η7 0 8 := rfl
  have wbE : wB wl_l zTr η7 := wb7
  
  have I0 : H_l 0 0 0 η := hpp.1
  have I1 : H_l 0 0 0 η1 := k1.2.1
  have I2 : H_l 0 0 0 η2 := k2.2.1
  have qk2 : η1 0 8 = 1 := k2.2.2 c2
  have I3 : H_l 0 0 0 η3 := k4.2.1
  have I4 : H_l 1 0 0 η4 := k7.2.1 c8
  have I5 : H_l 0 0 1 η5 := k9.2.1 I4
  have qg9 : η5 0 19 = η4 0 19 + 1 := k9.2.2.2
  have I6 : H_l 0 0 0 η6 := by rw [eη6]; exact h_eq (wn_up I5) rfl rfl (by omega)
  have I7 : H_l 0 0 0 η7 := k10.2.1
  have qt10 : ¬ η6 0 8 = 0 → 10 * (η7 0 6 - η7 0 7) + η7 0 8 < 10 * (η6 0 6 - η6 0 7) + η6 0 8 := k10.2.2
  refine ⟨I7.1, fun _ => ⟨I7, show 10 * (η7 0 6 - η7 0 7) + η7 0 8 < 10 * (η 0 6 - η 0 7) + η 0 8 by omega, fun w => ?_⟩⟩
  have w : η7 0 45 = 0 := w
  omega
set_option maxHeartbeats 8000000 in
theorem zl_leafRead_o27 {ro : Nat → List Int32} (η : zE) (hp : sP wl_l zTr zPl_leafRead [] η) (hpp : pPl_leafRead [] η) : ∀ (x1 : Int) (η1 : zE), ((gC2 wl_l [(nat_lit 0, zPl_isSign, zOl_isSign, zMl_isSign), (nat_lit 1, zPl_wrong, zOl_wrong, zMl_wrong), (nat_lit 2, zPl_waitsFor0, zOl_waitsFor0, zMl_waitsFor0), (nat_lit 3, zPl_token, zOl_token, zMl_token), (nat_lit 4, zPl_isKey, zOl_isKey, zMl_isKey), (nat_lit 5, zPl_isCounted, zOl_isCounted, zMl_isCounted), (nat_lit 6, zPl_waitsFor2, zOl_waitsFor2, zMl_waitsFor2), (nat_lit 7, zPl_nameMet, zOl_nameMet, zMl_nameMet), (nat_lit 8, zPl_grown, zOl_grown, zMl_grown)] pCl_leafRead qCl_leafRead) 0).2 [40] η x1 η1 → (x1 = 0) → ∀ (x2 : Int) (η2 : zE), ((gC2 wl_l [(nat_lit 0, zPl_isSign, zOl_isSign, zMl_isSign), (nat_lit 1, zPl_wrong, zOl_wrong, zMl_wrong), (nat_lit 2, zPl_waitsFor0, zOl_waitsFor0, zMl_waitsFor0), (nat_lit 3, zPl_token, zOl_token, zMl_token), (nat_lit 4, zPl_isKey, zOl_isKey, zMl_isKey), (nat_lit 5, zPl_isCounted, zOl_isCounted, zMl_isCounted), (nat_lit 6, zPl_waitsFor2, zOl_waitsFor2, zMl_waitsFor2), (nat_lit 7, zPl_nameMet, zOl_nameMet, zMl_nameMet), (nat_lit 8, zPl_grown, zOl_grown, zMl_grown)] pCl_leafRead qCl_leafRead) 4).2 [12] η1 x2 η2 → (¬ x2 = 0) → ∀ x3 : Int, x3 = η2 0 (Int.toNat 46) → zok 1 x3 → (x3 = 0) → ∀ (x4 : Int) (η3 : zE), ((gC2 wl_l [(nat_lit 0, zPl_isSign, zOl_isSign, zMl_isSign), (nat_lit 1, zPl_wrong, zOl_wrong, zMl_wrong), (nat_lit 2, zPl_waitsFor0, zOl_waitsFor0, zMl_waitsFor0), (nat_lit 3, zPl_token, zOl_token, zMl_token), (nat_lit 4, zPl_isKey, zOl_isKey, zMl_isKey), (nat_lit 5, zPl_isCounted, zOl_isCounted, zMl_isCounted), (nat_lit 6, zPl_waitsFor2, zOl_waitsFor2, zMl_waitsFor2), (nat_lit 7, zPl_nameMet, zOl_nameMet, zMl_nameMet), (nat_lit 8, zPl_grown, zOl_grown, zMl_grown)] pCl_leafRead qCl_leafRead) 7).2 [] η2 x4 η3 → (x4 < 0) → ∀ x5 : Int, x5 = η3 0 (Int.toNat 8) → zok 0 x5 → (x5 = 3) → (x4 < 0) → ∀ x6 : Int, x6 = η3 0 (Int.toNat 9) → zok 0 x6 → (x6 ≤ 9999) → ∀ (x7 : Int) (η4 : zE), ((gC2 wl_l [(nat_lit 0, zPl_isSign, zOl_isSign, zMl_isSign), (nat_lit 1, zPl_wrong, zOl_wrong, zMl_wrong), (nat_lit 2, zPl_waitsFor0, zOl_waitsFor0, zMl_waitsFor0), (nat_lit 3, zPl_token, zOl_token, zMl_token), (nat_lit 4, zPl_isKey, zOl_isKey, zMl_isKey), (nat_lit 5, zPl_isCounted, zOl_isCounted, zMl_isCounted), (nat_lit 6, zPl_waitsFor2, zOl_waitsFor2, zMl_waitsFor2), (nat_lit 7, zPl_nameMet, zOl_nameMet, zMl_nameMet), (nat_lit 8, zPl_grown, zOl_grown, zMl_grown)] pCl_leafRead qCl_leafRead) 5).2 [] η3 x7 η4 → (x7 = 0) → (fun (_ : Nat) (y : Int) (η' : zE) => pQl_leafRead [] η y η') 0 0 η4 := by
  have hw : η 0 45 = 1 := hpp.2
  have hs : η 0 7 ≤ η 0 6 := hpp.1.1.1.1
  have bd43 : (0 : Int) ≤ η 0 43 ∧ η 0 43 ≤ 8 := wf_ok (a := 43) (b := 43) (z := (0, 8)) hp.1 (by decide +kernel) (Nat.le_refl _) (Nat.le_refl _)
  have bd44 : (0 : Int) ≤ η 0 44 ∧ η 0 44 ≤ 64 := wf_ok (a := 44) (b := 44) (z := (0, 64)) hp.1 (by decide +kernel) (Nat.le_refl _) (Nat.le_refl _)
  have bd19 : (0 : Int) ≤ η 0 19 ∧ η 0 19 ≤ 64 := wf_ok (a := 19) (b := 19) (z := (0, 64)) hp.1 (by decide +kernel) (Nat.le_refl _) (Nat.le_refl _)
  intro x1 η1 h1 c1 x2 η2 h2 c2 x3 e3 r3 c3 x4 η3 h4 c4 x5 e5 r5 c5 c6 x6 e6 r6 c7 x7 η4 h7 c8
  have k1 : sQ wl_l zTr zOl_isSign zMl_isSign [40] η x1 η1 ∧ pQl_isSign [40] η x1 η1 := h1
  have k2 : sQ wl_l zTr zOl_isKey zMl_isKey [12] η1 x2 η2 ∧ pQl_isKey [12] η1 x2 η2 := h2
  have k4 : sQ wl_l zTr zOl_nameMet zMl_nameMet [] η2 x4 η3 ∧ pQl_nameMet [] η2 x4 η3 := h4
  have k7 : sQ wl_l zTr zOl_isCounted zMl_isCounted [] η3 x7 η4 ∧ pQl_isCounted [] η3 x7 η4 := h7
  have c0_0_41 : η 0 41 = η 0 41 := rfl
  have w0_0_43 : (0 : Int) ≤ η 0 43 ∧ η 0 43 ≤ 8 := wf_ok (a := 43) (b := 43) (z := (0, 8)) hp.1 (by decide +kernel) (Nat.le_refl _) (Nat.le_refl _)
  have c0_0_43 : η 0 43 = η 0 43 := rfl
  have c0_0_42 : η 0 42 = η 0 42 := rfl
  have c0_0_45 : η 0 45 = η 0 45 := rfl
  have w0_0_19 : (0 : Int) ≤ η 0 19 ∧ η 0 19 ≤ 64 := wf_ok (a := 19) (b := 19) (z := (0, 64)) hp.1 (by decide +kernel) (Nat.le_refl _) (Nat.le_refl _)
  have c0_0_19 : η 0 19 = η 0 19 := rfl
  have w0_0_44 : (0 : Int) ≤ η 0 44 ∧ η 0 44 ≤ 64 := wf_ok (a := 44) (b := 44) (z := (0, 64)) hp.1 (by decide +kernel) (Nat.le_refl _) (Nat.le_refl _)
  have c0_0_44 : η 0 44 = η 0 44 := rfl
  have w0_0_7 : (0 : Int) ≤ η 0 7 ∧ η 0 7 ≤ 700 := wf_ok (a := 7) (b := 7) (z := (0, 700)) hp.1 (by decide +kernel) (Nat.le_refl _) (Nat.le_refl _)
  have c0_0_7 : η 0 7 = η 0 7 := rfl
  have w0_0_6 : (0 : Int) ≤ η 0 6 ∧ η 0 6 ≤ 700 := wf_ok (a := 6) (b := 6) (z := (0, 700)) hp.1 (by decide +kernel) (Nat.le_refl _) (Nat.le_refl _)
  have c0_0_6 : η 0 6 = η 0 6 := rfl
  have w0_0_8 : (0 : Int) ≤ η 0 8 ∧ η 0 8 ≤ 6 := wf_ok (a := 8) (b := 8) (z := (0, 6)) hp.1 (by decide +kernel) (Nat.le_refl _) (Nat.le_refl _)
  have c0_0_8 : η 0 8 = η 0 8 := rfl
  have wb1 : wB wl_l zTr η1 := k1.1.1
  have bx1 : (0 : Int) ≤ x1 ∧ x1 ≤ 1 := k1.1.2.1
  have v9 : zEq (η1 0 41) (η 0 41) := (k1.1.2.2.2.1 0 41 (by decide +kernel)).trans rfl
  have c1_0_41 : η1 0 41 = η 0 41 := v9
  have v10 : zEq (η1 0 43) (η 0 43) := (k1.1.2.2.2.1 0 43 (by decide +kernel)).trans rfl
  have c1_0_43 : η1 0 43 = η 0 43 := v10
  have v11 : zEq (η1 0 42) (η 0 42) := (k1.1.2.2.2.1 0 42 (by decide +kernel)).trans rfl
  have c1_0_42 : η1 0 42 = η 0 42 := v11
  have v12 : zEq (η1 0 45) (η 0 45) := (k1.1.2.2.2.1 0 45 (by decide +kernel)).trans rfl
  have c1_0_45 : η1 0 45 = η 0 45 := v12
  have v13 : zEq (η1 0 19) (η 0 19) := (k1.1.2.2.2.1 0 19 (by decide +kernel)).trans rfl
  have c1_0_19 : η1 0 19 = η 0 19 := v13
  have v14 : zEq (η1 0 44) (η 0 44) := (k1.1.2.2.2.1 0 44 (by decide +kernel)).trans rfl
  have c1_0_44 : η1 0 44 = η 0 44 := v14
  have v15 : zEq (η1 0 7) (η 0 7) := (k1.1.2.2.2.1 0 7 (by decide +kernel)).trans rfl
  have c1_0_7 : η1 0 7 = η 0 7 := v15
  have v16 : zEq (η1 0 6) (η 0 6) := (k1.1.2.2.2.1 0 6 (by decide +kernel)).trans rfl
  have c1_0_6 : η1 0 6 = η 0 6 := v16
  have v17 : zEq (η1 0 8) (η 0 8) := (k1.1.2.2.2.1 0 8 (by decide +kernel)).trans rfl
  have c1_0_8 : η1 0 8 = η 0 8 := v17
  have wb2 : wB wl_l zTr η2 := k2.1.1
  have bx2 : (0 : Int) ≤ x2 ∧ x2 ≤ 1 := k2.1.2.1
  have v19 : zEq (η1 0 46) (η 0 46) := (k1.1.2.2.2.1 0 46 (by decide +kernel)).trans rfl
  have v20 : zEq (η2 0 46) (η 0 46) := (k2.1.2.2.2.1 0 46 (by decide +kernel)).trans v19
  replace e3 : x3 = η 0 46 := e3.trans v20
  replace r3 : 0 ≤ x3 ∧ x3 ≤ 1 := r3
  have v21 : zEq (η2 0 41) (η 0 41) := (k2.1.2.2.2.1 0 41 (by decide +kernel)).trans v9
  have c2_0_41 : η2 0 41 = η 0 41 := v21
  have v22 : zEq (η2 0 43) (η 0 43) := (k2.1.2.2.2.1 0 43 (by decide +kernel)).trans v10
  have c2_0_43 : η2 0 43 = η 0 43 := v22
  have v23 : zEq (η2 0 42) (η 0 42) := (k2.1.2.2.2.1 0 42 (by decide +kernel)).trans v11
  have c2_0_42 : η2 0 42 = η 0 42 := v23
  have v24 : zEq (η2 0 45) (η 0 45) := (k2.1.2.2.2.1 0 45 (by decide +kernel)).trans v12
  have c2_0_45 : η2 0 45 = η 0 45 := v24
  have v25 : zEq (η2 0 19) (η 0 19) := (k2.1.2.2.2.1 0 19 (by decide +kernel)).trans v13
  have c2_0_19 : η2 0 19 = η 0 19 := v25
  have v26 : zEq (η2 0 44) (η 0 44) := (k2.1.2.2.2.1 0 44 (by decide +kernel)).trans v14
  have c2_0_44 : η2 0 44 = η 0 44 := v26
  have v27 : zEq (η2 0 7) (η 0 7) := (k2.1.2.2.2.1 0 7 (by decide +kernel)).trans v15
  have c2_0_7 : η2 0 7 = η 0 7 := v27
  have v28 : zEq (η2 0 6) (η 0 6) := (k2.1.2.2.2.1 0 6 (by decide +kernel)).trans v16
  have c2_0_6 : η2 0 6 = η 0 6 := v28
  have v29 : zEq (η2 0 8) (η 0 8) := (k2.1.2.2.2.1 0 8 (by decide +kernel)).trans v17
  have c2_0_8 : η2 0 8 = η 0 8 := v29
  have wb3 : wB wl_l zTr η3 := k4.1.1
  have bx4 : ((-1) : Int) ≤ x4 ∧ x4 ≤ 6 := k4.1.2.1
  have v30 : zEq (η3 0 8) (η 0 8) := (k4.1.2.2.2.1 0 8 (by decide +kernel)).trans v29
  replace e5 : x5 = η 0 8 := e5.trans v30
  replace r5 : -2147483648 ≤ x5 ∧ x5 ≤ 2147483647 := r5
  have v32 : zEq (η1 0 9) (η 0 9) := (k1.1.2.2.2.1 0 9 (by decide +kernel)).trans rfl
  have v33 : zEq (η2 0 9) (η 0 9) := (k2.1.2.2.2.1 0 9 (by decide +kernel)).trans v32
  have v34 : zEq (η3 0 9) (η 0 9) := (k4.1.2.2.2.1 0 9 (by decide +kernel)).trans v33
  replace e6 : x6 = η 0 9 := e6.trans v34
  replace r6 : -2147483648 ≤ x6 ∧ x6 ≤ 2147483647 := r6
  have v35 : zEq (η3 0 41) (η 0 41) := (k4.1.2.2.2.1 0 41 (by decide +kernel)).trans v21
  have c3_0_41 : η3 0 41 = η 0 41 := v35
  have v36 : zEq (η3 0 43) (η 0 43) := (k4.1.2.2.2.1 0 43 (by decide +kernel)).trans v22
  have c3_0_43 : η3 0 43 = η 0 43 := v36
  have v37 : zEq (η3 0 42) (η 0 42) := (k4.1.2.2.2.1 0 42 (by decide +kernel)).trans v23
  have c3_0_42 : η3 0 42 = η 0 42 := v37
  have v38 : zEq (η3 0 45) (η 0 45) := (k4.1.2.2.2.1 0 45 (by decide +kernel)).trans v24
  have c3_0_45 : η3 0 45 = η 0 45 := v38
  have v39 : zEq (η3 0 19) (η 0 19) := (k4.1.2.2.2.1 0 19 (by decide +kernel)).trans v25
  have c3_0_19 : η3 0 19 = η 0 19 := v39
  have v40 : zEq (η3 0 44) (η 0 44) := (k4.1.2.2.2.1 0 44 (by decide +kernel)).trans v26
  have c3_0_44 : η3 0 44 = η 0 44 := v40
  have v41 : zEq (η3 0 7) (η 0 7) := (k4.1.2.2.2.1 0 7 (by decide +kernel)).trans v27
  have c3_0_7 : η3 0 7 = η 0 7 := v41
  have v42 : zEq (η3 0 6) (η 0 6) := (k4.1.2.2.2.1 0 6 (by decide +kernel)).trans v28
  have c3_0_6 : η3 0 6 = η 0 6 := v42
  have c3_0_8 : η3 0 8 = η 0 8 := v30
  have wb4 : wB wl_l zTr η4 := k7.1.1
  have bx7 : (0 : Int) ≤ x7 ∧ x7 ≤ 1 := k7.1.2.1
  have fm1 : zFm zMl_leafRead η η1 := zFm_tr2 zFm_rf k1.1.2.2.2.1 (by decide +kernel)
  have fm2 : zFm zMl_leafRead η η2 := zFm_tr2 fm1 k2.1.2.2.2.1 (by decide +kernel)
  have fm3 : zFm zMl_leafRead η η3 := zFm_tr2 fm2 k4.1.2.2.2.1 (by decide +kernel)
  have fm4 : zFm zMl_leafRead η η4 := zFm_tr2 fm3 k7.1.2.2.2.1 (by decide +kernel)
  have fmE : zFm zMl_leafRead η η4 := fm4
  have fr22_0 : ∀ j, η 22 j = η 22 j := fun _ => rfl
  have v43 : ∀ j, η1 22 j = η 22 j := fun j => k1.1.2.2.2.1 22 _ (zinr_not (by decide +kernel))
  have fr22_1 : ∀ j, η1 22 j = η 22 j := v43
  have v44 : ∀ j, η2 22 j = η 22 j := fun j => (k2.1.2.2.2.1 22 _ (zinr_not (by decide +kernel))).trans (v43 j)
  have fr22_2 : ∀ j, η2 22 j = η 22 j := v44
  have v45 : ∀ j, η3 22 j = η 22 j := fun j => (k4.1.2.2.2.1 22 _ (zinr_not (by decide +kernel))).trans (v44 j)
  have fr22_3 : ∀ j, η3 22 j = η 22 j := v45
  have v46 : ∀ j, η4 22 j = η 22 j := fun j => (k7.1.2.2.2.1 22 _ (zinr_not (by decide +kernel))).trans (v45 j)
  have fr22_4 : ∀ j, η4 22 j = η 22 j := v46
  have fr22 : ∀ j, η4 22 j = η 22 j := v46
  have v47 : zEq (η4 0 41) (η 0 41) := (k7.1.2.2.2.1 0 41 (by decide +kernel)).trans v35
  have f0_41 : η4 0 41 = η 0 41 := v47
  have v48 : zEq (η4 0 43) (η 0 43) := (k7.1.2.2.2.1 0 43 (by decide +kernel)).trans v36
  have f0_43 : η4 0 43 = η 0 43 := v48
  have v49 : zEq (η4 0 42) (η 0 42) := (k7.1.2.2.2.1 0 42 (by decide +kernel)).trans v37
  have f0_42 : η4 0 42 = η 0 42 := v49
  have v50 : zEq (η4 0 45) (η 0 45) := (k7.1.2.2.2.1 0 45 (by decide +kernel)).trans v38
  have f0_45 : η4 0 45 = η 0 45 := v50
  have v51 : zEq (η4 0 19) (η 0 19) := (k7.1.2.2.2.1 0 19 (by decide +kernel)).trans v39
  have f0_19 : η4 0 19 = η 0 19 := v51
  have w4_0_44 : (0 : Int) ≤ η4 0 44 ∧ η4 0 44 ≤ 64 := wf_ok (a := 44) (b := 44) (z := (0, 64)) k7.1.1 (by decide +kernel) (Nat.le_refl _) (Nat.le_refl _)
  have f0_44 : η4 0 44 = η4 0 44 := rfl
  have v53 : zEq (η4 0 7) (η 0 7) := (k7.1.2.2.2.1 0 7 (by decide +kernel)).trans v41
  have f0_7 : η4 0 7 = η 0 7 := v53
  have v54 : zEq (η4 0 6) (η 0 6) := (k7.1.2.2.2.1 0 6 (by decide +kernel)).trans v42
  have f0_6 : η4 0 6 = η 0 6 := v54
  have v55 : zEq (η4 0 8) (η 0 8) := (k7.1.2.2.2.1 0 8 (by decide +kernel)).trans v30
  have f0_8 : η4 0 8 = η 0 8 := v55
  have wbE : wB wl_l zTr η4 := wb4
  
  have I0 : H_l 0 0 0 η := hpp.1
  have I1 : H_l 0 0 0 η1 := k1.2.1
  have I2 : H_l 0 0 0 η2 := k2.2.1
  have qk2 : η1 0 8 = 1 := k2.2.2 c2
  have I3 : H_l 0 0 0 η3 := k4.2.1
  have I4 : H_l 0 0 0 η4 := k7.2.2 c8
  exact ⟨I4.1, fun w => absurd (show (0 : Int) = 0 by omega) w⟩
