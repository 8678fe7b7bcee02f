set_option maxHeartbeats 8000000 in
theorem zl_leafRead_o27 {ro : Nat → List Int32} (η : zE) (hp : sP wl_l zTr zPl_leafRead [] η) (hpp : pPl_leafRead [] η) : ∀ (x1 : Int) (η1 : zE), ((gC2 wl_l [(nat_lit 0, zPl_isSign, zOl_isSign, zMl_isSign), (nat_lit 1, zPl_wrong, zOl_wrong, zMl_wrong), (nat_lit 2, zPl_waitsFor0, zOl_waitsFor0, zMl_waitsFor0), (nat_lit 3, zPl_token, zOl_token, zMl_token), (nat_lit 4, zPl_isKey, zOl_isKey, zMl_isKey), (nat_lit 5, zPl_isCounted, zOl_isCounted, zMl_isCounted), (nat_lit 6, zPl_waitsFor2, zOl_waitsFor2, zMl_waitsFor2), (nat_lit 7, zPl_nameMet, zOl_nameMet, zMl_nameMet), (nat_lit 8, zPl_grown, zOl_grown, zMl_grown)] pCl_leafRead qCl_leafRead) 0).2 [40] η x1 η1 → (x1 = 0) → ∀ (x2 : Int) (η2 : zE), ((gC2 wl_l [(nat_lit 0, zPl_isSign, zOl_isSign, zMl_isSign), (nat_lit 1, zPl_wrong, zOl_wrong, zMl_wrong), (nat_lit 2, zPl_waitsFor0, zOl_waitsFor0, zMl_waitsFor0), (nat_lit 3, zPl_token, zOl_token, zMl_token), (nat_lit 4, zPl_isKey, zOl_isKey, zMl_isKey), (nat_lit 5, zPl_isCounted, zOl_isCounted, zMl_isCounted), (nat_lit 6, zPl_waitsFor2, zOl_waitsFor2, zMl_waitsFor2), (nat_lit 7, zPl_nameMet, zOl_nameMet, zMl_nameMet), (nat_lit 8, zPl_grown, zOl_grown, zMl_grown)] pCl_leafRead qCl_leafRead) 4).2 [12] η1 x2 η2 → (¬ x2 = 0) → ∀ x3 : Int, x3 = η2 0 (Int.toNat 46) → zok 1 x3 → (x3 = 0) → ∀ (x4 : Int) (η3 : zE), ((gC2 wl_l [(nat_lit 0, zPl_isSign, zOl_isSign, zMl_isSign), (nat_lit 1, zPl_wrong, zOl_wrong, zMl_wrong), (nat_lit 2, zPl_waitsFor0, zOl_waitsFor0, zMl_waitsFor0), (nat_lit 3, zPl_token, zOl_token, zMl_token), (nat_lit 4, zPl_isKey, zOl_isKey, zMl_isKey), (nat_lit 5, zPl_isCounted, zOl_isCounted, zMl_isCounted), (nat_lit 6, zPl_waitsFor2, zOl_waitsFor2, zMl_waitsFor2), (nat_lit 7, zPl_nameMet, zOl_nameMet, zMl_nameMet), (nat_lit 8, zPl_grown, zOl_grown, zMl_grown)] pCl_leafRead qCl_leafRead) 7).2 [] η2 x4 η3 → (x4 < 0) → ∀ x5 : Int, x5 = η3 0 (Int.toNat 8) → zok 0 x5 → (x5 = 3) → (x4 < 0) → ∀ x6 : Int, x6 = η3 0 (Int.toNat 9) → zok 0 x6 → (x6 ≤ 9999) → ∀ (x7 : Int) (η4 : zE), ((gC2 wl_l [(nat_lit 0, zPl_isSign, zOl_isSign, zMl_isSign), (nat_lit 1, zPl_wrong, zOl_wrong, zMl_wrong), (nat_lit 2, zPl_waitsFor0, zOl_waitsFor0, zMl_waitsFor0), (nat_lit 3, zPl_token, zOl_token, zMl_token), (nat_lit 4, zPl_isKey, zOl_isKey, zMl_isKey), (nat_lit 5, zPl_isCounted, zOl_isCounted, zMl_isCounted), (nat_lit 6, zPl_waitsFor2, zOl_waitsFor2, zMl_waitsFor2), (nat_lit 7, zPl_nameMet, zOl_nameMet, zMl_nameMet), (nat_lit 8, zPl_grown, zOl_grown, zMl_grown)] pCl_leafRead qCl_leafRead) 5).2 [] η3 x7 η4 → (x7 = 0) → (fun (_ : Nat) (y : Int) (η' : zE) => pQl_leafRead [] η y η') 0 0 η4 := by
  have hw : η 0 45 = 1 := hpp.2
  have hs : η 0 7 ≤ η 0 6 := hpp.1.1.1.1
  have bd43 : (0 : Int) ≤ η 0 43 ∧ η 0 43 ≤ 8 := wf_ok (a := 43) (b := 43) (z := (0, 8)) hp.1 (by decide +kernel) (Nat.le_refl _) (Nat.le_refl _)
  have bd44 : (0 : Int) ≤ η 0 44 ∧ η 0 44 ≤ 64 := wf_ok (a := 44) (b := 44) (z := (0, 64)) hp.1 (by decide +kernel) (Nat.le_refl _) (Nat.le_refl _)
  have bd19 : (0 : Int) ≤ η 0 19 ∧ η 0 19 ≤ 64 := wf_ok (a := 19) (b := 19) (z := (0, 64)) hp.1 (by decide +kernel) (Nat.le_refl _) (Nat.le_refl _)
  intro x1 η1 h1 c1 x2 η2 h2 c2 x3 e3 r3 c3 x4 η3 h4 c4 x5 e5 r5 c5 c6 x6 e6 r6 c7 x7 η4 h7 c8
  have k1 : sQ wl_l zTr zOl_isSign zMl_isSign [40] η x1 η1 ∧ pQl_isSign [40] η x1 η1 := h1
  have k2 : sQ wl_l zTr zOl_isKey zMl_isKey [12] η1 x2 η2 ∧ pQl_isKey [12] η1 x2 η2 := h2
  have k4 : sQ wl_l zTr zOl_nameMet zMl_nameMet [] η2 x4 η3 ∧ pQl_nameMet [] η2 x4 η3 := h4
  have k7 : sQ wl_l zTr zOl_isCounted zMl_isCounted [] η3 x7 η4 ∧ pQl_isCounted [] η3 x7 η4 := h7
  have w0_0_8 : (0 : Int) ≤ η 0 8 ∧ η 0 8 ≤ 6 := wf_ok (a := 8) (b := 8) (z := (0, 6)) hp.1 (by decide +kernel) (Nat.le_refl _) (Nat.le_refl _)
  have c0_0_8 : η 0 8 = η 0 8 := rfl
  have wb1 : wB wl_l zTr η1 := k1.1.1
  have bx1 : (0 : Int) ≤ x1 ∧ x1 ≤ 1 := k1.1.2.1
  have v1 : zEq (η1 0 8) (η 0 8) := (k1.1.2.2.2.1 0 8 (by decide +kernel)).trans rfl
  have c1_0_8 : η1 0 8 = η 0 8 := v1
  have wb2 : wB wl_l zTr η2 := k2.1.1
  have bx2 : (0 : Int) ≤ x2 ∧ x2 ≤ 1 := k2.1.2.1
  have v3 : zEq (η1 0 46) (η 0 46) := (k1.1.2.2.2.1 0 46 (by decide +kernel)).trans rfl
  have v4 : zEq (η2 0 46) (η 0 46) := (k2.1.2.2.2.1 0 46 (by decide +kernel)).trans v3
  replace e3 : x3 = η 0 46 := e3.trans v4
  replace r3 : 0 ≤ x3 ∧ x3 ≤ 1 := r3
  have v5 : zEq (η2 0 8) (η 0 8) := (k2.1.2.2.2.1 0 8 (by decide +kernel)).trans v1
  have c2_0_8 : η2 0 8 = η 0 8 := v5
  have wb3 : wB wl_l zTr η3 := k4.1.1
  have bx4 : ((-1) : Int) ≤ x4 ∧ x4 ≤ 6 := k4.1.2.1
  have v6 : zEq (η3 0 8) (η 0 8) := (k4.1.2.2.2.1 0 8 (by decide +kernel)).trans v5
  replace e5 : x5 = η 0 8 := e5.trans v6
  have v8 : zEq (η1 0 9) (η 0 9) := (k1.1.2.2.2.1 0 9 (by decide +kernel)).trans rfl
  have v9 : zEq (η2 0 9) (η 0 9) := (k2.1.2.2.2.1 0 9 (by decide +kernel)).trans v8
  have v10 : zEq (η3 0 9) (η 0 9) := (k4.1.2.2.2.1 0 9 (by decide +kernel)).trans v9
  replace e6 : x6 = η 0 9 := e6.trans v10
  replace r6 : -2147483648 ≤ x6 ∧ x6 ≤ 2147483647 := r6
  have c3_0_8 : η3 0 8 = η 0 8 := v6
  have wb4 : wB wl_l zTr η4 := k7.1.1
  have bx7 : (0 : Int) ≤ x7 ∧ x7 ≤ 1 := k7.1.2.1
  have fm1 : zFm zMl_leafRead η η1 := zFm_tr2 zFm_rf k1.1.2.2.2.1 (by decide +kernel)
  have fm2 : zFm zMl_leafRead η η2 := zFm_tr2 fm1 k2.1.2.2.2.1 (by decide +kernel)
  have fm3 : zFm zMl_leafRead η η3 := zFm_tr2 fm2 k4.1.2.2.2.1 (by decide +kernel)
  have fm4 : zFm zMl_leafRead η η4 := zFm_tr2 fm3 k7.1.2.2.2.1 (by decide +kernel)
  have fmE : zFm zMl_leafRead η η4 := fm4
  have fr22_0 : ∀ j, η 22 j = η 22 j := fun _ => rfl
  have v11 : ∀ j, η1 22 j = η 22 j := fun j => k1.1.2.2.2.1 22 _ (zinr_not (by decide +kernel))
  have fr22_1 : ∀ j, η1 22 j = η 22 j := v11
  have v12 : ∀ j, η2 22 j = η 22 j := fun j => (k2.1.2.2.2.1 22 _ (zinr_not (by decide +kernel))).trans (v11 j)
  have fr22_2 : ∀ j, η2 22 j = η 22 j := v12
  have v13 : ∀ j, η3 22 j = η 22 j := fun j => (k4.1.2.2.2.1 22 _ (zinr_not (by decide +kernel))).trans (v12 j)
  have fr22_3 : ∀ j, η3 22 j = η 22 j := v13
  have v14 : ∀ j, η4 22 j = η 22 j := fun j => (k7.1.2.2.2.1 22 _ (zinr_not (by decide +kernel))).trans (v13 j)
  have fr22_4 : ∀ j, η4 22 j = η 22 j := v14
  have fr22 : ∀ j, η4 22 j = η 22 j := v14
  have v16 : zEq (η1 0 41) (η 0 41) := (k1.1.2.2.2.1 0 41 (by decide +kernel)).trans rfl
  have v17 : zEq (η2 0 41) (η 0 41) := (k2.1.2.2.2.1 0 41 (by decide +kernel)).trans v16
  have v18 : zEq (η3 0 41) (η 0 41) := (k4.1.2.2.2.1 0 41 (by decide +kernel)).trans v17
  have v19 : zEq (η4 0 41) (η 0 41) := (k7.1.2.2.2.1 0 41 (by decide +kernel)).trans v18
  have f0_41 : η4 0 41 = η 0 41 := v19
  have w0_0_43 : (0 : Int) ≤ η 0 43 ∧ η 0 43 ≤ 8 := wf_ok (a := 43) (b := 43) (z := (0, 8)) hp.1 (by decide +kernel) (Nat.le_refl _) (Nat.le_refl _)
  have v21 : zEq (η1 0 43) (η 0 43) := (k1.1.2.2.2.1 0 43 (by decide +kernel)).trans rfl
  have v22 : zEq (η2 0 43) (η 0 43) := (k2.1.2.2.2.1 0 43 (by decide +kernel)).trans v21
  have v23 : zEq (η3 0 43) (η 0 43) := (k4.1.2.2.2.1 0 43 (by decide +kernel)).trans v22
  have v24 : zEq (η4 0 43) (η 0 43) := (k7.1.2.2.2.1 0 43 (by decide +kernel)).trans v23
  have f0_43 : η4 0 43 = η 0 43 := v24
  have v26 : zEq (η1 0 42) (η 0 42) := (k1.1.2.2.2.1 0 42 (by decide +kernel)).trans rfl
  have v27 : zEq (η2 0 42) (η 0 42) := (k2.1.2.2.2.1 0 42 (by decide +kernel)).trans v26
  have v28 : zEq (η3 0 42) (η 0 42) := (k4.1.2.2.2.1 0 42 (by decide +kernel)).trans v27
  have v29 : zEq (η4 0 42) (η 0 42) := (k7.1.2.2.2.1 0 42 (by decide +kernel)).trans v28
  have f0_42 : η4 0 42 = η 0 42 := v29
  have v31 : zEq (η1 0 45) (η 0 45) := (k1.1.2.2.2.1 0 45 (by decide +kernel)).trans rfl
  have v32 : zEq (η2 0 45) (η 0 45) := (k2.1.2.2.2.1 0 45 (by decide +kernel)).trans v31
  have v33 : zEq (η3 0 45) (η 0 45) := (k4.1.2.2.2.1 0 45 (by decide +kernel)).trans v32
  have v34 : zEq (η4 0 45) (η 0 45) := (k7.1.2.2.2.1 0 45 (by decide +kernel)).trans v33
  have f0_45 : η4 0 45 = η 0 45 := v34
  have w0_0_19 : (0 : Int) ≤ η 0 19 ∧ η 0 19 ≤ 64 := wf_ok (a := 19) (b := 19) (z := (0, 64)) hp.1 (by decide +kernel) (Nat.le_refl _) (Nat.le_refl _)
  have v36 : zEq (η1 0 19) (η 0 19) := (k1.1.2.2.2.1 0 19 (by decide +kernel)).trans rfl
  have v37 : zEq (η2 0 19) (η 0 19) := (k2.1.2.2.2.1 0 19 (by decide +kernel)).trans v36
  have v38 : zEq (η3 0 19) (η 0 19) := (k4.1.2.2.2.1 0 19 (by decide +kernel)).trans v37
  have v39 : zEq (η4 0 19) (η 0 19) := (k7.1.2.2.2.1 0 19 (by decide +kernel)).trans v38
  have f0_19 : η4 0 19 = η 0 19 := v39
  have w4_0_44 : (0 : Int) ≤ η4 0 44 ∧ η4 0 44 ≤ 64 := wf_ok (a := 44) (b := 44) (z := (0, 64)) k7.1.1 (by decide +kernel) (Nat.le_refl _) (Nat.le_refl _)
  have f0_44 : η4 0 44 = η4 0 44 := rfl
  have w0_0_7 : (0 : Int) ≤ η 0 7 ∧ η 0 7 ≤ 700 := wf_ok (a := 7) (b := 7) (z := (0, 700)) hp.1 (by decide +kernel) (Nat.le_refl _) (Nat.le_refl _)
  have v42 : zEq (η1 0 7) (η 0 7) := (k1.1.2.2.2.1 0 7 (by decide +kernel)).trans rfl
  have v43 : zEq (η2 0 7) (η 0 7) := (k2.1.2.2.2.1 0 7 (by decide +kernel)).trans v42
  have v44 : zEq (η3 0 7) (η 0 7) := (k4.1.2.2.2.1 0 7 (by decide +kernel)).trans v43
  have v45 : zEq (η4 0 7) (η 0 7) := (k7.1.2.2.2.1 0 7 (by decide +kernel)).trans v44
  have f0_7 : η4 0 7 = η 0 7 := v45
  have w0_0_6 : (0 : Int) ≤ η 0 6 ∧ η 0 6 ≤ 700 := wf_ok (a := 6) (b := 6) (z := (0, 700)) hp.1 (by decide +kernel) (Nat.le_refl _) (Nat.le_refl _)
  have v47 : zEq (η1 0 6) (η 0 6) := (k1.1.2.2.2.1 0 6 (by decide +kernel)).trans rfl
  have v48 : zEq (η2 0 6) (η 0 6) := (k2.1.2.2.2.1 0 6 (by decide +kernel)).trans v47
  have v49 : zEq (η3 0 6) (η 0 6) := (k4.1.2.2.2.1 0 6 (by decide +kernel)).trans v48
  have v50 : zEq (η4 0 6) (η 0 6) := (k7.1.2.2.2.1 0 6 (by decide +kernel)).trans v49
  have f0_6 : η4 0 6 = η 0 6 := v50
  have v51 : zEq (η4 0 8) (η 0 8) := (k7.1.2.2.2.1 0 8 (by decide +kernel)).trans v6
  have f0_8 : η4 0 8 = η 0 8 := v51
  have wbE : wB wl_l zTr η4 := wb4
  
  have I0 : H_l 0 0 0 η := hpp.1
  have I1 : H_l 0 0 0 η1 := k1.2.1
  have I2 : H_l 0 0 0 η2 := k2.2.1
  have qk2 : η1 0 8 = 1 := k2.2.2 c2
  have I3 : H_l 0 0 0 η3 := k4.2.1
  have I4 : H_l 0 0 0 η4 := k7.2.2 c8
  exact ⟨I4.1, fun w => absurd (show (0 : Int) = 0 by apply Int.le_antisymm <;> omega) w⟩
set_option maxHeartbeats 8000000 in
theorem zl_leafRead_o28 {ro : Nat → List Int32} (η : zE) (hp : sP wl_l zTr zPl_leafRead [] η) (hpp : pPl_leafRead [] η) : ∀ (x1 : Int) (η1 : zE), ((gC2 wl_l [(nat_lit 0, zPl_isSign, zOl_isSign, zMl_isSign), (nat_lit 1, zPl_wrong, zOl_wrong, zMl_wrong), (nat_lit 2, zPl_waitsFor0, zOl_waitsFor0, zMl_waitsFor0), (nat_lit 3, zPl_token, zOl_token, zMl_token), (nat_lit 4, zPl_isKey, zOl_isKey, zMl_isKey), (nat_lit 5, zPl_isCounted, zOl_isCounted, zMl_isCounted), (nat_lit 6, zPl_waitsFor2, zOl_waitsFor2, zMl_waitsFor2), (nat_lit 7, zPl_nameMet, zOl_nameMet, zMl_nameMet), (nat_lit 8, zPl_grown, zOl_grown, zMl_grown)] pCl_leafRead qCl_leafRead) 0).2 [40] η x1 η1 → (x1 = 0) → ∀ (x2 : Int) (η2 : zE), ((gC2 wl_l [(nat_lit 0, zPl_isSign, zOl_isSign, zMl_isSign), (nat_lit 1, zPl_wrong, zOl_wrong, zMl_wrong), (nat_lit 2, zPl_waitsFor0, zOl_waitsFor0, zMl_waitsFor0), (nat_lit 3, zPl_token, zOl_token, zMl_token), (nat_lit 4, zPl_isKey, zOl_isKey, zMl_isKey), (nat_lit 5, zPl_isCounted, zOl_isCounted, zMl_isCounted), (nat_lit 6, zPl_waitsFor2, zOl_waitsFor2, zMl_waitsFor2), (nat_lit 7, zPl_nameMet, zOl_nameMet, zMl_nameMet), (nat_lit 8, zPl_grown, zOl_grown, zMl_grown)] pCl_leafRead qCl_leafRead) 4).2 [12] η1 x2 η2 → (¬ x2 = 0) → ∀ x3 : Int, x3 = η2 0 (Int.toNat 46) → zok 1 x3 → (x3 = 0) → ∀ (x4 : Int) (η3 : zE), ((gC2 wl_l [(nat_lit 0, zPl_isSign, zOl_isSign, zMl_isSign), (nat_lit 1, zPl_wrong, zOl_wrong, zMl_wrong), (nat_lit 2, zPl_waitsFor0, zOl_waitsFor0, zMl_waitsFor0), (nat_lit 3, zPl_token, zOl_token, zMl_token), (nat_lit 4, zPl_isKey, zOl_isKey, zMl_isKey), (nat_lit 5, zPl_isCounted, zOl_isCounted, zMl_isCounted), (nat_lit 6, zPl_waitsFor2, zOl_waitsFor2, zMl_waitsFor2), (nat_lit 7, zPl_nameMet, zOl_nameMet, zMl_nameMet), (nat_lit 8, zPl_grown, zOl_grown, zMl_grown)] pCl_leafRead qCl_leafRead) 7).2 [] η2 x4 η3 → (x4 < 0) → ∀ x5 : Int, x5 = η3 0 (Int.toNat 8) → zok 0 x5 → (x5 = 3) → (x4 < 0) → ∀ x6 : Int, x6 = η3 0 (Int.toNat 9) → zok 0 x6 → (9999 < x6) → ((gC2 wl_l [(nat_lit 0, zPl_isSign, zOl_isSign, zMl_isSign), (nat_lit 1, zPl_wrong, zOl_wrong, zMl_wrong), (nat_lit 2, zPl_waitsFor0, zOl_waitsFor0, zMl_waitsFor0), (nat_lit 3, zPl_token, zOl_token, zMl_token), (nat_lit 4, zPl_isKey, zOl_isKey, zMl_isKey), (nat_lit 5, zPl_isCounted, zOl_isCounted, zMl_isCounted), (nat_lit 6, zPl_waitsFor2, zOl_waitsFor2, zMl_waitsFor2), (nat_lit 7, zPl_nameMet, zOl_nameMet, zMl_nameMet), (nat_lit 8, zPl_grown, zOl_grown, zMl_grown)] pCl_leafRead qCl_leafRead) 1).1 [2] η3 := by
  have hw : η 0 45 = 1 := hpp.2
  have hs : η 0 7 ≤ η 0 6 := hpp.1.1.1.1
  have bd43 : (0 : Int) ≤ η 0 43 ∧ η 0 43 ≤ 8 := wf_ok (a := 43) (b := 43) (z := (0, 8)) hp.1 (by decide +kernel) (Nat.le_refl _) (Nat.le_refl _)
  have bd44 : (0 : Int) ≤ η 0 44 ∧ η 0 44 ≤ 64 := wf_ok (a := 44) (b := 44) (z := (0, 64)) hp.1 (by decide +kernel) (Nat.le_refl _) (Nat.le_refl _)
  have bd19 : (0 : Int) ≤ η 0 19 ∧ η 0 19 ≤ 64 := wf_ok (a := 19) (b := 19) (z := (0, 64)) hp.1 (by decide +kernel) (Nat.le_refl _) (Nat.le_refl _)
  intro x1 η1 h1 c1 x2 η2 h2 c2 x3 e3 r3 c3 x4 η3 h4 c4 x5 e5 r5 c5 c6 x6 e6 r6 c7
  have k1 : sQ wl_l zTr zOl_isSign zMl_isSign [40] η x1 η1 ∧ pQl_isSign [40] η x1 η1 := h1
  have k2 : sQ wl_l zTr zOl_isKey zMl_isKey [12] η1 x2 η2 ∧ pQl_isKey [12] η1 x2 η2 := h2
  have k4 : sQ wl_l zTr zOl_nameMet zMl_nameMet [] η2 x4 η3 ∧ pQl_nameMet [] η2 x4 η3 := h4
  have w0_0_8 : (0 : Int) ≤ η 0 8 ∧ η 0 8 ≤ 6 := wf_ok (a := 8) (b := 8) (z := (0, 6)) hp.1 (by decide +kernel) (Nat.le_refl _) (Nat.le_refl _)
  have c0_0_8 : η 0 8 = η 0 8 := rfl
  have wb1 : wB wl_l zTr η1 := k1.1.1
  have bx1 : (0 : Int) ≤ x1 ∧ x1 ≤ 1 := k1.1.2.1
  have v1 : zEq (η1 0 8) (η 0 8) := (k1.1.2.2.2.1 0 8 (by decide +kernel)).trans rfl
  have c1_0_8 : η1 0 8 = η 0 8 := v1
  have wb2 : wB wl_l zTr η2 := k2.1.1
  have bx2 : (0 : Int) ≤ x2 ∧ x2 ≤ 1 := k2.1.2.1
  have v3 : zEq (η1 0 46) (η 0 46) := (k1.1.2.2.2.1 0 46 (by decide +kernel)).trans rfl
  have v4 : zEq (η2 0 46) (η 0 46) := (k2.1.2.2.2.1 0 46 (by decide +kernel)).trans v3
  replace e3 : x3 = η 0 46 := e3.trans v4
  replace r3 : 0 ≤ x3 ∧ x3 ≤ 1 := r3
  have v5 : zEq (η2 0 8) (η 0 8) := (k2.1.2.2.2.1 0 8 (by decide +kernel)).trans v1
  have c2_0_8 : η2 0 8 = η 0 8 := v5
  have wb3 : wB wl_l zTr η3 := k4.1.1
  have bx4 : ((-1) : Int) ≤ x4 ∧ x4 ≤ 6 := k4.1.2.1
  have v6 : zEq (η3 0 8) (η 0 8) := (k4.1.2.2.2.1 0 8 (by decide +kernel)).trans v5
  replace e5 : x5 = η 0 8 := e5.trans v6
  have v8 : zEq (η1 0 9) (η 0 9) := (k1.1.2.2.2.1 0 9 (by decide +kernel)).trans rfl
  have v9 : zEq (η2 0 9) (η 0 9) := (k2.1.2.2.2.1 0 9 (by decide +kernel)).trans v8
  have v10 : zEq (η3 0 9) (η 0 9) := (k4.1.2.2.2.1 0 9 (by decide +kernel)).trans v9
  replace e6 : x6 = η 0 9 := e6.trans v10
  replace r6 : -2147483648 ≤ x6 ∧ x6 ≤ 2147483647 := r6
  have fm1 : zFm zMl_leafRead η η1 := zFm_tr2 zFm_rf k1.1.2.2.2.1 (by decide +kernel)
  have fm2 : zFm zMl_leafRead η η2 := zFm_tr2 fm1 k2.1.2.2.2.1 (by decide +kernel)
  have fm3 : zFm zMl_leafRead η η3 := zFm_tr2 fm2 k4.1.2.2.2.1 (by decide +kernel)
  have fmE : zFm zMl_leafRead η η3 := fm3
  have fr22_0 : ∀ j, η 22 j = η 22 j := fun _ => rfl
  have v11 : ∀ j, η1 22 j = η 22 j := fun j => k1.1.2.2.2.1 22 _ (zinr_not (by decide +kernel))
  have fr22_1 : ∀ j, η1 22 j = η 22 j := v11
  have v12 : ∀ j, η2 22 j = η 22 j := fun j => (k2.1.2.2.2.1 22 _ (zinr_not (by decide +kernel))).trans (v11 j)
  have fr22_2 : ∀ j, η2 22 j = η 22 j := v12
  have v13 : ∀ j, η3 22 j = η 22 j := fun j => (k4.1.2.2.2.1 22 _ (zinr_not (by decide +kernel))).trans (v12 j)
  have fr22_3 : ∀ j, η3 22 j = η 22 j := v13
  have fr22 : ∀ j, η3 22 j = η 22 j := v13
  have v15 : zEq (η1 0 41) (η 0 41) := (k1.1.2.2.2.1 0 41 (by decide +kernel)).trans rfl
  have v16 : zEq (η2 0 41) (η 0 41) := (k2.1.2.2.2.1 0 41 (by decide +kernel)).trans v15
  have v17 : zEq (η3 0 41) (η 0 41) := (k4.1.2.2.2.1 0 41 (by decide +kernel)).trans v16
  have f0_41 : η3 0 41 = η 0 41 := v17
  have w0_0_43 : (0 : Int) ≤ η 0 43 ∧ η 0 43 ≤ 8 := wf_ok (a := 43) (b := 43) (z := (0, 8)) hp.1 (by decide +kernel) (Nat.le_refl _) (Nat.le_refl _)
  have v19 : zEq (η1 0 43) (η 0 43) := (k1.1.2.2.2.1 0 43 (by decide +kernel)).trans rfl
  have v20 : zEq (η2 0 43) (η 0 43) := (k2.1.2.2.2.1 0 43 (by decide +kernel)).trans v19
  have v21 : zEq (η3 0 43) (η 0 43) := (k4.1.2.2.2.1 0 43 (by decide +kernel)).trans v20
  have f0_43 : η3 0 43 = η 0 43 := v21
  have v23 : zEq (η1 0 42) (η 0 42) := (k1.1.2.2.2.1 0 42 (by decide +kernel)).trans rfl
  have v24 : zEq (η2 0 42) (η 0 42) := (k2.1.2.2.2.1 0 42 (by decide +kernel)).trans v23
  have v25 : zEq (η3 0 42) (η 0 42) := (k4.1.2.2.2.1 0 42 (by decide +kernel)).trans v24
  have f0_42 : η3 0 42 = η 0 42 := v25
  have v27 : zEq (η1 0 45) (η 0 45) := (k1.1.2.2.2.1 0 45 (by decide +kernel)).trans rfl
  have v28 : zEq (η2 0 45) (η 0 45) := (k2.1.2.2.2.1 0 45 (by decide +kernel)).trans v27
  have v29 : zEq (η3 0 45) (η 0 45) := (k4.1.2.2.2.1 0 45 (by decide +kernel)).trans v28
  have f0_45 : η3 0 45 = η 0 45 := v29
  have w0_0_19 : (0 : Int) ≤ η 0 19 ∧ η 0 19 ≤ 64 := wf_ok (a := 19) (b := 19) (z := (0, 64)) hp.1 (by decide +kernel) (Nat.le_refl _) (Nat.le_refl _)
  have v31 : zEq (η1 0 19) (η 0 19) := (k1.1.2.2.2.1 0 19 (by decide +kernel)).trans rfl
  have v32 : zEq (η2 0 19) (η 0 19) := (k2.1.2.2.2.1 0 19 (by decide +kernel)).trans v31
  have v33 : zEq (η3 0 19) (η 0 19) := (k4.1.2.2.2.1 0 19 (by decide +kernel)).trans v32
  have f0_19 : η3 0 19 = η 0 19 := v33
  have w0_0_44 : (0 : Int) ≤ η 0 44 ∧ η 0 44 ≤ 64 := wf_ok (a := 44) (b := 44) (z := (0, 64)) hp.1 (by decide +kernel) (Nat.le_refl _) (Nat.le_refl _)
  have v35 : zEq (η1 0 44) (η 0 44) := (k1.1.2.2.2.1 0 44 (by decide +kernel)).trans rfl
  have v36 : zEq (η2 0 44) (η 0 44) := (k2.1.2.2.2.1 0 44 (by decide +kernel)).trans v35
  have v37 : zEq (η3 0 44) (η 0 44) := (k4.1.2.2.2.1 0 44 (by decide +kernel)).trans v36
  have f0_44 : η3 0 44 = η 0 44 := v37
  have w0_0_7 : (0 : Int) ≤ η 0 7 ∧ η 0 7 ≤ 700 := wf_ok (a := 7) (b := 7) (z := (0, 700)) hp.1 (by decide +kernel) (Nat.le_refl _) (Nat.le_refl _)
  have v39 : zEq (η1 0 7) (η 0 7) := (k1.1.2.2.2.1 0 7 (by decide +kernel)).trans rfl
  have v40 : zEq (η2 0 7) (η 0 7) := (k2.1.2.2.2.1 0 7 (by decide +kernel)).trans v39
  have v41 : zEq (η3 0 7) (η 0 7) := (k4.1.2.2.2.1 0 7 (by decide +kernel)).trans v40
  have f0_7 : η3 0 7 = η 0 7 := v41
  have w0_0_6 : (0 : Int) ≤ η 0 6 ∧ η 0 6 ≤ 700 := wf_ok (a := 6) (b := 6) (z := (0, 700)) hp.1 (by decide +kernel) (Nat.le_refl _) (Nat.le_refl _)
  have v43 : zEq (η1 0 6) (η 0 6) := (k1.1.2.2.2.1 0 6 (by decide +kernel)).trans rfl
  have v44 : zEq (η2 0 6) (η 0 6) := (k2.1.2.2.2.1 0 6 (by decide +kernel)).trans v43
  have v45 : zEq (η3 0 6) (η 0 6) := (k4.1.2.2.2.1 0 6 (by decide +kernel)).trans v44
  have f0_6 : η3 0 6 = η 0 6 := v45
  have f0_8 : η3 0 8 = η 0 8 := v6
  have wbE : wB wl_l zTr η3 := wb3
  
  have I0 : H_l 0 0 0 η := hpp.1
  have I1 : H_l 0 0 0 η1 := k1.2.1
  have I2 : H_l 0 0 0 η2 := k2.2.1
  have qk2 : η1 0 8 = 1 := k2.2.2 c2
  have I3 : H_l 0 0 0 η3 := k4.2.1
  exact I3
set_option maxHeartbeats 8000000 in
theorem zl_leafRead_o29 {ro : Nat → List Int32} (η : zE) (hp : sP wl_l zTr zPl_leafRead [] η) (hpp : pPl_leafRead [] η) : ∀ (x1 : Int) (η1 : zE), ((gC2 wl_l [(nat_lit 0, zPl_isSign, zOl_isSign, zMl_isSign), (nat_lit 1, zPl_wrong, zOl_wrong, zMl_wrong), (nat_lit 2, zPl_waitsFor0, zOl_waitsFor0, zMl_waitsFor0), (nat_lit 3, zPl_token, zOl_token, zMl_token), (nat_lit 4, zPl_isKey, zOl_isKey, zMl_isKey), (nat_lit 5, zPl_isCounted, zOl_isCounted, zMl_isCounted), (nat_lit 6, zPl_waitsFor2, zOl_waitsFor2, zMl_waitsFor2), (nat_lit 7, zPl_nameMet, zOl_nameMet, zMl_nameMet), (nat_lit 8, zPl_grown, zOl_grown, zMl_grown)] pCl_leafRead qCl_leafRead) 0).2 [40] η x1 η1 → (x1 = 0) → ∀ (x2 : Int) (η2 : zE), ((gC2 wl_l [(nat_lit 0, zPl_isSign, zOl_isSign, zMl_isSign), (nat_lit 1, zPl_wrong, zOl_wrong, zMl_wrong), (nat_lit 2, zPl_waitsFor0, zOl_waitsFor0, zMl_waitsFor0), (nat_lit 3, zPl_token, zOl_token, zMl_token), (nat_lit 4, zPl_isKey, zOl_isKey, zMl_isKey), (nat_lit 5, zPl_isCounted, zOl_isCounted, zMl_isCounted), (nat_lit 6, zPl_waitsFor2, zOl_waitsFor2, zMl_waitsFor2), (nat_lit 7, zPl_nameMet, zOl_nameMet, zMl_nameMet), (nat_lit 8, zPl_grown, zOl_grown, zMl_grown)] pCl_leafRead qCl_leafRead) 4).2 [12] η1 x2 η2 → (¬ x2 = 0) → ∀ x3 : Int, x3 = η2 0 (Int.toNat 46) → zok 1 x3 → (x3 = 0) → ∀ (x4 : Int) (η3 : zE), ((gC2 wl_l [(nat_lit 0, zPl_isSign, zOl_isSign, zMl_isSign), (nat_lit 1, zPl_wrong, zOl_wrong, zMl_wrong), (nat_lit 2, zPl_waitsFor0, zOl_waitsFor0, zMl_waitsFor0), (nat_lit 3, zPl_token, zOl_token, zMl_token), (nat_lit 4, zPl_isKey, zOl_isKey, zMl_isKey), (nat_lit 5, zPl_isCounted, zOl_isCounted, zMl_isCounted), (nat_lit 6, zPl_waitsFor2, zOl_waitsFor2, zMl_waitsFor2), (nat_lit 7, zPl_nameMet, zOl_nameMet, zMl_nameMet), (nat_lit 8, zPl_grown, zOl_grown, zMl_grown)] pCl_leafRead qCl_leafRead) 7).2 [] η2 x4 η3 → (x4 < 0) → ∀ x5 : Int, x5 = η3 0 (Int.toNat 8) → zok 0 x5 → (x5 = 3) → (x4 < 0) → ∀ x6 : Int, x6 = η3 0 (Int.toNat 9) → zok 0 x6 → (9999 < x6) → ∀ (x7 : Int) (η4 : zE), ((gC2 wl_l [(nat_lit 0, zPl_isSign, zOl_isSign, zMl_isSign), (nat_lit 1, zPl_wrong, zOl_wrong, zMl_wrong), (nat_lit 2, zPl_waitsFor0, zOl_waitsFor0, zMl_waitsFor0), (nat_lit 3, zPl_token, zOl_token, zMl_token), (nat_lit 4, zPl_isKey, zOl_isKey, zMl_isKey), (nat_lit 5, zPl_isCounted, zOl_isCounted, zMl_isCounted), (nat_lit 6, zPl_waitsFor2, zOl_waitsFor2, zMl_waitsFor2), (nat_lit 7, zPl_nameMet, zOl_nameMet, zMl_nameMet), (nat_lit 8, zPl_grown, zOl_grown, zMl_grown)] pCl_leafRead qCl_leafRead) 1).2 [2] η3 x7 η4 → (fun (_ : Nat) (y : Int) (η' : zE) => pQl_leafRead [] η y η') 0 x7 η4 := by
  have hw : η 0 45 = 1 := hpp.2
  have hs : η 0 7 ≤ η 0 6 := hpp.1.1.1.1
  have bd43 : (0 : Int) ≤ η 0 43 ∧ η 0 43 ≤ 8 := wf_ok (a := 43) (b := 43) (z := (0, 8)) hp.1 (by decide +kernel) (Nat.le_refl _) (Nat.le_refl _)
  have bd44 : (0 : Int) ≤ η 0 44 ∧ η 0 44 ≤ 64 := wf_ok (a := 44) (b := 44) (z := (0, 64)) hp.1 (by decide +kernel) (Nat.le_refl _) (Nat.le_refl _)
  have bd19 : (0 : Int) ≤ η 0 19 ∧ η 0 19 ≤ 64 := wf_ok (a := 19) (b := 19) (z := (0, 64)) hp.1 (by decide +kernel) (Nat.le_refl _) (Nat.le_refl _)
  intro x1 η1 h1 c1 x2 η2 h2 c2 x3 e3 r3 c3 x4 η3 h4 c4 x5 e5 r5 c5 c6 x6 e6 r6 c7 x7 η4 h7
  have k1 : sQ wl_l zTr zOl_isSign zMl_isSign [40] η x1 η1 ∧ pQl_isSign [40] η x1 η1 := h1
  have k2 : sQ wl_l zTr zOl_isKey zMl_isKey [12] η1 x2 η2 ∧ pQl_isKey [12] η1 x2 η2 := h2
  have k4 : sQ wl_l zTr zOl_nameMet zMl_nameMet [] η2 x4 η3 ∧ pQl_nameMet [] η2 x4 η3 := h4
  have k7 : sQ wl_l zTr zOl_wrong zMl_wrong [2] η3 x7 η4 ∧ pQl_wrong [2] η3 x7 η4 := h7
  have w0_0_8 : (0 : Int) ≤ η 0 8 ∧ η 0 8 ≤ 6 := wf_ok (a := 8) (b := 8) (z := (0, 6)) hp.1 (by decide +kernel) (Nat.le_refl _) (Nat.le_refl _)
  have c0_0_8 : η 0 8 = η 0 8 := rfl
  have wb1 : wB wl_l zTr η1 := k1.1.1
  have bx1 : (0 : Int) ≤ x1 ∧ x1 ≤ 1 := k1.1.2.1
  have v1 : zEq (η1 0 8) (η 0 8) := (k1.1.2.2.2.1 0 8 (by decide +kernel)).trans rfl
  have c1_0_8 : η1 0 8 = η 0 8 := v1
  have wb2 : wB wl_l zTr η2 := k2.1.1
  have bx2 : (0 : Int) ≤ x2 ∧ x2 ≤ 1 := k2.1.2.1
  have v3 : zEq (η1 0 46) (η 0 46) := (k1.1.2.2.2.1 0 46 (by decide +kernel)).trans rfl
  have v4 : zEq (η2 0 46) (η 0 46) := (k2.1.2.2.2.1 0 46 (by decide +kernel)).trans v3
  replace e3 : x3 = η 0 46 := e3.trans v4
  replace r3 : 0 ≤ x3 ∧ x3 ≤ 1 := r3
  have v5 : zEq (η2 0 8) (η 0 8) := (k2.1.2.2.2.1 0 8 (by decide +kernel)).trans v1
  have c2_0_8 : η2 0 8 = η 0 8 := v5
  have wb3 : wB wl_l zTr η3 := k4.1.1
  have bx4 : ((-1) : Int) ≤ x4 ∧ x4 ≤ 6 := k4.1.2.1
  have v6 : zEq (η3 0 8) (η 0 8) := (k4.1.2.2.2.1 0 8 (by decide +kernel)).trans v5
  replace e5 : x5 = η 0 8 := e5.trans v6
  have v8 : zEq (η1 0 9) (η 0 9) := (k1.1.2.2.2.1 0 9 (by decide +kernel)).trans rfl
  have v9 : zEq (η2 0 9) (η 0 9) := (k2.1.2.2.2.1 0 9 (by decide +kernel)).trans v8
  have v10 : zEq (η3 0 9) (η 0 9) := (k4.1.2.2.2.1 0 9 (by decide +kernel)).trans v9
  replace e6 : x6 = η 0 9 := e6.trans v10
  replace r6 : -2147483648 ≤ x6 ∧ x6 ≤ 2147483647 := r6
  have c3_0_8 : η3 0 8 = η 0 8 := v6
  have wb4 : wB wl_l zTr η4 := k7.1.1
  have bx7 : (0 : Int) ≤ x7 ∧ x7 ≤ 0 := k7.1.2.1
  have fm1 : zFm zMl_leafRead η η1 := zFm_tr2 zFm_rf k1.1.2.2.2.1 (by decide +kernel)
  have fm2 : zFm zMl_leafRead η η2 := zFm_tr2 fm1 k2.1.2.2.2.1 (by decide +kernel)
  have fm3 : zFm zMl_leafRead η η3 := zFm_tr2 fm2 k4.1.2.2.2.1 (by decide +kernel)
  have fm4 : zFm zMl_leafRead η η4 := zFm_tr2 fm3 k7.1.2.2.2.1 (by decide +kernel)
  have fmE : zFm zMl_leafRead η η4 := fm4
  have fr22_0 : ∀ j, η 22 j = η 22 j := fun _ => rfl
  have v11 : ∀ j, η1 22 j = η 22 j := fun j => k1.1.2.2.2.1 22 _ (zinr_not (by decide +kernel))
  have fr22_1 : ∀ j, η1 22 j = η 22 j := v11
  have v12 : ∀ j, η2 22 j = η 22 j := fun j => (k2.1.2.2.2.1 22 _ (zinr_not (by decide +kernel))).trans (v11 j)
  have fr22_2 : ∀ j, η2 22 j = η 22 j := v12
  have v13 : ∀ j, η3 22 j = η 22 j := fun j => (k4.1.2.2.2.1 22 _ (zinr_not (by decide +kernel))).trans (v12 j)
  have fr22_3 : ∀ j, η3 22 j = η 22 j := v13
  have v14 : ∀ j, η4 22 j = η 22 j := fun j => (k7.1.2.2.2.1 22 _ (zinr_not (by decide +kernel))).trans (v13 j)
  have fr22_4 : ∀ j, η4 22 j = η 22 j := v14
  have fr22 : ∀ j, η4 22 j = η 22 j := v14
  have v16 : zEq (η1 0 41) (η 0 41) := (k1.1.2.2.2.1 0 41 (by decide +kernel)).trans rfl
  have v17 : zEq (η2 0 41) (η 0 41) := (k2.1.2.2.2.1 0 41 (by decide +kernel)).trans v16
  have v18 : zEq (η3 0 41) (η 0 41) := (k4.1.2.2.2.1 0 41 (by decide +kernel)).trans v17
  have v19 : zEq (η4 0 41) (η 0 41) := (k7.1.2.2.2.1 0 41 (by decide +kernel)).trans v18
  have f0_41 : η4 0 41 = η 0 41 := v19
  have w0_0_43 : (0 : Int) ≤ η 0 43 ∧ η 0 43 ≤ 8 := wf_ok (a := 43) (b := 43) (z := (0, 8)) hp.1 (by decide +kernel) (Nat.le_refl _) (Nat.le_refl _)
  have v21 : zEq (η1 0 43) (η 0 43) := (k1.1.2.2.2.1 0 43 (by decide +kernel)).trans rfl
  have v22 : zEq (η2 0 43) (η 0 43) := (k2.1.2.2.2.1 0 43 (by decide +kernel)).trans v21
  have v23 : zEq (η3 0 43) (η 0 43) := (k4.1.2.2.2.1 0 43 (by decide +kernel)).trans v22
  have v24 : zEq (η4 0 43) (η 0 43) := (k7.1.2.2.2.1 0 43 (by decide +kernel)).trans v23
  have f0_43 : η4 0 43 = η 0 43 := v24
  have v26 : zEq (η1 0 42) (η 0 42) := (k1.1.2.2.2.1 0 42 (by decide +kernel)).trans rfl
  have v27 : zEq (η2 0 42) (η 0 42) := (k2.1.2.2.2.1 0 42 (by decide +kernel)).trans v26
  have v28 : zEq (η3 0 42) (η 0 42) := (k4.1.2.2.2.1 0 42 (by decide +kernel)).trans v27
  have v29 : zEq (η4 0 42) (η 0 42) := (k7.1.2.2.2.1 0 42 (by decide +kernel)).trans v28
  have f0_42 : η4 0 42 = η 0 42 := v29
  have v31 : zEq (η1 0 45) (η 0 45) := (k1.1.2.2.2.1 0 45 (by decide +kernel)).trans rfl
  have v32 : zEq (η2 0 45) (η 0 45) := (k2.1.2.2.2.1 0 45 (by decide +kernel)).trans v31
  have v33 : zEq (η3 0 45) (η 0 45) := (k4.1.2.2.2.1 0 45 (by decide +kernel)).trans v32
  have v34 : zEq (η4 0 45) (η 0 45) := (k7.1.2.2.2.1 0 45 (by decide +kernel)).trans v33
  have f0_45 : η4 0 45 = η 0 45 := v34
  have w0_0_19 : (0 : Int) ≤ η 0 19 ∧ η 0 19 ≤ 64 := wf_ok (a := 19) (b := 19) (z := (0, 64)) hp.1 (by decide +kernel) (Nat.le_refl _) (Nat.le_refl _)
  have v36 : zEq (η1 0 19) (η 0 19) := (k1.1.2.2.2.1 0 19 (by decide +kernel)).trans rfl
  have v37 : zEq (η2 0 19) (η 0 19) := (k2.1.2.2.2.1 0 19 (by decide +kernel)).trans v36
  have v38 : zEq (η3 0 19) (η 0 19) := (k4.1.2.2.2.1 0 19 (by decide +kernel)).trans v37
  have v39 : zEq (η4 0 19) (η 0 19) := (k7.1.2.2.2.1 0 19 (by decide +kernel)).trans v38
  have f0_19 : η4 0 19 = η 0 19 := v39
  have w0_0_44 : (0 : Int) ≤ η 0 44 ∧ η 0 44 ≤ 64 := wf_ok (a := 44) (b := 44) (z := (0, 64)) hp.1 (by decide +kernel) (Nat.le_refl _) (Nat.le_refl _)
  have v41 : zEq (η1 0 44) (η 0 44) := (k1.1.2.2.2.1 0 44 (by decide +kernel)).trans rfl
  have v42 : zEq (η2 0 44) (η 0 44) := (k2.1.2.2.2.1 0 44 (by decide +kernel)).trans v41
  have v43 : zEq (η3 0 44) (η 0 44) := (k4.1.2.2.2.1 0 44 (by decide +kernel)).trans v42
  have v44 : zEq (η4 0 44) (η 0 44) := (k7.1.2.2.2.1 0 44 (by decide +kernel)).trans v43
  have f0_44 : η4 0 44 = η 0 44 := v44
  have w0_0_7 : (0 : Int) ≤ η 0 7 ∧ η 0 7 ≤ 700 := wf_ok (a := 7) (b := 7) (z := (0, 700)) hp.1 (by decide +kernel) (Nat.le_refl _) (Nat.le_refl _)
  have v46 : zEq (η1 0 7) (η 0 7) := (k1.1.2.2.2.1 0 7 (by decide +kernel)).trans rfl
  have v47 : zEq (η2 0 7) (η 0 7) := (k2.1.2.2.2.1 0 7 (by decide +kernel)).trans v46
  have v48 : zEq (η3 0 7) (η 0 7) := (k4.1.2.2.2.1 0 7 (by decide +kernel)).trans v47
  have v49 : zEq (η4 0 7) (η 0 7) := (k7.1.2.2.2.1 0 7 (by decide +kernel)).trans v48
  have f0_7 : η4 0 7 = η 0 7 := v49
  have w0_0_6 : (0 : Int) ≤ η 0 6 ∧ η 0 6 ≤ 700 := wf_ok (a := 6) (b := 6) (z := (0, 700)) hp.1 (by decide +kernel) (Nat.le_refl _) (Nat.le_refl _)
  have v51 : zEq (η1 0 6) (η 0 6) := (k1.1.2.2.2.1 0 6 (by decide +kernel)).trans rfl
  have v52 : zEq (η2 0 6) (η 0 6) := (k2.1.2.2.2.1 0 6 (by decide +kernel)).trans v51
  have v53 : zEq (η3 0 6) (η 0 6) := (k4.1.2.2.2.1 0 6 (by decide +kernel)).trans v52
  have v54 : zEq (η4 0 6) (η 0 6) := (k7.1.2.2.2.1 0 6 (by decide +kernel)).trans v53
  have f0_6 : η4 0 6 = η 0 6 := v54
  have v55 : zEq (η4 0 8) (η 0 8) := (k7.1.2.2.2.1 0 8 (by decide +kernel)).trans v6
  have f0_8 : η4 0 8 = η 0 8 := v55
  have wbE : wB wl_l zTr η4 := wb4
  
  have I0 : H_l 0 0 0 η := hpp.1
  have I1 : H_l 0 0 0 η1 := k1.2.1
  have I2 : H_l 0 0 0 η2 := k2.2.1
  have qk2 : η1 0 8 = 1 := k2.2.2 c2
  have I3 : H_l 0 0 0 η3 := k4.2.1
  have I4 : H_l 0 0 0 η4 := k7.2
  exact ⟨I4.1, fun w => absurd (show (x7 : Int) = 0 by apply Int.le_antisymm <;> omega) w⟩
set_option maxHeartbeats 8000000 in
theorem zl_leafRead_o30 {ro : Nat → List Int32} (η : zE) (hp : sP wl_l zTr zPl_leafRead [] η) (hpp : pPl_leafRead [] η) : ∀ (x1 : Int) (η1 : zE), ((gC2 wl_l [(nat_lit 0, zPl_isSign, zOl_isSign, zMl_isSign), (nat_lit 1, zPl_wrong, zOl_wrong, zMl_wrong), (nat_lit 2, zPl_waitsFor0, zOl_waitsFor0, zMl_waitsFor0), (nat_lit 3, zPl_token, zOl_token, zMl_token), (nat_lit 4, zPl_isKey, zOl_isKey, zMl_isKey), (nat_lit 5, zPl_isCounted, zOl_isCounted, zMl_isCounted), (nat_lit 6, zPl_waitsFor2, zOl_waitsFor2, zMl_waitsFor2), (nat_lit 7, zPl_nameMet, zOl_nameMet, zMl_nameMet), (nat_lit 8, zPl_grown, zOl_grown, zMl_grown)] pCl_leafRead qCl_leafRead) 0).2 [40] η x1 η1 → (x1 = 0) → ∀ (x2 : Int) (η2 : zE), ((gC2 wl_l [(nat_lit 0, zPl_isSign, zOl_isSign, zMl_isSign), (nat_lit 1, zPl_wrong, zOl_wrong, zMl_wrong), (nat_lit 2, zPl_waitsFor0, zOl_waitsFor0, zMl_waitsFor0), (nat_lit 3, zPl_token, zOl_token, zMl_token), (nat_lit 4, zPl_isKey, zOl_isKey, zMl_isKey), (nat_lit 5, zPl_isCounted, zOl_isCounted, zMl_isCounted), (nat_lit 6, zPl_waitsFor2, zOl_waitsFor2, zMl_waitsFor2), (nat_lit 7, zPl_nameMet, zOl_nameMet, zMl_nameMet), (nat_lit 8, zPl_grown, zOl_grown, zMl_grown)] pCl_leafRead qCl_leafRead) 4).2 [12] η1 x2 η2 → (¬ x2 = 0) → ∀ x3 : Int, x3 = η2 0 (Int.toNat 46) → zok 1 x3 → (x3 = 0) → ∀ (x4 : Int) (η3 : zE), ((gC2 wl_l [(nat_lit 0, zPl_isSign, zOl_isSign, zMl_isSign), (nat_lit 1, zPl_wrong, zOl_wrong, zMl_wrong), (nat_lit 2, zPl_waitsFor0, zOl_waitsFor0, zMl_waitsFor0), (nat_lit 3, zPl_token, zOl_token, zMl_token), (nat_lit 4, zPl_isKey, zOl_isKey, zMl_isKey), (nat_lit 5, zPl_isCounted, zOl_isCounted, zMl_isCounted), (nat_lit 6, zPl_waitsFor2, zOl_waitsFor2, zMl_waitsFor2), (nat_lit 7, zPl_nameMet, zOl_nameMet, zMl_nameMet), (nat_lit 8, zPl_grown, zOl_grown, zMl_grown)] pCl_leafRead qCl_leafRead) 7).2 [] η2 x4 η3 → (x4 < 0) → ∀ x5 : Int, x5 = η3 0 (Int.toNat 8) → zok 0 x5 → (¬ x5 = 3) → ((gC2 wl_l [(nat_lit 0, zPl_isSign, zOl_isSign, zMl_isSign), (nat_lit 1, zPl_wrong, zOl_wrong, zMl_wrong), (nat_lit 2, zPl_waitsFor0, zOl_waitsFor0, zMl_waitsFor0), (nat_lit 3, zPl_token, zOl_token, zMl_token), (nat_lit 4, zPl_isKey, zOl_isKey, zMl_isKey), (nat_lit 5, zPl_isCounted, zOl_isCounted, zMl_isCounted), (nat_lit 6, zPl_waitsFor2, zOl_waitsFor2, zMl_waitsFor2), (nat_lit 7, zPl_nameMet, zOl_nameMet, zMl_nameMet), (nat_lit 8, zPl_grown, zOl_grown, zMl_grown)] pCl_leafRead qCl_leafRead) 1).1 [1] η3 := by
  have hw : η 0 45 = 1 := hpp.2
  have hs : η 0 7 ≤ η 0 6 := hpp.1.1.1.1
  have bd43 : (0 : Int) ≤ η 0 43 ∧ η 0 43 ≤ 8 := wf_ok (a := 43) (b := 43) (z := (0, 8)) hp.1 (by decide +kernel) (Nat.le_refl _) (Nat.le_refl _)
  have bd44 : (0 : Int) ≤ η 0 44 ∧ η 0 44 ≤ 64 := wf_ok (a := 44) (b := 44) (z := (0, 64)) hp.1 (by decide +kernel) (Nat.le_refl _) (Nat.le_refl _)
  have bd19 : (0 : Int) ≤ η 0 19 ∧ η 0 19 ≤ 64 := wf_ok (a := 19) (b := 19) (z := (0, 64)) hp.1 (by decide +kernel) (Nat.le_refl _) (Nat.le_refl _)
  intro x1 η1 h1 c1 x2 η2 h2 c2 x3 e3 r3 c3 x4 η3 h4 c4 x5 e5 r5 c5
  have k1 : sQ wl_l zTr zOl_isSign zMl_isSign [40] η x1 η1 ∧ pQl_isSign [40] η x1 η1 := h1
  have k2 : sQ wl_l zTr zOl_isKey zMl_isKey [12] η1 x2 η2 ∧ pQl_isKey [12] η1 x2 η2 := h2
  have k4 : sQ wl_l zTr zOl_nameMet zMl_nameMet [] η2 x4 η3 ∧ pQl_nameMet [] η2 x4 η3 := h4
  have w0_0_8 : (0 : Int) ≤ η 0 8 ∧ η 0 8 ≤ 6 := wf_ok (a := 8) (b := 8) (z := (0, 6)) hp.1 (by decide +kernel) (Nat.le_refl _) (Nat.le_refl _)
  have c0_0_8 : η 0 8 = η 0 8 := rfl
  have wb1 : wB wl_l zTr η1 := k1.1.1
  have bx1 : (0 : Int) ≤ x1 ∧ x1 ≤ 1 := k1.1.2.1
  have v1 : zEq (η1 0 8) (η 0 8) := (k1.1.2.2.2.1 0 8 (by decide +kernel)).trans rfl
  have c1_0_8 : η1 0 8 = η 0 8 := v1
  have wb2 : wB wl_l zTr η2 := k2.1.1
  have bx2 : (0 : Int) ≤ x2 ∧ x2 ≤ 1 := k2.1.2.1
  have v3 : zEq (η1 0 46) (η 0 46) := (k1.1.2.2.2.1 0 46 (by decide +kernel)).trans rfl
  have v4 : zEq (η2 0 46) (η 0 46) := (k2.1.2.2.2.1 0 46 (by decide +kernel)).trans v3
  replace e3 : x3 = η 0 46 := e3.trans v4
  replace r3 : 0 ≤ x3 ∧ x3 ≤ 1 := r3
  have v5 : zEq (η2 0 8) (η 0 8) := (k2.1.2.2.2.1 0 8 (by decide +kernel)).trans v1
  have c2_0_8 : η2 0 8 = η 0 8 := v5
  have wb3 : wB wl_l zTr η3 := k4.1.1
  have bx4 : ((-1) : Int) ≤ x4 ∧ x4 ≤ 6 := k4.1.2.1
  have v6 : zEq (η3 0 8) (η 0 8) := (k4.1.2.2.2.1 0 8 (by decide +kernel)).trans v5
  replace e5 : x5 = η 0 8 := e5.trans v6
  have fm1 : zFm zMl_leafRead η η1 := zFm_tr2 zFm_rf k1.1.2.2.2.1 (by decide +kernel)
  have fm2 : zFm zMl_leafRead η η2 := zFm_tr2 fm1 k2.1.2.2.2.1 (by decide +kernel)
  have fm3 : zFm zMl_leafRead η η3 := zFm_tr2 fm2 k4.1.2.2.2.1 (by decide +kernel)
  have fmE : zFm zMl_leafRead η η3 := fm3
  have fr22_0 : ∀ j, η 22 j = η 22 j := fun _ => rfl
  have v7 : ∀ j, η1 22 j = η 22 j := fun j => k1.1.2.2.2.1 22 _ (zinr_not (by decide +kernel))
  have fr22_1 : ∀ j, η1 22 j = η 22 j := v7
  have v8 : ∀ j, η2 22 j = η 22 j := fun j => (k2.1.2.2.2.1 22 _ (zinr_not (by decide +kernel))).trans (v7 j)
  have fr22_2 : ∀ j, η2 22 j = η 22 j := v8
  have v9 : ∀ j, η3 22 j = η 22 j := fun j => (k4.1.2.2.2.1 22 _ (zinr_not (by decide +kernel))).trans (v8 j)
  have fr22_3 : ∀ j, η3 22 j = η 22 j := v9
  have fr22 : ∀ j, η3 22 j = η 22 j := v9
  have v11 : zEq (η1 0 41) (η 0 41) := (k1.1.2.2.2.1 0 41 (by decide +kernel)).trans rfl
  have v12 : zEq (η2 0 41) (η 0 41) := (k2.1.2.2.2.1 0 41 (by decide +kernel)).trans v11
  have v13 : zEq (η3 0 41) (η 0 41) := (k4.1.2.2.2.1 0 41 (by decide +kernel)).trans v12
  have f0_41 : η3 0 41 = η 0 41 := v13
  have w0_0_43 : (0 : Int) ≤ η 0 43 ∧ η 0 43 ≤ 8 := wf_ok (a := 43) (b := 43) (z := (0, 8)) hp.1 (by decide +kernel) (Nat.le_refl _) (Nat.le_refl _)
  have v15 : zEq (η1 0 43) (η 0 43) := (k1.1.2.2.2.1 0 43 (by decide +kernel)).trans rfl
  have v16 : zEq (η2 0 43) (η 0 43) := (k2.1.2.2.2.1 0 43 (by decide +kernel)).trans v15
  have v17 : zEq (η3 0 43) (η 0 43) := (k4.1.2.2.2.1 0 43 (by decide +kernel)).trans v16
  have f0_43 : η3 0 43 = η 0 43 := v17
  have v19 : zEq (η1 0 42) (η 0 42) := (k1.1.2.2.2.1 0 42 (by decide +kernel)).trans rfl
  have v20 : zEq (η2 0 42) (η 0 42) := (k2.1.2.2.2.1 0 42 (by decide +kernel)).trans v19
  have v21 : zEq (η3 0 42) (η 0 42) := (k4.1.2.2.2.1 0 42 (by decide +kernel)).trans v20
  have f0_42 : η3 0 42 = η 0 42 := v21
  have v23 : zEq (η1 0 45) (η 0 45) := (k1.1.2.2.2.1 0 45 (by decide +kernel)).trans rfl
  have v24 : zEq (η2 0 45) (η 0 45) := (k2.1.2.2.2.1 0 45 (by decide +kernel)).trans v23
  have v25 : zEq (η3 0 45) (η 0 45) := (k4.1.2.2.2.1 0 45 (by decide +kernel)).trans v24
  have f0_45 : η3 0 45 = η 0 45 := v25
  have w0_0_19 : (0 : Int) ≤ η 0 19 ∧ η 0 19 ≤ 64 := wf_ok (a := 19) (b := 19) (z := (0, 64)) hp.1 (by decide +kernel) (Nat.le_refl _) (Nat.le_refl _)
  have v27 : zEq (η1 0 19) (η 0 19) := (k1.1.2.2.2.1 0 19 (by decide +kernel)).trans rfl
  have v28 : zEq (η2 0 19) (η 0 19) := (k2.1.2.2.2.1 0 19 (by decide +kernel)).trans v27
  have v29 : zEq (η3 0 19) (η 0 19) := (k4.1.2.2.2.1 0 19 (by decide +kernel)).trans v28
  have f0_19 : η3 0 19 = η 0 19 := v29
  have w0_0_44 : (0 : Int) ≤ η 0 44 ∧ η 0 44 ≤ 64 := wf_ok (a := 44) (b := 44) (z := (0, 64)) hp.1 (by decide +kernel) (Nat.le_refl _) (Nat.le_refl _)
  have v31 : zEq (η1 0 44) (η 0 44) := (k1.1.2.2.2.1 0 44 (by decide +kernel)).trans rfl
  have v32 : zEq (η2 0 44) (η 0 44) := (k2.1.2.2.2.1 0 44 (by decide +kernel)).trans v31
  have v33 : zEq (η3 0 44) (η 0 44) := (k4.1.2.2.2.1 0 44 (by decide +kernel)).trans v32
  have f0_44 : η3 0 44 = η 0 44 := v33
  have w0_0_7 : (0 : Int) ≤ η 0 7 ∧ η 0 7 ≤ 700 := wf_ok (a := 7) (b := 7) (z := (0, 700)) hp.1 (by decide +kernel) (Nat.le_refl _) (Nat.le_refl _)
  have v35 : zEq (η1 0 7) (η 0 7) := (k1.1.2.2.2.1 0 7 (by decide +kernel)).trans rfl
  have v36 : zEq (η2 0 7) (η 0 7) := (k2.1.2.2.2.1 0 7 (by decide +kernel)).trans v35
  have v37 : zEq (η3 0 7) (η 0 7) := (k4.1.2.2.2.1 0 7 (by decide +kernel)).trans v36
  have f0_7 : η3 0 7 = η 0 7 := v37
  have w0_0_6 : (0 : Int) ≤ η 0 6 ∧ η 0 6 ≤ 700 := wf_ok (a := 6) (b := 6) (z := (0, 700)) hp.1 (by decide +kernel) (Nat.le_refl _) (Nat.le_refl _)
  have v39 : zEq (η1 0 6) (η 0 6) := (k1.1.2.2.2.1 0 6 (by decide +kernel)).trans rfl
  have v40 : zEq (η2 0 6) (η 0 6) := (k2.1.2.2.2.1 0 6 (by decide +kernel)).trans v39
  have v41 : zEq (η3 0 6) (η 0 6) := (k4.1.2.2.2.1 0 6 (by decide +kernel)).trans v40
  have f0_6 : η3 0 6 = η 0 6 := v41
  have f0_8 : η3 0 8 = η 0 8 := v6
  have wbE : wB wl_l zTr η3 := wb3
  
  have I0 : H_l 0 0 0 η := hpp.1
  have I1 : H_l 0 0 0 η1 := k1.2.1
  have I2 : H_l 0 0 0 η2 := k2.2.1
  have qk2 : η1 0 8 = 1 := k2.2.2 c2
  have I3 : H_l 0 0 0 η3 := k4.2.1
  exact I3
set_option maxHeartbeats 8000000 in
theorem zl_leafRead_o31 {ro : Nat → List Int32} (η : zE) (hp : sP wl_l zTr zPl_leafRead [] η) (hpp : pPl_leafRead [] η) : ∀ (x1 : Int) (η1 : zE), ((gC2 wl_l [(nat_lit 0, zPl_isSign, zOl_isSign, zMl_isSign), (nat_lit 1, zPl_wrong, zOl_wrong, zMl_wrong), (nat_lit 2, zPl_waitsFor0, zOl_waitsFor0, zMl_waitsFor0), (nat_lit 3, zPl_token, zOl_token, zMl_token), (nat_lit 4, zPl_isKey, zOl_isKey, zMl_isKey), (nat_lit 5, zPl_isCounted, zOl_isCounted, zMl_isCounted), (nat_lit 6, zPl_waitsFor2, zOl_waitsFor2, zMl_waitsFor2), (nat_lit 7, zPl_nameMet, zOl_nameMet, zMl_nameMet), (nat_lit 8, zPl_grown, zOl_grown, zMl_grown)] pCl_leafRead qCl_leafRead) 0).2 [40] η x1 η1 → (x1 = 0) → ∀ (x2 : Int) (η2 : zE), ((gC2 wl_l [(nat_lit 0, zPl_isSign, zOl_isSign, zMl_isSign), (nat_lit 1, zPl_wrong, zOl_wrong, zMl_wrong), (nat_lit 2, zPl_waitsFor0, zOl_waitsFor0, zMl_waitsFor0), (nat_lit 3, zPl_token, zOl_token, zMl_token), (nat_lit 4, zPl_isKey, zOl_isKey, zMl_isKey), (nat_lit 5, zPl_isCounted, zOl_isCounted, zMl_isCounted), (nat_lit 6, zPl_waitsFor2, zOl_waitsFor2, zMl_waitsFor2), (nat_lit 7, zPl_nameMet, zOl_nameMet, zMl_nameMet), (nat_lit 8, zPl_grown, zOl_grown, zMl_grown)] pCl_leafRead qCl_leafRead) 4).2 [12] η1 x2 η2 → (¬ x2 = 0) → ∀ x3 : Int, x3 = η2 0 (Int.toNat 46) → zok 1 x3 → (x3 = 0) → ∀ (x4 : Int) (η3 : zE), ((gC2 wl_l [(nat_lit 0, zPl_isSign, zOl_isSign, zMl_isSign), (nat_lit 1, zPl_wrong, zOl_wrong, zMl_wrong), (nat_lit 2, zPl_waitsFor0, zOl_waitsFor0, zMl_waitsFor0), (nat_lit 3, zPl_token, zOl_token, zMl_token), (nat_lit 4, zPl_isKey, zOl_isKey, zMl_isKey), (nat_lit 5, zPl_isCounted, zOl_isCounted, zMl_isCounted), (nat_lit 6, zPl_waitsFor2, zOl_waitsFor2, zMl_waitsFor2), (nat_lit 7, zPl_nameMet, zOl_nameMet, zMl_nameMet), (nat_lit 8, zPl_grown, zOl_grown, zMl_grown)] pCl_leafRead qCl_leafRead) 7).2 [] η2 x4 η3 → (x4 < 0) → ∀ x5 : Int, x5 = η3 0 (Int.toNat 8) → zok 0 x5 → (¬ x5 = 3) → ∀ (x6 : Int) (η4 : zE), ((gC2 wl_l [(nat_lit 0, zPl_isSign, zOl_isSign, zMl_isSign), (nat_lit 1, zPl_wrong, zOl_wrong, zMl_wrong), (nat_lit 2, zPl_waitsFor0, zOl_waitsFor0, zMl_waitsFor0), (nat_lit 3, zPl_token, zOl_token, zMl_token), (nat_lit 4, zPl_isKey, zOl_isKey, zMl_isKey), (nat_lit 5, zPl_isCounted, zOl_isCounted, zMl_isCounted), (nat_lit 6, zPl_waitsFor2, zOl_waitsFor2, zMl_waitsFor2), (nat_lit 7, zPl_nameMet, zOl_nameMet, zMl_nameMet), (nat_lit 8, zPl_grown, zOl_grown, zMl_grown)] pCl_leafRead qCl_leafRead) 1).2 [1] η3 x6 η4 → (fun (_ : Nat) (y : Int) (η' : zE) => pQl_leafRead [] η y η') 0 x6 η4 := by
  have hw : η 0 45 = 1 := hpp.2
  have hs : η 0 7 ≤ η 0 6 := hpp.1.1.1.1
  have bd43 : (0 : Int) ≤ η 0 43 ∧ η 0 43 ≤ 8 := wf_ok (a := 43) (b := 43) (z := (0, 8)) hp.1 (by decide +kernel) (Nat.le_refl _) (Nat.le_refl _)
  have bd44 : (0 : Int) ≤ η 0 44 ∧ η 0 44 ≤ 64 := wf_ok (a := 44) (b := 44) (z := (0, 64)) hp.1 (by decide +kernel) (Nat.le_refl _) (Nat.le_refl _)
  have bd19 : (0 : Int) ≤ η 0 19 ∧ η 0 19 ≤ 64 := wf_ok (a := 19) (b := 19) (z := (0, 64)) hp.1 (by decide +kernel) (Nat.le_refl _) (Nat.le_refl _)
  intro x1 η1 h1 c1 x2 η2 h2 c2 x3 e3 r3 c3 x4 η3 h4 c4 x5 e5 r5 c5 x6 η4 h6
  have k1 : sQ wl_l zTr zOl_isSign zMl_isSign [40] η x1 η1 ∧ pQl_isSign [40] η x1 η1 := h1
  have k2 : sQ wl_l zTr zOl_isKey zMl_isKey [12] η1 x2 η2 ∧ pQl_isKey [12] η1 x2 η2 := h2
  have k4 : sQ wl_l zTr zOl_nameMet zMl_nameMet [] η2 x4 η3 ∧ pQl_nameMet [] η2 x4 η3 := h4
  have k6 : sQ wl_l zTr zOl_wrong zMl_wrong [1] η3 x6 η4 ∧ pQl_wrong [1] η3 x6 η4 := h6
  have w0_0_8 : (0 : Int) ≤ η 0 8 ∧ η 0 8 ≤ 6 := wf_ok (a := 8) (b := 8) (z := (0, 6)) hp.1 (by decide +kernel) (Nat.le_refl _) (Nat.le_refl _)
  have c0_0_8 : η 0 8 = η 0 8 := rfl
  have wb1 : wB wl_l zTr η1 := k1.1.1
  have bx1 : (0 : Int) ≤ x1 ∧ x1 ≤ 1 := k1.1.2.1
  have v1 : zEq (η1 0 8) (η 0 8) := (k1.1.2.2.2.1 0 8 (by decide +kernel)).trans rfl
  have c1_0_8 : η1 0 8 = η 0 8 := v1
  have wb2 : wB wl_l zTr η2 := k2.1.1
  have bx2 : (0 : Int) ≤ x2 ∧ x2 ≤ 1 := k2.1.2.1
  have v3 : zEq (η1 0 46) (η 0 46) := (k1.1.2.2.2.1 0 46 (by decide +kernel)).trans rfl
  have v4 : zEq (η2 0 46) (η 0 46) := (k2.1.2.2.2.1 0 46 (by decide +kernel)).trans v3
  replace e3 : x3 = η 0 46 := e3.trans v4
  replace r3 : 0 ≤ x3 ∧ x3 ≤ 1 := r3
  have v5 : zEq (η2 0 8) (η 0 8) := (k2.1.2.2.2.1 0 8 (by decide +kernel)).trans v1
  have c2_0_8 : η2 0 8 = η 0 8 := v5
  have wb3 : wB wl_l zTr η3 := k4.1.1
  have bx4 : ((-1) : Int) ≤ x4 ∧ x4 ≤ 6 := k4.1.2.1
  have v6 : zEq (η3 0 8) (η 0 8) := (k4.1.2.2.2.1 0 8 (by decide +kernel)).trans v5
  replace e5 : x5 = η 0 8 := e5.trans v6
  have c3_0_8 : η3 0 8 = η 0 8 := v6
  have wb4 : wB wl_l zTr η4 := k6.1.1
  have bx6 : (0 : Int) ≤ x6 ∧ x6 ≤ 0 := k6.1.2.1
  have fm1 : zFm zMl_leafRead η η1 := zFm_tr2 zFm_rf k1.1.2.2.2.1 (by decide +kernel)
  have fm2 : zFm zMl_leafRead η η2 := zFm_tr2 fm1 k2.1.2.2.2.1 (by decide +kernel)
  have fm3 : zFm zMl_leafRead η η3 := zFm_tr2 fm2 k4.1.2.2.2.1 (by decide +kernel)
  have fm4 : zFm zMl_leafRead η η4 := zFm_tr2 fm3 k6.1.2.2.2.1 (by decide +kernel)
  have fmE : zFm zMl_leafRead η η4 := fm4
  have fr22_0 : ∀ j, η 22 j = η 22 j := fun _ => rfl
  have v7 : ∀ j, η1 22 j = η 22 j := fun j => k1.1.2.2.2.1 22 _ (zinr_not (by decide +kernel))
  have fr22_1 : ∀ j, η1 22 j = η 22 j := v7
  have v8 : ∀ j, η2 22 j = η 22 j := fun j => (k2.1.2.2.2.1 22 _ (zinr_not (by decide +kernel))).trans (v7 j)
  have fr22_2 : ∀ j, η2 22 j = η 22 j := v8
  have v9 : ∀ j, η3 22 j = η 22 j := fun j => (k4.1.2.2.2.1 22 _ (zinr_not (by decide +kernel))).trans (v8 j)
  have fr22_3 : ∀ j, η3 22 j = η 22 j := v9
  have v10 : ∀ j, η4 22 j = η 22 j := fun j => (k6.1.2.2.2.1 22 _ (zinr_not (by decide +kernel))).trans (v9 j)
  have fr22_4 : ∀ j, η4 22 j = η 22 j := v10
  have fr22 : ∀ j, η4 22 j = η 22 j := v10
  have v12 : zEq (η1 0 41) (η 0 41) := (k1.1.2.2.2.1 0 41 (by decide +kernel)).trans rfl
  have v13 : zEq (η2 0 41) (η 0 41) := (k2.1.2.2.2.1 0 41 (by decide +kernel)).trans v12
  have v14 : zEq (η3 0 41) (η 0 41) := (k4.1.2.2.2.1 0 41 (by decide +kernel)).trans v13
  have v15 : zEq (η4 0 41) (η 0 41) := (k6.1.2.2.2.1 0 41 (by decide +kernel)).trans v14
  have f0_41 : η4 0 41 = η 0 41 := v15
  have w0_0_43 : (0 : Int) ≤ η 0 43 ∧ η 0 43 ≤ 8 := wf_ok (a := 43) (b := 43) (z := (0, 8)) hp.1 (by decide +kernel) (Nat.le_refl _) (Nat.le_refl _)
  have v17 : zEq (η1 0 43) (η 0 43) := (k1.1.2.2.2.1 0 43 (by decide +kernel)).trans rfl
  have v18 : zEq (η2 0 43) (η 0 43) := (k2.1.2.2.2.1 0 43 (by decide +kernel)).trans v17
  have v19 : zEq (η3 0 43) (η 0 43) := (k4.1.2.2.2.1 0 43 (by decide +kernel)).trans v18
  have v20 : zEq (η4 0 43) (η 0 43) := (k6.1.2.2.2.1 0 43 (by decide +kernel)).trans v19
  have f0_43 : η4 0 43 = η 0 43 := v20
  have v22 : zEq (η1 0 42) (η 0 42) := (k1.1.2.2.2.1 0 42 (by decide +kernel)).trans rfl
  have v23 : zEq (η2 0 42) (η 0 42) := (k2.1.2.2.2.1 0 42 (by decide +kernel)).trans v22
  have v24 : zEq (η3 0 42) (η 0 42) := (k4.1.2.2.2.1 0 42 (by decide +kernel)).trans v23
  have v25 : zEq (η4 0 42) (η 0 42) := (k6.1.2.2.2.1 0 42 (by decide +kernel)).trans v24
  have f0_42 : η4 0 42 = η 0 42 := v25
  have v27 : zEq (η1 0 45) (η 0 45) := (k1.1.2.2.2.1 0 45 (by decide +kernel)).trans rfl
  have v28 : zEq (η2 0 45) (η 0 45) := (k2.1.2.2.2.1 0 45 (by decide +kernel)).trans v27
  have v29 : zEq (η3 0 45) (η 0 45) := (k4.1.2.2.2.1 0 45 (by decide +kernel)).trans v28
  have v30 : zEq (η4 0 45) (η 0 45) := (k6.1.2.2.2.1 0 45 (by decide +kernel)).trans v29
  have f0_45 : η4 0 45 = η 0 45 := v30
  have w0_0_19 : (0 : Int) ≤ η 0 19 ∧ η 0 19 ≤ 64 := wf_ok (a := 19) (b := 19) (z := (0, 64)) hp.1 (by decide +kernel) (Nat.le_refl _) (Nat.le_refl _)
  have v32 : zEq (η1 0 19) (η 0 19) := (k1.1.2.2.2.1 0 19 (by decide +kernel)).trans rfl
  have v33 : zEq (η2 0 19) (η 0 19) := (k2.1.2.2.2.1 0 19 (by decide +kernel)).trans v32
  have v34 : zEq (η3 0 19) (η 0 19) := (k4.1.2.2.2.1 0 19 (by decide +kernel)).trans v33
  have v35 : zEq (η4 0 19) (η 0 19) := (k6.1.2.2.2.1 0 19 (by decide +kernel)).trans v34
  have f0_19 : η4 0 19 = η 0 19 := v35
  have w0_0_44 : (0 : Int) ≤ η 0 44 ∧ η 0 44 ≤ 64 := wf_ok (a := 44) (b := 44) (z := (0, 64)) hp.1 (by decide +kernel) (Nat.le_refl _) (Nat.le_refl _)
  have v37 : zEq (η1 0 44) (η 0 44) := (k1.1.2.2.2.1 0 44 (by decide +kernel)).trans rfl
  have v38 : zEq (η2 0 44) (η 0 44) := (k2.1.2.2.2.1 0 44 (by decide +kernel)).trans v37
  have v39 : zEq (η3 0 44) (η 0 44) := (k4.1.2.2.2.1 0 44 (by decide +kernel)).trans v38
  have v40 : zEq (η4 0 44) (η 0 44) := (k6.1.2.2.2.1 0 44 (by decide +kernel)).trans v39
  have f0_44 : η4 0 44 = η 0 44 := v40
  have w0_0_7 : (0 : Int) ≤ η 0 7 ∧ η 0 7 ≤ 700 := wf_ok (a := 7) (b := 7) (z := (0, 700)) hp.1 (by decide +kernel) (Nat.le_refl _) (Nat.le_refl _)
  have v42 : zEq (η1 0 7) (η 0 7) := (k1.1.2.2.2.1 0 7 (by decide +kernel)).trans rfl
  have v43 : zEq (η2 0 7) (η 0 7) := (k2.1.2.2.2.1 0 7 (by decide +kernel)).trans v42
  have v44 : zEq (η3 0 7) (η 0 7) := (k4.1.2.2.2.1 0 7 (by decide +kernel)).trans v43
  have v45 : zEq (η4 0 7) (η 0 7) := (k6.1.2.2.2.1 0 7 (by decide +kernel)).trans v44
  have f0_7 : η4 0 7 = η 0 7 := v45
  have w0_0_6 : (0 : Int) ≤ η 0 6 ∧ η 0 6 ≤ 700 := wf_ok (a := 6) (b := 6) (z := (0, 700)) hp.1 (by decide +kernel) (Nat.le_refl _) (Nat.le_refl _)
  have v47 : zEq (η1 0 6) (η 0 6) := (k1.1.2.2.2.1 0 6 (by decide +kernel)).trans rfl
  have v48 : zEq (η2 0 6) (η 0 6) := (k2.1.2.2.2.1 0 6 (by decide +kernel)).trans v47
  have v49 : zEq (η3 0 6) (η 0 6) := (k4.1.2.2.2.1 0 6 (by decide +kernel)).trans v48
  have v50 : zEq (η4 0 6) (η 0 6) := (k6.1.2.2.2.1 0 6 (by decide +kernel)).trans v49
  have f0_6 : η4 0 6 = η 0 6 := v50
  have v51 : zEq (η4 0 8) (η 0 8) := (k6.1.2.2.2.1 0 8 (by decide +kernel)).trans v6
  have f0_8 : η4 0 8 = η 0 8 := v51
  have wbE : wB wl_l zTr η4 := wb4
  
  have I0 : H_l 0 0 0 η := hpp.1
  have I1 : H_l 0 0 0 η1 := k1.2.1
  have I2 : H_l 0 0 0 η2 := k2.2.1
  have qk2 : η1 0 8 = 1 := k2.2.2 c2
  have I3 : H_l 0 0 0 η3 := k4.2.1
  have I4 : H_l 0 0 0 η4 := k6.2
  exact ⟨I4.1, fun w => absurd (show (x6 : Int) = 0 by apply Int.le_antisymm <;> omega) w⟩
set_option maxHeartbeats 8000000 in
theorem zl_leafRead_o32 {ro : Nat → List Int32} (η : zE) (hp : sP wl_l zTr zPl_leafRead [] η) (hpp : pPl_leafRead [] η) : ∀ (x1 : Int) (η1 : zE), ((gC2 wl_l [(nat_lit 0, zPl_isSign, zOl_isSign, zMl_isSign), (nat_lit 1, zPl_wrong, zOl_wrong, zMl_wrong), (nat_lit 2, zPl_waitsFor0, zOl_waitsFor0, zMl_waitsFor0), (nat_lit 3, zPl_token, zOl_token, zMl_token), (nat_lit 4, zPl_isKey, zOl_isKey, zMl_isKey), (nat_lit 5, zPl_isCounted, zOl_isCounted, zMl_isCounted), (nat_lit 6, zPl_waitsFor2, zOl_waitsFor2, zMl_waitsFor2), (nat_lit 7, zPl_nameMet, zOl_nameMet, zMl_nameMet), (nat_lit 8, zPl_grown, zOl_grown, zMl_grown)] pCl_leafRead qCl_leafRead) 0).2 [40] η x1 η1 → (x1 = 0) → ∀ (x2 : Int) (η2 : zE), ((gC2 wl_l [(nat_lit 0, zPl_isSign, zOl_isSign, zMl_isSign), (nat_lit 1, zPl_wrong, zOl_wrong, zMl_wrong), (nat_lit 2, zPl_waitsFor0, zOl_waitsFor0, zMl_waitsFor0), (nat_lit 3, zPl_token, zOl_token, zMl_token), (nat_lit 4, zPl_isKey, zOl_isKey, zMl_isKey), (nat_lit 5, zPl_isCounted, zOl_isCounted, zMl_isCounted), (nat_lit 6, zPl_waitsFor2, zOl_waitsFor2, zMl_waitsFor2), (nat_lit 7, zPl_nameMet, zOl_nameMet, zMl_nameMet), (nat_lit 8, zPl_grown, zOl_grown, zMl_grown)] pCl_leafRead qCl_leafRead) 4).2 [12] η1 x2 η2 → (¬ x2 = 0) → ∀ x3 : Int, x3 = η2 0 (Int.toNat 46) → zok 1 x3 → (¬ x3 = 0) → ((gC2 wl_l [(nat_lit 0, zPl_isSign, zOl_isSign, zMl_isSign), (nat_lit 1, zPl_wrong, zOl_wrong, zMl_wrong), (nat_lit 2, zPl_waitsFor0, zOl_waitsFor0, zMl_waitsFor0), (nat_lit 3, zPl_token, zOl_token, zMl_token), (nat_lit 4, zPl_isKey, zOl_isKey, zMl_isKey), (nat_lit 5, zPl_isCounted, zOl_isCounted, zMl_isCounted), (nat_lit 6, zPl_waitsFor2, zOl_waitsFor2, zMl_waitsFor2), (nat_lit 7, zPl_nameMet, zOl_nameMet, zMl_nameMet), (nat_lit 8, zPl_grown, zOl_grown, zMl_grown)] pCl_leafRead qCl_leafRead) 5).1 [] η2 := by
  have hw : η 0 45 = 1 := hpp.2
  have hs : η 0 7 ≤ η 0 6 := hpp.1.1.1.1
  have bd43 : (0 : Int) ≤ η 0 43 ∧ η 0 43 ≤ 8 := wf_ok (a := 43) (b := 43) (z := (0, 8)) hp.1 (by decide +kernel) (Nat.le_refl _) (Nat.le_refl _)
  have bd44 : (0 : Int) ≤ η 0 44 ∧ η 0 44 ≤ 64 := wf_ok (a := 44) (b := 44) (z := (0, 64)) hp.1 (by decide +kernel) (Nat.le_refl _) (Nat.le_refl _)
  have bd19 : (0 : Int) ≤ η 0 19 ∧ η 0 19 ≤ 64 := wf_ok (a := 19) (b := 19) (z := (0, 64)) hp.1 (by decide +kernel) (Nat.le_refl _) (Nat.le_refl _)
  intro x1 η1 h1 c1 x2 η2 h2 c2 x3 e3 r3 c3
  have k1 : sQ wl_l zTr zOl_isSign zMl_isSign [40] η x1 η1 ∧ pQl_isSign [40] η x1 η1 := h1
  have k2 : sQ wl_l zTr zOl_isKey zMl_isKey [12] η1 x2 η2 ∧ pQl_isKey [12] η1 x2 η2 := h2
  have w0_0_8 : (0 : Int) ≤ η 0 8 ∧ η 0 8 ≤ 6 := wf_ok (a := 8) (b := 8) (z := (0, 6)) hp.1 (by decide +kernel) (Nat.le_refl _) (Nat.le_refl _)
  have c0_0_8 : η 0 8 = η 0 8 := rfl
  have wb1 : wB wl_l zTr η1 := k1.1.1
  have bx1 : (0 : Int) ≤ x1 ∧ x1 ≤ 1 := k1.1.2.1
  have v1 : zEq (η1 0 8) (η 0 8) := (k1.1.2.2.2.1 0 8 (by decide +kernel)).trans rfl
  have c1_0_8 : η1 0 8 = η 0 8 := v1
  have wb2 : wB wl_l zTr η2 := k2.1.1
  have bx2 : (0 : Int) ≤ x2 ∧ x2 ≤ 1 := k2.1.2.1
  have v3 : zEq (η1 0 46) (η 0 46) := (k1.1.2.2.2.1 0 46 (by decide +kernel)).trans rfl
  have v4 : zEq (η2 0 46) (η 0 46) := (k2.1.2.2.2.1 0 46 (by decide +kernel)).trans v3
  replace e3 : x3 = η 0 46 := e3.trans v4
  replace r3 : 0 ≤ x3 ∧ x3 ≤ 1 := r3
  have fm1 : zFm zMl_leafRead η η1 := zFm_tr2 zFm_rf k1.1.2.2.2.1 (by decide +kernel)
  have fm2 : zFm zMl_leafRead η η2 := zFm_tr2 fm1 k2.1.2.2.2.1 (by decide +kernel)
  have fmE : zFm zMl_leafRead η η2 := fm2
  have fr22_0 : ∀ j, η 22 j = η 22 j := fun _ => rfl
  have v5 : ∀ j, η1 22 j = η 22 j := fun j => k1.1.2.2.2.1 22 _ (zinr_not (by decide +kernel))
  have fr22_1 : ∀ j, η1 22 j = η 22 j := v5
  have v6 : ∀ j, η2 22 j = η 22 j := fun j => (k2.1.2.2.2.1 22 _ (zinr_not (by decide +kernel))).trans (v5 j)
  have fr22_2 : ∀ j, η2 22 j = η 22 j := v6
  have fr22 : ∀ j, η2 22 j = η 22 j := v6
  have v8 : zEq (η1 0 41) (η 0 41) := (k1.1.2.2.2.1 0 41 (by decide +kernel)).trans rfl
  have v9 : zEq (η2 0 41) (η 0 41) := (k2.1.2.2.2.1 0 41 (by decide +kernel)).trans v8
  have f0_41 : η2 0 41 = η 0 41 := v9
  have w0_0_43 : (0 : Int) ≤ η 0 43 ∧ η 0 43 ≤ 8 := wf_ok (a := 43) (b := 43) (z := (0, 8)) hp.1 (by decide +kernel) (Nat.le_refl _) (Nat.le_refl _)
  have v11 : zEq (η1 0 43) (η 0 43) := (k1.1.2.2.2.1 0 43 (by decide +kernel)).trans rfl
  have v12 : zEq (η2 0 43) (η 0 43) := (k2.1.2.2.2.1 0 43 (by decide +kernel)).trans v11
  have f0_43 : η2 0 43 = η 0 43 := v12
  have v14 : zEq (η1 0 42) (η 0 42) := (k1.1.2.2.2.1 0 42 (by decide +kernel)).trans rfl
  have v15 : zEq (η2 0 42) (η 0 42) := (k2.1.2.2.2.1 0 42 (by decide +kernel)).trans v14
  have f0_42 : η2 0 42 = η 0 42 := v15
  have v17 : zEq (η1 0 45) (η 0 45) := (k1.1.2.2.2.1 0 45 (by decide +kernel)).trans rfl
  have v18 : zEq (η2 0 45) (η 0 45) := (k2.1.2.2.2.1 0 45 (by decide +kernel)).trans v17
  have f0_45 : η2 0 45 = η 0 45 := v18
  have w0_0_19 : (0 : Int) ≤ η 0 19 ∧ η 0 19 ≤ 64 := wf_ok (a := 19) (b := 19) (z := (0, 64)) hp.1 (by decide +kernel) (Nat.le_refl _) (Nat.le_refl _)
  have v20 : zEq (η1 0 19) (η 0 19) := (k1.1.2.2.2.1 0 19 (by decide +kernel)).trans rfl
  have v21 : zEq (η2 0 19) (η 0 19) := (k2.1.2.2.2.1 0 19 (by decide +kernel)).trans v20
  have f0_19 : η2 0 19 = η 0 19 := v21
  have w0_0_44 : (0 : Int) ≤ η 0 44 ∧ η 0 44 ≤ 64 := wf_ok (a := 44) (b := 44) (z := (0, 64)) hp.1 (by decide +kernel) (Nat.le_refl _) (Nat.le_refl _)
  have v23 : zEq (η1 0 44) (η 0 44) := (k1.1.2.2.2.1 0 44 (by decide +kernel)).trans rfl
  have v24 : zEq (η2 0 44) (η 0 44) := (k2.1.2.2.2.1 0 44 (by decide +kernel)).trans v23
  have f0_44 : η2 0 44 = η 0 44 := v24
  have w0_0_7 : (0 : Int) ≤ η 0 7 ∧ η 0 7 ≤ 700 := wf_ok (a := 7) (b := 7) (z := (0, 700)) hp.1 (by decide +kernel) (Nat.le_refl _) (Nat.le_refl _)
  have v26 : zEq (η1 0 7) (η 0 7) := (k1.1.2.2.2.1 0 7 (by decide +kernel)).trans rfl
  have v27 : zEq (η2 0 7) (η 0 7) := (k2.1.2.2.2.1 0 7 (by decide +kernel)).trans v26
  have f0_7 : η2 0 7 = η 0 7 := v27
  have w0_0_6 : (0 : Int) ≤ η 0 6 ∧ η 0 6 ≤ 700 := wf_ok (a := 6) (b := 6) (z := (0, 700)) hp.1 (by decide +kernel) (Nat.le_refl _) (Nat.le_refl _)
  have v29 : zEq (η1 0 6) (η 0 6) := (k1.1.2.2.2.1 0 6 (by decide +kernel)).trans rfl
  have v30 : zEq (η2 0 6) (η 0 6) := (k2.1.2.2.2.1 0 6 (by decide +kernel)).trans v29
  have f0_6 : η2 0 6 = η 0 6 := v30
  have v31 : zEq (η2 0 8) (η 0 8) := (k2.1.2.2.2.1 0 8 (by decide +kernel)).trans v1
  have f0_8 : η2 0 8 = η 0 8 := v31
  have wbE : wB wl_l zTr η2 := wb2
  
  have I0 : H_l 0 0 0 η := hpp.1
  have I1 : H_l 0 0 0 η1 := k1.2.1
  have I2 : H_l 0 0 0 η2 := k2.2.1
  have qk2 : η1 0 8 = 1 := k2.2.2 c2
  exact I2
set_option maxHeartbeats 8000000 in
theorem zl_leafRead_o33 {ro : Nat → List Int32} (η : zE) (hp : sP wl_l zTr zPl_leafRead [] η) (hpp : pPl_leafRead [] η) : ∀ (x1 : Int) (η1 : zE), ((gC2 wl_l [(nat_lit 0, zPl_isSign, zOl_isSign, zMl_isSign), (nat_lit 1, zPl_wrong, zOl_wrong, zMl_wrong), (nat_lit 2, zPl_waitsFor0, zOl_waitsFor0, zMl_waitsFor0), (nat_lit 3, zPl_token, zOl_token, zMl_token), (nat_lit 4, zPl_isKey, zOl_isKey, zMl_isKey), (nat_lit 5, zPl_isCounted, zOl_isCounted, zMl_isCounted), (nat_lit 6, zPl_waitsFor2, zOl_waitsFor2, zMl_waitsFor2), (nat_lit 7, zPl_nameMet, zOl_nameMet, zMl_nameMet), (nat_lit 8, zPl_grown, zOl_grown, zMl_grown)] pCl_leafRead qCl_leafRead) 0).2 [40] η x1 η1 → (x1 = 0) → ∀ (x2 : Int) (η2 : zE), ((gC2 wl_l [(nat_lit 0, zPl_isSign, zOl_isSign, zMl_isSign), (nat_lit 1, zPl_wrong, zOl_wrong, zMl_wrong), (nat_lit 2, zPl_waitsFor0, zOl_waitsFor0, zMl_waitsFor0), (nat_lit 3, zPl_token, zOl_token, zMl_token), (nat_lit 4, zPl_isKey, zOl_isKey, zMl_isKey), (nat_lit 5, zPl_isCounted, zOl_isCounted, zMl_isCounted), (nat_lit 6, zPl_waitsFor2, zOl_waitsFor2, zMl_waitsFor2), (nat_lit 7, zPl_nameMet, zOl_nameMet, zMl_nameMet), (nat_lit 8, zPl_grown, zOl_grown, zMl_grown)] pCl_leafRead qCl_leafRead) 4).2 [12] η1 x2 η2 → (¬ x2 = 0) → ∀ x3 : Int, x3 = η2 0 (Int.toNat 46) → zok 1 x3 → (¬ x3 = 0) → ∀ (x4 : Int) (η3 : zE), ((gC2 wl_l [(nat_lit 0, zPl_isSign, zOl_isSign, zMl_isSign), (nat_lit 1, zPl_wrong, zOl_wrong, zMl_wrong), (nat_lit 2, zPl_waitsFor0, zOl_waitsFor0, zMl_waitsFor0), (nat_lit 3, zPl_token, zOl_token, zMl_token), (nat_lit 4, zPl_isKey, zOl_isKey, zMl_isKey), (nat_lit 5, zPl_isCounted, zOl_isCounted, zMl_isCounted), (nat_lit 6, zPl_waitsFor2, zOl_waitsFor2, zMl_waitsFor2), (nat_lit 7, zPl_nameMet, zOl_nameMet, zMl_nameMet), (nat_lit 8, zPl_grown, zOl_grown, zMl_grown)] pCl_leafRead qCl_leafRead) 5).2 [] η2 x4 η3 → (¬ x4 = 0) → ((gC2 wl_l [(nat_lit 0, zPl_isSign, zOl_isSign, zMl_isSign), (nat_lit 1, zPl_wrong, zOl_wrong, zMl_wrong), (nat_lit 2, zPl_waitsFor0, zOl_waitsFor0, zMl_waitsFor0), (nat_lit 3, zPl_token, zOl_token, zMl_token), (nat_lit 4, zPl_isKey, zOl_isKey, zMl_isKey), (nat_lit 5, zPl_isCounted, zOl_isCounted, zMl_isCounted), (nat_lit 6, zPl_waitsFor2, zOl_waitsFor2, zMl_waitsFor2), (nat_lit 7, zPl_nameMet, zOl_nameMet, zMl_nameMet), (nat_lit 8, zPl_grown, zOl_grown, zMl_grown)] pCl_leafRead qCl_leafRead) 6).1 [] η3 := by
  have hw : η 0 45 = 1 := hpp.2
  have hs : η 0 7 ≤ η 0 6 := hpp.1.1.1.1
  have bd43 : (0 : Int) ≤ η 0 43 ∧ η 0 43 ≤ 8 := wf_ok (a := 43) (b := 43) (z := (0, 8)) hp.1 (by decide +kernel) (Nat.le_refl _) (Nat.le_refl _)
  have bd44 : (0 : Int) ≤ η 0 44 ∧ η 0 44 ≤ 64 := wf_ok (a := 44) (b := 44) (z := (0, 64)) hp.1 (by decide +kernel) (Nat.le_refl _) (Nat.le_refl _)
  have bd19 : (0 : Int) ≤ η 0 19 ∧ η 0 19 ≤ 64 := wf_ok (a := 19) (b := 19) (z := (0, 64)) hp.1 (by decide +kernel) (Nat.le_refl _) (Nat.le_refl _)
  intro x1 η1 h1 c1 x2 η2 h2 c2 x3 e3 r3 c3 x4 η3 h4 c4
  have k1 : sQ wl_l zTr zOl_isSign zMl_isSign [40] η x1 η1 ∧ pQl_isSign [40] η x1 η1 := h1
  have k2 : sQ wl_l zTr zOl_isKey zMl_isKey [12] η1 x2 η2 ∧ pQl_isKey [12] η1 x2 η2 := h2
  have k4 : sQ wl_l zTr zOl_isCounted zMl_isCounted [] η2 x4 η3 ∧ pQl_isCounted [] η2 x4 η3 := h4
  have w0_0_8 : (0 : Int) ≤ η 0 8 ∧ η 0 8 ≤ 6 := wf_ok (a := 8) (b := 8) (z := (0, 6)) hp.1 (by decide +kernel) (Nat.le_refl _) (Nat.le_refl _)
  have c0_0_8 : η 0 8 = η 0 8 := rfl
  have wb1 : wB wl_l zTr η1 := k1.1.1
  have bx1 : (0 : Int) ≤ x1 ∧ x1 ≤ 1 := k1.1.2.1
  have v1 : zEq (η1 0 8) (η 0 8) := (k1.1.2.2.2.1 0 8 (by decide +kernel)).trans rfl
  have c1_0_8 : η1 0 8 = η 0 8 := v1
  have wb2 : wB wl_l zTr η2 := k2.1.1
  have bx2 : (0 : Int) ≤ x2 ∧ x2 ≤ 1 := k2.1.2.1
  have v3 : zEq (η1 0 46) (η 0 46) := (k1.1.2.2.2.1 0 46 (by decide +kernel)).trans rfl
  have v4 : zEq (η2 0 46) (η 0 46) := (k2.1.2.2.2.1 0 46 (by decide +kernel)).trans v3
  replace e3 : x3 = η 0 46 := e3.trans v4
  replace r3 : 0 ≤ x3 ∧ x3 ≤ 1 := r3
  have v5 : zEq (η2 0 8) (η 0 8) := (k2.1.2.2.2.1 0 8 (by decide +kernel)).trans v1
  have c2_0_8 : η2 0 8 = η 0 8 := v5
  have wb3 : wB wl_l zTr η3 := k4.1.1
  have bx4 : (0 : Int) ≤ x4 ∧ x4 ≤ 1 := k4.1.2.1
  have fm1 : zFm zMl_leafRead η η1 := zFm_tr2 zFm_rf k1.1.2.2.2.1 (by decide +kernel)
  have fm2 : zFm zMl_leafRead η η2 := zFm_tr2 fm1 k2.1.2.2.2.1 (by decide +kernel)
  have fm3 : zFm zMl_leafRead η η3 := zFm_tr2 fm2 k4.1.2.2.2.1 (by decide +kernel)
  have fmE : zFm zMl_leafRead η η3 := fm3
  have fr22_0 : ∀ j, η 22 j = η 22 j := fun _ => rfl
  have v6 : ∀ j, η1 22 j = η 22 j := fun j => k1.1.2.2.2.1 22 _ (zinr_not (by decide +kernel))
  have fr22_1 : ∀ j, η1 22 j = η 22 j := v6
  have v7 : ∀ j, η2 22 j = η 22 j := fun j => (k2.1.2.2.2.1 22 _ (zinr_not (by decide +kernel))).trans (v6 j)
  have fr22_2 : ∀ j, η2 22 j = η 22 j := v7
  have v8 : ∀ j, η3 22 j = η 22 j := fun j => (k4.1.2.2.2.1 22 _ (zinr_not (by decide +kernel))).trans (v7 j)
  have fr22_3 : ∀ j, η3 22 j = η 22 j := v8
  have fr22 : ∀ j, η3 22 j = η 22 j := v8
  have v10 : zEq (η1 0 41) (η 0 41) := (k1.1.2.2.2.1 0 41 (by decide +kernel)).trans rfl
  have v11 : zEq (η2 0 41) (η 0 41) := (k2.1.2.2.2.1 0 41 (by decide +kernel)).trans v10
  have v12 : zEq (η3 0 41) (η 0 41) := (k4.1.2.2.2.1 0 41 (by decide +kernel)).trans v11
  have f0_41 : η3 0 41 = η 0 41 := v12
  have w0_0_43 : (0 : Int) ≤ η 0 43 ∧ η 0 43 ≤ 8 := wf_ok (a := 43) (b := 43) (z := (0, 8)) hp.1 (by decide +kernel) (Nat.le_refl _) (Nat.le_refl _)
  have v14 : zEq (η1 0 43) (η 0 43) := (k1.1.2.2.2.1 0 43 (by decide +kernel)).trans rfl
  have v15 : zEq (η2 0 43) (η 0 43) := (k2.1.2.2.2.1 0 43 (by decide +kernel)).trans v14
  have v16 : zEq (η3 0 43) (η 0 43) := (k4.1.2.2.2.1 0 43 (by decide +kernel)).trans v15
  have f0_43 : η3 0 43 = η 0 43 := v16
  have v18 : zEq (η1 0 42) (η 0 42) := (k1.1.2.2.2.1 0 42 (by decide +kernel)).trans rfl
  have v19 : zEq (η2 0 42) (η 0 42) := (k2.1.2.2.2.1 0 42 (by decide +kernel)).trans v18
  have v20 : zEq (η3 0 42) (η 0 42) := (k4.1.2.2.2.1 0 42 (by decide +kernel)).trans v19
  have f0_42 : η3 0 42 = η 0 42 := v20
  have v22 : zEq (η1 0 45) (η 0 45) := (k1.1.2.2.2.1 0 45 (by decide +kernel)).trans rfl
  have v23 : zEq (η2 0 45) (η 0 45) := (k2.1.2.2.2.1 0 45 (by decide +kernel)).trans v22
  have v24 : zEq (η3 0 45) (η 0 45) := (k4.1.2.2.2.1 0 45 (by decide +kernel)).trans v23
  have f0_45 : η3 0 45 = η 0 45 := v24
  have w0_0_19 : (0 : Int) ≤ η 0 19 ∧ η 0 19 ≤ 64 := wf_ok (a := 19) (b := 19) (z := (0, 64)) hp.1 (by decide +kernel) (Nat.le_refl _) (Nat.le_refl _)
  have v26 : zEq (η1 0 19) (η 0 19) := (k1.1.2.2.2.1 0 19 (by decide +kernel)).trans rfl
  have v27 : zEq (η2 0 19) (η 0 19) := (k2.1.2.2.2.1 0 19 (by decide +kernel)).trans v26
  have v28 : zEq (η3 0 19) (η 0 19) := (k4.1.2.2.2.1 0 19 (by decide +kernel)).trans v27
  have f0_19 : η3 0 19 = η 0 19 := v28
  have w3_0_44 : (0 : Int) ≤ η3 0 44 ∧ η3 0 44 ≤ 64 := wf_ok (a := 44) (b := 44) (z := (0, 64)) k4.1.1 (by decide +kernel) (Nat.le_refl _) (Nat.le_refl _)
  have f0_44 : η3 0 44 = η3 0 44 := rfl
  have w0_0_7 : (0 : Int) ≤ η 0 7 ∧ η 0 7 ≤ 700 := wf_ok (a := 7) (b := 7) (z := (0, 700)) hp.1 (by decide +kernel) (Nat.le_refl _) (Nat.le_refl _)
  have v31 : zEq (η1 0 7) (η 0 7) := (k1.1.2.2.2.1 0 7 (by decide +kernel)).trans rfl
  have v32 : zEq (η2 0 7) (η 0 7) := (k2.1.2.2.2.1 0 7 (by decide +kernel)).trans v31
  have v33 : zEq (η3 0 7) (η 0 7) := (k4.1.2.2.2.1 0 7 (by decide +kernel)).trans v32
  have f0_7 : η3 0 7 = η 0 7 := v33
  have w0_0_6 : (0 : Int) ≤ η 0 6 ∧ η 0 6 ≤ 700 := wf_ok (a := 6) (b := 6) (z := (0, 700)) hp.1 (by decide +kernel) (Nat.le_refl _) (Nat.le_refl _)
  have v35 : zEq (η1 0 6) (η 0 6) := (k1.1.2.2.2.1 0 6 (by decide +kernel)).trans rfl
  have v36 : zEq (η2 0 6) (η 0 6) := (k2.1.2.2.2.1 0 6 (by decide +kernel)).trans v35
  have v37 : zEq (η3 0 6) (η 0 6) := (k4.1.2.2.2.1 0 6 (by decide +kernel)).trans v36
  have f0_6 : η3 0 6 = η 0 6 := v37
  have v38 : zEq (η3 0 8) (η 0 8) := (k4.1.2.2.2.1 0 8 (by decide +kernel)).trans v5
  have f0_8 : η3 0 8 = η 0 8 := v38
  have wbE : wB wl_l zTr η3 := wb3
  
  have I0 : H_l 0 0 0 η := hpp.1
  have I1 : H_l 0 0 0 η1 := k1.2.1
  have I2 : H_l 0 0 0 η2 := k2.2.1
  have qk2 : η1 0 8 = 1 := k2.2.2 c2
  have I3 : H_l 1 0 0 η3 := k4.2.1 c4
  exact I3
