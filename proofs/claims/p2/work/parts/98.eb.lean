set_option maxHeartbeats 8000000 in
theorem zl_leafRead_o0 {ro : Nat → List Int32} (η : zE) (hp : sP wl_l zTr zPl_leafRead [] η) (hpp : pPl_leafRead [] η) : ((gC2 wl_l [(nat_lit 0, zPl_isSign, zOl_isSign, zMl_isSign), (nat_lit 1, zPl_wrong, zOl_wrong, zMl_wrong), (nat_lit 2, zPl_waitsFor0, zOl_waitsFor0, zMl_waitsFor0), (nat_lit 3, zPl_token, zOl_token, zMl_token), (nat_lit 4, zPl_isKey, zOl_isKey, zMl_isKey), (nat_lit 5, zPl_isCounted, zOl_isCounted, zMl_isCounted), (nat_lit 6, zPl_waitsFor2, zOl_waitsFor2, zMl_waitsFor2), (nat_lit 7, zPl_nameMet, zOl_nameMet, zMl_nameMet), (nat_lit 8, zPl_grown, zOl_grown, zMl_grown)] pCl_leafRead qCl_leafRead) 0).1 [40] η := by
  have hw : η 0 45 = 1 := hpp.2
  have hs : η 0 7 ≤ η 0 6 := hpp.1.1.1.1
  have bd43 : (0 : Int) ≤ η 0 43 ∧ η 0 43 ≤ 8 := wf_ok (a := 43) (b := 43) (z := (0, 8)) hp.1 (by decide +kernel) (Nat.le_refl _) (Nat.le_refl _)
  have bd44 : (0 : Int) ≤ η 0 44 ∧ η 0 44 ≤ 64 := wf_ok (a := 44) (b := 44) (z := (0, 64)) hp.1 (by decide +kernel) (Nat.le_refl _) (Nat.le_refl _)
  have bd19 : (0 : Int) ≤ η 0 19 ∧ η 0 19 ≤ 64 := wf_ok (a := 19) (b := 19) (z := (0, 64)) hp.1 (by decide +kernel) (Nat.le_refl _) (Nat.le_refl _)
  have fmE : zFm zMl_leafRead η η := zFm_rf
  have fr22_0 : ∀ j, η 22 j = η 22 j := fun _ => rfl
  have fr22 : ∀ j, η 22 j = η 22 j := fun _ => rfl
  have f0_41 : η 0 41 = η 0 41 := rfl
  have w0_0_43 : (0 : Int) ≤ η 0 43 ∧ η 0 43 ≤ 8 := wf_ok (a := 43) (b := 43) (z := (0, 8)) hp.1 (by decide +kernel) (Nat.le_refl _) (Nat.le_refl _)
  have f0_43 : η 0 43 = η 0 43 := rfl
  have f0_42 : η 0 42 = η 0 42 := rfl
  have f0_45 : η 0 45 = η 0 45 := rfl
  have w0_0_19 : (0 : Int) ≤ η 0 19 ∧ η 0 19 ≤ 64 := wf_ok (a := 19) (b := 19) (z := (0, 64)) hp.1 (by decide +kernel) (Nat.le_refl _) (Nat.le_refl _)
  have f0_19 : η 0 19 = η 0 19 := rfl
  have w0_0_44 : (0 : Int) ≤ η 0 44 ∧ η 0 44 ≤ 64 := wf_ok (a := 44) (b := 44) (z := (0, 64)) hp.1 (by decide +kernel) (Nat.le_refl _) (Nat.le_refl _)
  have f0_44 : η 0 44 = η 0 44 := rfl
  have w0_0_7 : (0 : Int) ≤ η 0 7 ∧ η 0 7 ≤ 700 := wf_ok (a := 7) (b := 7) (z := (0, 700)) hp.1 (by decide +kernel) (Nat.le_refl _) (Nat.le_refl _)
  have f0_7 : η 0 7 = η 0 7 := rfl
  have w0_0_6 : (0 : Int) ≤ η 0 6 ∧ η 0 6 ≤ 700 := wf_ok (a := 6) (b := 6) (z := (0, 700)) hp.1 (by decide +kernel) (Nat.le_refl _) (Nat.le_refl _)
  have f0_6 : η 0 6 = η 0 6 := rfl
  have w0_0_8 : (0 : Int) ≤ η 0 8 ∧ η 0 8 ≤ 6 := wf_ok (a := 8) (b := 8) (z := (0, 6)) hp.1 (by decide +kernel) (Nat.le_refl _) (Nat.le_refl _)
  have f0_8 : η 0 8 = η 0 8 := rfl
  have wbE : wB wl_l zTr η := hp.1
  
  have I0 : H_l 0 0 0 η := hpp.1
  exact I0
set_option maxHeartbeats 8000000 in
theorem zl_leafRead_o1 {ro : Nat → List Int32} (η : zE) (hp : sP wl_l zTr zPl_leafRead [] η) (hpp : pPl_leafRead [] η) : ∀ (x1 : Int) (η1 : zE), ((gC2 wl_l [(nat_lit 0, zPl_isSign, zOl_isSign, zMl_isSign), (nat_lit 1, zPl_wrong, zOl_wrong, zMl_wrong), (nat_lit 2, zPl_waitsFor0, zOl_waitsFor0, zMl_waitsFor0), (nat_lit 3, zPl_token, zOl_token, zMl_token), (nat_lit 4, zPl_isKey, zOl_isKey, zMl_isKey), (nat_lit 5, zPl_isCounted, zOl_isCounted, zMl_isCounted), (nat_lit 6, zPl_waitsFor2, zOl_waitsFor2, zMl_waitsFor2), (nat_lit 7, zPl_nameMet, zOl_nameMet, zMl_nameMet), (nat_lit 8, zPl_grown, zOl_grown, zMl_grown)] pCl_leafRead qCl_leafRead) 0).2 [40] η x1 η1 → (x1 = 0) → ((gC2 wl_l [(nat_lit 0, zPl_isSign, zOl_isSign, zMl_isSign), (nat_lit 1, zPl_wrong, zOl_wrong, zMl_wrong), (nat_lit 2, zPl_waitsFor0, zOl_waitsFor0, zMl_waitsFor0), (nat_lit 3, zPl_token, zOl_token, zMl_token), (nat_lit 4, zPl_isKey, zOl_isKey, zMl_isKey), (nat_lit 5, zPl_isCounted, zOl_isCounted, zMl_isCounted), (nat_lit 6, zPl_waitsFor2, zOl_waitsFor2, zMl_waitsFor2), (nat_lit 7, zPl_nameMet, zOl_nameMet, zMl_nameMet), (nat_lit 8, zPl_grown, zOl_grown, zMl_grown)] pCl_leafRead qCl_leafRead) 4).1 [12] η1 := by
  have hw : η 0 45 = 1 := hpp.2
  have hs : η 0 7 ≤ η 0 6 := hpp.1.1.1.1
  have bd43 : (0 : Int) ≤ η 0 43 ∧ η 0 43 ≤ 8 := wf_ok (a := 43) (b := 43) (z := (0, 8)) hp.1 (by decide +kernel) (Nat.le_refl _) (Nat.le_refl _)
  have bd44 : (0 : Int) ≤ η 0 44 ∧ η 0 44 ≤ 64 := wf_ok (a := 44) (b := 44) (z := (0, 64)) hp.1 (by decide +kernel) (Nat.le_refl _) (Nat.le_refl _)
  have bd19 : (0 : Int) ≤ η 0 19 ∧ η 0 19 ≤ 64 := wf_ok (a := 19) (b := 19) (z := (0, 64)) hp.1 (by decide +kernel) (Nat.le_refl _) (Nat.le_refl _)
  intro x1 η1 h1 c1
  have k1 : sQ wl_l zTr zOl_isSign zMl_isSign [40] η x1 η1 ∧ pQl_isSign [40] η x1 η1 := h1
  have c0_0_41 : η 0 41 = η 0 41 := rfl
  have w0_0_43 : (0 : Int) ≤ η 0 43 ∧ η 0 43 ≤ 8 := wf_ok (a := 43) (b := 43) (z := (0, 8)) hp.1 (by decide +kernel) (Nat.le_refl _) (Nat.le_refl _)
  have c0_0_43 : η 0 43 = η 0 43 := rfl
  have c0_0_42 : η 0 42 = η 0 42 := rfl
  have c0_0_45 : η 0 45 = η 0 45 := rfl
  have w0_0_19 : (0 : Int) ≤ η 0 19 ∧ η 0 19 ≤ 64 := wf_ok (a := 19) (b := 19) (z := (0, 64)) hp.1 (by decide +kernel) (Nat.le_refl _) (Nat.le_refl _)
  have c0_0_19 : η 0 19 = η 0 19 := rfl
  have w0_0_44 : (0 : Int) ≤ η 0 44 ∧ η 0 44 ≤ 64 := wf_ok (a := 44) (b := 44) (z := (0, 64)) hp.1 (by decide +kernel) (Nat.le_refl _) (Nat.le_refl _)
  have c0_0_44 : η 0 44 = η 0 44 := rfl
  have w0_0_7 : (0 : Int) ≤ η 0 7 ∧ η 0 7 ≤ 700 := wf_ok (a := 7) (b := 7) (z := (0, 700)) hp.1 (by decide +kernel) (Nat.le_refl _) (Nat.le_refl _)
  have c0_0_7 : η 0 7 = η 0 7 := rfl
  have w0_0_6 : (0 : Int) ≤ η 0 6 ∧ η 0 6 ≤ 700 := wf_ok (a := 6) (b := 6) (z := (0, 700)) hp.1 (by decide +kernel) (Nat.le_refl _) (Nat.le_refl _)
  have c0_0_6 : η 0 6 = η 0 6 := rfl
  have w0_0_8 : (0 : Int) ≤ η 0 8 ∧ η 0 8 ≤ 6 := wf_ok (a := 8) (b := 8) (z := (0, 6)) hp.1 (by decide +kernel) (Nat.le_refl _) (Nat.le_refl _)
  have c0_0_8 : η 0 8 = η 0 8 := rfl
  have wb1 : wB wl_l zTr η1 := k1.1.1
  have bx1 : (0 : Int) ≤ x1 ∧ x1 ≤ 1 := k1.1.2.1
  have fm1 : zFm zMl_leafRead η η1 := zFm_tr2 zFm_rf k1.1.2.2.2.1 (by decide +kernel)
  have fmE : zFm zMl_leafRead η η1 := fm1
  have fr22_0 : ∀ j, η 22 j = η 22 j := fun _ => rfl
  have v9 : ∀ j, η1 22 j = η 22 j := fun j => k1.1.2.2.2.1 22 _ (zinr_not (by decide +kernel))
  have fr22_1 : ∀ j, η1 22 j = η 22 j := v9
  have fr22 : ∀ j, η1 22 j = η 22 j := v9
  have v10 : zEq (η1 0 41) (η 0 41) := (k1.1.2.2.2.1 0 41 (by decide +kernel)).trans rfl
  have f0_41 : η1 0 41 = η 0 41 := v10
  have v11 : zEq (η1 0 43) (η 0 43) := (k1.1.2.2.2.1 0 43 (by decide +kernel)).trans rfl
  have f0_43 : η1 0 43 = η 0 43 := v11
  have v12 : zEq (η1 0 42) (η 0 42) := (k1.1.2.2.2.1 0 42 (by decide +kernel)).trans rfl
  have f0_42 : η1 0 42 = η 0 42 := v12
  have v13 : zEq (η1 0 45) (η 0 45) := (k1.1.2.2.2.1 0 45 (by decide +kernel)).trans rfl
  have f0_45 : η1 0 45 = η 0 45 := v13
  have v14 : zEq (η1 0 19) (η 0 19) := (k1.1.2.2.2.1 0 19 (by decide +kernel)).trans rfl
  have f0_19 : η1 0 19 = η 0 19 := v14
  have v15 : zEq (η1 0 44) (η 0 44) := (k1.1.2.2.2.1 0 44 (by decide +kernel)).trans rfl
  have f0_44 : η1 0 44 = η 0 44 := v15
  have v16 : zEq (η1 0 7) (η 0 7) := (k1.1.2.2.2.1 0 7 (by decide +kernel)).trans rfl
  have f0_7 : η1 0 7 = η 0 7 := v16
  have v17 : zEq (η1 0 6) (η 0 6) := (k1.1.2.2.2.1 0 6 (by decide +kernel)).trans rfl
  have f0_6 : η1 0 6 = η 0 6 := v17
  have v18 : zEq (η1 0 8) (η 0 8) := (k1.1.2.2.2.1 0 8 (by decide +kernel)).trans rfl
  have f0_8 : η1 0 8 = η 0 8 := v18
  have wbE : wB wl_l zTr η1 := wb1
  
  have I0 : H_l 0 0 0 η := hpp.1
  have I1 : H_l 0 0 0 η1 := k1.2.1
  exact I1
set_option maxHeartbeats 8000000 in
theorem zl_leafRead_o2 {ro : Nat → List Int32} (η : zE) (hp : sP wl_l zTr zPl_leafRead [] η) (hpp : pPl_leafRead [] η) : ∀ (x1 : Int) (η1 : zE), ((gC2 wl_l [(nat_lit 0, zPl_isSign, zOl_isSign, zMl_isSign), (nat_lit 1, zPl_wrong, zOl_wrong, zMl_wrong), (nat_lit 2, zPl_waitsFor0, zOl_waitsFor0, zMl_waitsFor0), (nat_lit 3, zPl_token, zOl_token, zMl_token), (nat_lit 4, zPl_isKey, zOl_isKey, zMl_isKey), (nat_lit 5, zPl_isCounted, zOl_isCounted, zMl_isCounted), (nat_lit 6, zPl_waitsFor2, zOl_waitsFor2, zMl_waitsFor2), (nat_lit 7, zPl_nameMet, zOl_nameMet, zMl_nameMet), (nat_lit 8, zPl_grown, zOl_grown, zMl_grown)] pCl_leafRead qCl_leafRead) 0).2 [40] η x1 η1 → (x1 = 0) → ∀ (x2 : Int) (η2 : zE), ((gC2 wl_l [(nat_lit 0, zPl_isSign, zOl_isSign, zMl_isSign), (nat_lit 1, zPl_wrong, zOl_wrong, zMl_wrong), (nat_lit 2, zPl_waitsFor0, zOl_waitsFor0, zMl_waitsFor0), (nat_lit 3, zPl_token, zOl_token, zMl_token), (nat_lit 4, zPl_isKey, zOl_isKey, zMl_isKey), (nat_lit 5, zPl_isCounted, zOl_isCounted, zMl_isCounted), (nat_lit 6, zPl_waitsFor2, zOl_waitsFor2, zMl_waitsFor2), (nat_lit 7, zPl_nameMet, zOl_nameMet, zMl_nameMet), (nat_lit 8, zPl_grown, zOl_grown, zMl_grown)] pCl_leafRead qCl_leafRead) 4).2 [12] η1 x2 η2 → (x2 = 0) → ((gC2 wl_l [(nat_lit 0, zPl_isSign, zOl_isSign, zMl_isSign), (nat_lit 1, zPl_wrong, zOl_wrong, zMl_wrong), (nat_lit 2, zPl_waitsFor0, zOl_waitsFor0, zMl_waitsFor0), (nat_lit 3, zPl_token, zOl_token, zMl_token), (nat_lit 4, zPl_isKey, zOl_isKey, zMl_isKey), (nat_lit 5, zPl_isCounted, zOl_isCounted, zMl_isCounted), (nat_lit 6, zPl_waitsFor2, zOl_waitsFor2, zMl_waitsFor2), (nat_lit 7, zPl_nameMet, zOl_nameMet, zMl_nameMet), (nat_lit 8, zPl_grown, zOl_grown, zMl_grown)] pCl_leafRead qCl_leafRead) 7).1 [] η2 := by
  have hw : η 0 45 = 1 := hpp.2
  have hs : η 0 7 ≤ η 0 6 := hpp.1.1.1.1
  have bd43 : (0 : Int) ≤ η 0 43 ∧ η 0 43 ≤ 8 := wf_ok (a := 43) (b := 43) (z := (0, 8)) hp.1 (by decide +kernel) (Nat.le_refl _) (Nat.le_refl _)
  have bd44 : (0 : Int) ≤ η 0 44 ∧ η 0 44 ≤ 64 := wf_ok (a := 44) (b := 44) (z := (0, 64)) hp.1 (by decide +kernel) (Nat.le_refl _) (Nat.le_refl _)
  have bd19 : (0 : Int) ≤ η 0 19 ∧ η 0 19 ≤ 64 := wf_ok (a := 19) (b := 19) (z := (0, 64)) hp.1 (by decide +kernel) (Nat.le_refl _) (Nat.le_refl _)
  intro x1 η1 h1 c1 x2 η2 h2 c2
  have k1 : sQ wl_l zTr zOl_isSign zMl_isSign [40] η x1 η1 ∧ pQl_isSign [40] η x1 η1 := h1
  have k2 : sQ wl_l zTr zOl_isKey zMl_isKey [12] η1 x2 η2 ∧ pQl_isKey [12] η1 x2 η2 := h2
  have c0_0_41 : η 0 41 = η 0 41 := rfl
  have w0_0_43 : (0 : Int) ≤ η 0 43 ∧ η 0 43 ≤ 8 := wf_ok (a := 43) (b := 43) (z := (0, 8)) hp.1 (by decide +kernel) (Nat.le_refl _) (Nat.le_refl _)
  have c0_0_43 : η 0 43 = η 0 43 := rfl
  have c0_0_42 : η 0 42 = η 0 42 := rfl
  have c0_0_45 : η 0 45 = η 0 45 := rfl
  have w0_0_19 : (0 : Int) ≤ η 0 19 ∧ η 0 19 ≤ 64 := wf_ok (a := 19) (b := 19) (z := (0, 64)) hp.1 (by decide +kernel) (Nat.le_refl _) (Nat.le_refl _)
  have c0_0_19 : η 0 19 = η 0 19 := rfl
  have w0_0_44 : (0 : Int) ≤ η 0 44 ∧ η 0 44 ≤ 64 := wf_ok (a := 44) (b := 44) (z := (0, 64)) hp.1 (by decide +kernel) (Nat.le_refl _) (Nat.le_refl _)
  have c0_0_44 : η 0 44 = η 0 44 := rfl
  have w0_0_7 : (0 : Int) ≤ η 0 7 ∧ η 0 7 ≤ 700 := wf_ok (a := 7) (b := 7) (z := (0, 700)) hp.1 (by decide +kernel) (Nat.le_refl _) (Nat.le_refl _)
  have c0_0_7 : η 0 7 = η 0 7 := rfl
  have w0_0_6 : (0 : Int) ≤ η 0 6 ∧ η 0 6 ≤ 700 := wf_ok (a := 6) (b := 6) (z := (0, 700)) hp.1 (by decide +kernel) (Nat.le_refl _) (Nat.le_refl _)
  have c0_0_6 : η 0 6 = η 0 6 := rfl
  have w0_0_8 : (0 : Int) ≤ η 0 8 ∧ η 0 8 ≤ 6 := wf_ok (a := 8) (b := 8) (z := (0, 6)) hp.1 (by decide +kernel) (Nat.le_refl _) (Nat.le_refl _)
  have c0_0_8 : η 0 8 = η 0 8 := rfl
  have wb1 : wB wl_l zTr η1 := k1.1.1
  have bx1 : (0 : Int) ≤ x1 ∧ x1 ≤ 1 := k1.1.2.1
  have v9 : zEq (η1 0 41) (η 0 41) := (k1.1.2.2.2.1 0 41 (by decide +kernel)).trans rfl
  have c1_0_41 : η1 0 41 = η 0 41 := v9
  have v10 : zEq (η1 0 43) (η 0 43) := (k1.1.2.2.2.1 0 43 (by decide +kernel)).trans rfl
  have c1_0_43 : η1 0 43 = η 0 43 := v10
  have v11 : zEq (η1 0 42) (η 0 42) := (k1.1.2.2.2.1 0 42 (by decide +kernel)).trans rfl
  have c1_0_42 : η1 0 42 = η 0 42 := v11
  have v12 : zEq (η1 0 45) (η 0 45) := (k1.1.2.2.2.1 0 45 (by decide +kernel)).trans rfl
  have c1_0_45 : η1 0 45 = η 0 45 := v12
  have v13 : zEq (η1 0 19) (η 0 19) := (k1.1.2.2.2.1 0 19 (by decide +kernel)).trans rfl
  have c1_0_19 : η1 0 19 = η 0 19 := v13
  have v14 : zEq (η1 0 44) (η 0 44) := (k1.1.2.2.2.1 0 44 (by decide +kernel)).trans rfl
  have c1_0_44 : η1 0 44 = η 0 44 := v14
  have v15 : zEq (η1 0 7) (η 0 7) := (k1.1.2.2.2.1 0 7 (by decide +kernel)).trans rfl
  have c1_0_7 : η1 0 7 = η 0 7 := v15
  have v16 : zEq (η1 0 6) (η 0 6) := (k1.1.2.2.2.1 0 6 (by decide +kernel)).trans rfl
  have c1_0_6 : η1 0 6 = η 0 6 := v16
  have v17 : zEq (η1 0 8) (η 0 8) := (k1.1.2.2.2.1 0 8 (by decide +kernel)).trans rfl
  have c1_0_8 : η1 0 8 = η 0 8 := v17
  have wb2 : wB wl_l zTr η2 := k2.1.1
  have bx2 : (0 : Int) ≤ x2 ∧ x2 ≤ 1 := k2.1.2.1
  have fm1 : zFm zMl_leafRead η η1 := zFm_tr2 zFm_rf k1.1.2.2.2.1 (by decide +kernel)
  have fm2 : zFm zMl_leafRead η η2 := zFm_tr2 fm1 k2.1.2.2.2.1 (by decide +kernel)
  have fmE : zFm zMl_leafRead η η2 := fm2
  have fr22_0 : ∀ j, η 22 j = η 22 j := fun _ => rfl
  have v18 : ∀ j, η1 22 j = η 22 j := fun j => k1.1.2.2.2.1 22 _ (zinr_not (by decide +kernel))
  have fr22_1 : ∀ j, η1 22 j = η 22 j := v18
  have v19 : ∀ j, η2 22 j = η 22 j := fun j => (k2.1.2.2.2.1 22 _ (zinr_not (by decide +kernel))).trans (v18 j)
  have fr22_2 : ∀ j, η2 22 j = η 22 j := v19
  have fr22 : ∀ j, η2 22 j = η 22 j := v19
  have v20 : zEq (η2 0 41) (η 0 41) := (k2.1.2.2.2.1 0 41 (by decide +kernel)).trans v9
  have f0_41 : η2 0 41 = η 0 41 := v20
  have v21 : zEq (η2 0 43) (η 0 43) := (k2.1.2.2.2.1 0 43 (by decide +kernel)).trans v10
  have f0_43 : η2 0 43 = η 0 43 := v21
  have v22 : zEq (η2 0 42) (η 0 42) := (k2.1.2.2.2.1 0 42 (by decide +kernel)).trans v11
  have f0_42 : η2 0 42 = η 0 42 := v22
  have v23 : zEq (η2 0 45) (η 0 45) := (k2.1.2.2.2.1 0 45 (by decide +kernel)).trans v12
  have f0_45 : η2 0 45 = η 0 45 := v23
  have v24 : zEq (η2 0 19) (η 0 19) := (k2.1.2.2.2.1 0 19 (by decide +kernel)).trans v13
  have f0_19 : η2 0 19 = η 0 19 := v24
  have v25 : zEq (η2 0 44) (η 0 44) := (k2.1.2.2.2.1 0 44 (by decide +kernel)).trans v14
  have f0_44 : η2 0 44 = η 0 44 := v25
  have v26 : zEq (η2 0 7) (η 0 7) := (k2.1.2.2.2.1 0 7 (by decide +kernel)).trans v15
  have f0_7 : η2 0 7 = η 0 7 := v26
  have v27 : zEq (η2 0 6) (η 0 6) := (k2.1.2.2.2.1 0 6 (by decide +kernel)).trans v16
  have f0_6 : η2 0 6 = η 0 6 := v27
  have v28 : zEq (η2 0 8) (η 0 8) := (k2.1.2.2.2.1 0 8 (by decide +kernel)).trans v17
  have f0_8 : η2 0 8 = η 0 8 := v28
  have wbE : wB wl_l zTr η2 := wb2
  
  have I0 : H_l 0 0 0 η := hpp.1
  have I1 : H_l 0 0 0 η1 := k1.2.1
  have I2 : H_l 0 0 0 η2 := k2.2.1
  exact I2
set_option maxHeartbeats 8000000 in
theorem zl_leafRead_o3 {ro : Nat → List Int32} (η : zE) (hp : sP wl_l zTr zPl_leafRead [] η) (hpp : pPl_leafRead [] η) : ∀ (x1 : Int) (η1 : zE), ((gC2 wl_l [(nat_lit 0, zPl_isSign, zOl_isSign, zMl_isSign), (nat_lit 1, zPl_wrong, zOl_wrong, zMl_wrong), (nat_lit 2, zPl_waitsFor0, zOl_waitsFor0, zMl_waitsFor0), (nat_lit 3, zPl_token, zOl_token, zMl_token), (nat_lit 4, zPl_isKey, zOl_isKey, zMl_isKey), (nat_lit 5, zPl_isCounted, zOl_isCounted, zMl_isCounted), (nat_lit 6, zPl_waitsFor2, zOl_waitsFor2, zMl_waitsFor2), (nat_lit 7, zPl_nameMet, zOl_nameMet, zMl_nameMet), (nat_lit 8, zPl_grown, zOl_grown, zMl_grown)] pCl_leafRead qCl_leafRead) 0).2 [40] η x1 η1 → (x1 = 0) → ∀ (x2 : Int) (η2 : zE), ((gC2 wl_l [(nat_lit 0, zPl_isSign, zOl_isSign, zMl_isSign), (nat_lit 1, zPl_wrong, zOl_wrong, zMl_wrong), (nat_lit 2, zPl_waitsFor0, zOl_waitsFor0, zMl_waitsFor0), (nat_lit 3, zPl_token, zOl_token, zMl_token), (nat_lit 4, zPl_isKey, zOl_isKey, zMl_isKey), (nat_lit 5, zPl_isCounted, zOl_isCounted, zMl_isCounted), (nat_lit 6, zPl_waitsFor2, zOl_waitsFor2, zMl_waitsFor2), (nat_lit 7, zPl_nameMet, zOl_nameMet, zMl_nameMet), (nat_lit 8, zPl_grown, zOl_grown, zMl_grown)] pCl_leafRead qCl_leafRead) 4).2 [12] η1 x2 η2 → (x2 = 0) → ∀ (x3 : Int) (η3 : zE), ((gC2 wl_l [(nat_lit 0, zPl_isSign, zOl_isSign, zMl_isSign), (nat_lit 1, zPl_wrong, zOl_wrong, zMl_wrong), (nat_lit 2, zPl_waitsFor0, zOl_waitsFor0, zMl_waitsFor0), (nat_lit 3, zPl_token, zOl_token, zMl_token), (nat_lit 4, zPl_isKey, zOl_isKey, zMl_isKey), (nat_lit 5, zPl_isCounted, zOl_isCounted, zMl_isCounted), (nat_lit 6, zPl_waitsFor2, zOl_waitsFor2, zMl_waitsFor2), (nat_lit 7, zPl_nameMet, zOl_nameMet, zMl_nameMet), (nat_lit 8, zPl_grown, zOl_grown, zMl_grown)] pCl_leafRead qCl_leafRead) 7).2 [] η2 x3 η3 → (0 ≤ x3) → (0 ≤ x3) → ((gC2 wl_l [(nat_lit 0, zPl_isSign, zOl_isSign, zMl_isSign), (nat_lit 1, zPl_wrong, zOl_wrong, zMl_wrong), (nat_lit 2, zPl_waitsFor0, zOl_waitsFor0, zMl_waitsFor0), (nat_lit 3, zPl_token, zOl_token, zMl_token), (nat_lit 4, zPl_isKey, zOl_isKey, zMl_isKey), (nat_lit 5, zPl_isCounted, zOl_isCounted, zMl_isCounted), (nat_lit 6, zPl_waitsFor2, zOl_waitsFor2, zMl_waitsFor2), (nat_lit 7, zPl_nameMet, zOl_nameMet, zMl_nameMet), (nat_lit 8, zPl_grown, zOl_grown, zMl_grown)] pCl_leafRead qCl_leafRead) 5).1 [] η3 := by
  have hw : η 0 45 = 1 := hpp.2
  have hs : η 0 7 ≤ η 0 6 := hpp.1.1.1.1
  have bd43 : (0 : Int) ≤ η 0 43 ∧ η 0 43 ≤ 8 := wf_ok (a := 43) (b := 43) (z := (0, 8)) hp.1 (by decide +kernel) (Nat.le_refl _) (Nat.le_refl _)
  have bd44 : (0 : Int) ≤ η 0 44 ∧ η 0 44 ≤ 64 := wf_ok (a := 44) (b := 44) (z := (0, 64)) hp.1 (by decide +kernel) (Nat.le_refl _) (Nat.le_refl _)
  have bd19 : (0 : Int) ≤ η 0 19 ∧ η 0 19 ≤ 64 := wf_ok (a := 19) (b := 19) (z := (0, 64)) hp.1 (by decide +kernel) (Nat.le_refl _) (Nat.le_refl _)
  intro x1 η1 h1 c1 x2 η2 h2 c2 x3 η3 h3 c3 c4
  have k1 : sQ wl_l zTr zOl_isSign zMl_isSign [40] η x1 η1 ∧ pQl_isSign [40] η x1 η1 := h1
  have k2 : sQ wl_l zTr zOl_isKey zMl_isKey [12] η1 x2 η2 ∧ pQl_isKey [12] η1 x2 η2 := h2
  have k3 : sQ wl_l zTr zOl_nameMet zMl_nameMet [] η2 x3 η3 ∧ pQl_nameMet [] η2 x3 η3 := h3
  have c0_0_41 : η 0 41 = η 0 41 := rfl
  have w0_0_43 : (0 : Int) ≤ η 0 43 ∧ η 0 43 ≤ 8 := wf_ok (a := 43) (b := 43) (z := (0, 8)) hp.1 (by decide +kernel) (Nat.le_refl _) (Nat.le_refl _)
  have c0_0_43 : η 0 43 = η 0 43 := rfl
  have c0_0_42 : η 0 42 = η 0 42 := rfl
  have c0_0_45 : η 0 45 = η 0 45 := rfl
  have w0_0_19 : (0 : Int) ≤ η 0 19 ∧ η 0 19 ≤ 64 := wf_ok (a := 19) (b := 19) (z := (0, 64)) hp.1 (by decide +kernel) (Nat.le_refl _) (Nat.le_refl _)
  have c0_0_19 : η 0 19 = η 0 19 := rfl
  have w0_0_44 : (0 : Int) ≤ η 0 44 ∧ η 0 44 ≤ 64 := wf_ok (a := 44) (b := 44) (z := (0, 64)) hp.1 (by decide +kernel) (Nat.le_refl _) (Nat.le_refl _)
  have c0_0_44 : η 0 44 = η 0 44 := rfl
  have w0_0_7 : (0 : Int) ≤ η 0 7 ∧ η 0 7 ≤ 700 := wf_ok (a := 7) (b := 7) (z := (0, 700)) hp.1 (by decide +kernel) (Nat.le_refl _) (Nat.le_refl _)
  have c0_0_7 : η 0 7 = η 0 7 := rfl
  have w0_0_6 : (0 : Int) ≤ η 0 6 ∧ η 0 6 ≤ 700 := wf_ok (a := 6) (b := 6) (z := (0, 700)) hp.1 (by decide +kernel) (Nat.le_refl _) (Nat.le_refl _)
  have c0_0_6 : η 0 6 = η 0 6 := rfl
  have w0_0_8 : (0 : Int) ≤ η 0 8 ∧ η 0 8 ≤ 6 := wf_ok (a := 8) (b := 8) (z := (0, 6)) hp.1 (by decide +kernel) (Nat.le_refl _) (Nat.le_refl _)
  have c0_0_8 : η 0 8 = η 0 8 := rfl
  have wb1 : wB wl_l zTr η1 := k1.1.1
  have bx1 : (0 : Int) ≤ x1 ∧ x1 ≤ 1 := k1.1.2.1
  have v9 : zEq (η1 0 41) (η 0 41) := (k1.1.2.2.2.1 0 41 (by decide +kernel)).trans rfl
  have c1_0_41 : η1 0 41 = η 0 41 := v9
  have v10 : zEq (η1 0 43) (η 0 43) := (k1.1.2.2.2.1 0 43 (by decide +kernel)).trans rfl
  have c1_0_43 : η1 0 43 = η 0 43 := v10
  have v11 : zEq (η1 0 42) (η 0 42) := (k1.1.2.2.2.1 0 42 (by decide +kernel)).trans rfl
  have c1_0_42 : η1 0 42 = η 0 42 := v11
  have v12 : zEq (η1 0 45) (η 0 45) := (k1.1.2.2.2.1 0 45 (by decide +kernel)).trans rfl
  have c1_0_45 : η1 0 45 = η 0 45 := v12
  have v13 : zEq (η1 0 19) (η 0 19) := (k1.1.2.2.2.1 0 19 (by decide +kernel)).trans rfl
  have c1_0_19 : η1 0 19 = η 0 19 := v13
  have v14 : zEq (η1 0 44) (η 0 44) := (k1.1.2.2.2.1 0 44 (by decide +kernel)).trans rfl
  have c1_0_44 : η1 0 44 = η 0 44 := v14
  have v15 : zEq (η1 0 7) (η 0 7) := (k1.1.2.2.2.1 0 7 (by decide +kernel)).trans rfl
  have c1_0_7 : η1 0 7 = η 0 7 := v15
  have v16 : zEq (η1 0 6) (η 0 6) := (k1.1.2.2.2.1 0 6 (by decide +kernel)).trans rfl
  have c1_0_6 : η1 0 6 = η 0 6 := v16
  have v17 : zEq (η1 0 8) (η 0 8) := (k1.1.2.2.2.1 0 8 (by decide +kernel)).trans rfl
  have c1_0_8 : η1 0 8 = η 0 8 := v17
  have wb2 : wB wl_l zTr η2 := k2.1.1
  have bx2 : (0 : Int) ≤ x2 ∧ x2 ≤ 1 := k2.1.2.1
  have v18 : zEq (η2 0 41) (η 0 41) := (k2.1.2.2.2.1 0 41 (by decide +kernel)).trans v9
  have c2_0_41 : η2 0 41 = η 0 41 := v18
  have v19 : zEq (η2 0 43) (η 0 43) := (k2.1.2.2.2.1 0 43 (by decide +kernel)).trans v10
  have c2_0_43 : η2 0 43 = η 0 43 := v19
  have v20 : zEq (η2 0 42) (η 0 42) := (k2.1.2.2.2.1 0 42 (by decide +kernel)).trans v11
  have c2_0_42 : η2 0 42 = η 0 42 := v20
  have v21 : zEq (η2 0 45) (η 0 45) := (k2.1.2.2.2.1 0 45 (by decide +kernel)).trans v12
  have c2_0_45 : η2 0 45 = η 0 45 := v21
  have v22 : zEq (η2 0 19) (η 0 19) := (k2.1.2.2.2.1 0 19 (by decide +kernel)).trans v13
  have c2_0_19 : η2 0 19 = η 0 19 := v22
  have v23 : zEq (η2 0 44) (η 0 44) := (k2.1.2.2.2.1 0 44 (by decide +kernel)).trans v14
  have c2_0_44 : η2 0 44 = η 0 44 := v23
  have v24 : zEq (η2 0 7) (η 0 7) := (k2.1.2.2.2.1 0 7 (by decide +kernel)).trans v15
  have c2_0_7 : η2 0 7 = η 0 7 := v24
  have v25 : zEq (η2 0 6) (η 0 6) := (k2.1.2.2.2.1 0 6 (by decide +kernel)).trans v16
  have c2_0_6 : η2 0 6 = η 0 6 := v25
  have v26 : zEq (η2 0 8) (η 0 8) := (k2.1.2.2.2.1 0 8 (by decide +kernel)).trans v17
  have c2_0_8 : η2 0 8 = η 0 8 := v26
  have wb3 : wB wl_l zTr η3 := k3.1.1
  have bx3 : ((-1) : Int) ≤ x3 ∧ x3 ≤ 6 := k3.1.2.1
  have fm1 : zFm zMl_leafRead η η1 := zFm_tr2 zFm_rf k1.1.2.2.2.1 (by decide +kernel)
  have fm2 : zFm zMl_leafRead η η2 := zFm_tr2 fm1 k2.1.2.2.2.1 (by decide +kernel)
  have fm3 : zFm zMl_leafRead η η3 := zFm_tr2 fm2 k3.1.2.2.2.1 (by decide +kernel)
  have fmE : zFm zMl_leafRead η η3 := fm3
  have fr22_0 : ∀ j, η 22 j = η 22 j := fun _ => rfl
  have v27 : ∀ j, η1 22 j = η 22 j := fun j => k1.1.2.2.2.1 22 _ (zinr_not (by decide +kernel))
  have fr22_1 : ∀ j, η1 22 j = η 22 j := v27
  have v28 : ∀ j, η2 22 j = η 22 j := fun j => (k2.1.2.2.2.1 22 _ (zinr_not (by decide +kernel))).trans (v27 j)
  have fr22_2 : ∀ j, η2 22 j = η 22 j := v28
  have v29 : ∀ j, η3 22 j = η 22 j := fun j => (k3.1.2.2.2.1 22 _ (zinr_not (by decide +kernel))).trans (v28 j)
  have fr22_3 : ∀ j, η3 22 j = η 22 j := v29
  have fr22 : ∀ j, η3 22 j = η 22 j := v29
  have v30 : zEq (η3 0 41) (η 0 41) := (k3.1.2.2.2.1 0 41 (by decide +kernel)).trans v18
  have f0_41 : η3 0 41 = η 0 41 := v30
  have v31 : zEq (η3 0 43) (η 0 43) := (k3.1.2.2.2.1 0 43 (by decide +kernel)).trans v19
  have f0_43 : η3 0 43 = η 0 43 := v31
  have v32 : zEq (η3 0 42) (η 0 42) := (k3.1.2.2.2.1 0 42 (by decide +kernel)).trans v20
  have f0_42 : η3 0 42 = η 0 42 := v32
  have v33 : zEq (η3 0 45) (η 0 45) := (k3.1.2.2.2.1 0 45 (by decide +kernel)).trans v21
  have f0_45 : η3 0 45 = η 0 45 := v33
  have v34 : zEq (η3 0 19) (η 0 19) := (k3.1.2.2.2.1 0 19 (by decide +kernel)).trans v22
  have f0_19 : η3 0 19 = η 0 19 := v34
  have v35 : zEq (η3 0 44) (η 0 44) := (k3.1.2.2.2.1 0 44 (by decide +kernel)).trans v23
  have f0_44 : η3 0 44 = η 0 44 := v35
  have v36 : zEq (η3 0 7) (η 0 7) := (k3.1.2.2.2.1 0 7 (by decide +kernel)).trans v24
  have f0_7 : η3 0 7 = η 0 7 := v36
  have v37 : zEq (η3 0 6) (η 0 6) := (k3.1.2.2.2.1 0 6 (by decide +kernel)).trans v25
  have f0_6 : η3 0 6 = η 0 6 := v37
  have v38 : zEq (η3 0 8) (η 0 8) := (k3.1.2.2.2.1 0 8 (by decide +kernel)).trans v26
  have f0_8 : η3 0 8 = η 0 8 := v38
  have wbE : wB wl_l zTr η3 := wb3
  
  have I0 : H_l 0 0 0 η := hpp.1
  have I1 : H_l 0 0 0 η1 := k1.2.1
  have I2 : H_l 0 0 0 η2 := k2.2.1
  have I3 : H_l 0 0 0 η3 := k3.2.1
  have qk3 : η2 0 8 = 1 := k3.2.2 c3
  exact I3
set_option maxHeartbeats 8000000 in
theorem zl_leafRead_o4 {ro : Nat → List Int32} (η : zE) (hp : sP wl_l zTr zPl_leafRead [] η) (hpp : pPl_leafRead [] η) : ∀ (x1 : Int) (η1 : zE), ((gC2 wl_l [(nat_lit 0, zPl_isSign, zOl_isSign, zMl_isSign), (nat_lit 1, zPl_wrong, zOl_wrong, zMl_wrong), (nat_lit 2, zPl_waitsFor0, zOl_waitsFor0, zMl_waitsFor0), (nat_lit 3, zPl_token, zOl_token, zMl_token), (nat_lit 4, zPl_isKey, zOl_isKey, zMl_isKey), (nat_lit 5, zPl_isCounted, zOl_isCounted, zMl_isCounted), (nat_lit 6, zPl_waitsFor2, zOl_waitsFor2, zMl_waitsFor2), (nat_lit 7, zPl_nameMet, zOl_nameMet, zMl_nameMet), (nat_lit 8, zPl_grown, zOl_grown, zMl_grown)] pCl_leafRead qCl_leafRead) 0).2 [40] η x1 η1 → (x1 = 0) → ∀ (x2 : Int) (η2 : zE), ((gC2 wl_l [(nat_lit 0, zPl_isSign, zOl_isSign, zMl_isSign), (nat_lit 1, zPl_wrong, zOl_wrong, zMl_wrong), (nat_lit 2, zPl_waitsFor0, zOl_waitsFor0, zMl_waitsFor0), (nat_lit 3, zPl_token, zOl_token, zMl_token), (nat_lit 4, zPl_isKey, zOl_isKey, zMl_isKey), (nat_lit 5, zPl_isCounted, zOl_isCounted, zMl_isCounted), (nat_lit 6, zPl_waitsFor2, zOl_waitsFor2, zMl_waitsFor2), (nat_lit 7, zPl_nameMet, zOl_nameMet, zMl_nameMet), (nat_lit 8, zPl_grown, zOl_grown, zMl_grown)] pCl_leafRead qCl_leafRead) 4).2 [12] η1 x2 η2 → (x2 = 0) → ∀ (x3 : Int) (η3 : zE), ((gC2 wl_l [(nat_lit 0, zPl_isSign, zOl_isSign, zMl_isSign), (nat_lit 1, zPl_wrong, zOl_wrong, zMl_wrong), (nat_lit 2, zPl_waitsFor0, zOl_waitsFor0, zMl_waitsFor0), (nat_lit 3, zPl_token, zOl_token, zMl_token), (nat_lit 4, zPl_isKey, zOl_isKey, zMl_isKey), (nat_lit 5, zPl_isCounted, zOl_isCounted, zMl_isCounted), (nat_lit 6, zPl_waitsFor2, zOl_waitsFor2, zMl_waitsFor2), (nat_lit 7, zPl_nameMet, zOl_nameMet, zMl_nameMet), (nat_lit 8, zPl_grown, zOl_grown, zMl_grown)] pCl_leafRead qCl_leafRead) 7).2 [] η2 x3 η3 → (0 ≤ x3) → (0 ≤ x3) → ∀ (x4 : Int) (η4 : zE), ((gC2 wl_l [(nat_lit 0, zPl_isSign, zOl_isSign, zMl_isSign), (nat_lit 1, zPl_wrong, zOl_wrong, zMl_wrong), (nat_lit 2, zPl_waitsFor0, zOl_waitsFor0, zMl_waitsFor0), (nat_lit 3, zPl_token, zOl_token, zMl_token), (nat_lit 4, zPl_isKey, zOl_isKey, zMl_isKey), (nat_lit 5, zPl_isCounted, zOl_isCounted, zMl_isCounted), (nat_lit 6, zPl_waitsFor2, zOl_waitsFor2, zMl_waitsFor2), (nat_lit 7, zPl_nameMet, zOl_nameMet, zMl_nameMet), (nat_lit 8, zPl_grown, zOl_grown, zMl_grown)] pCl_leafRead qCl_leafRead) 5).2 [] η3 x4 η4 → (¬ x4 = 0) → (0 ≤ x3) → (0 ≤ x3) → ((gC2 wl_l [(nat_lit 0, zPl_isSign, zOl_isSign, zMl_isSign), (nat_lit 1, zPl_wrong, zOl_wrong, zMl_wrong), (nat_lit 2, zPl_waitsFor0, zOl_waitsFor0, zMl_waitsFor0), (nat_lit 3, zPl_token, zOl_token, zMl_token), (nat_lit 4, zPl_isKey, zOl_isKey, zMl_isKey), (nat_lit 5, zPl_isCounted, zOl_isCounted, zMl_isCounted), (nat_lit 6, zPl_waitsFor2, zOl_waitsFor2, zMl_waitsFor2), (nat_lit 7, zPl_nameMet, zOl_nameMet, zMl_nameMet), (nat_lit 8, zPl_grown, zOl_grown, zMl_grown)] pCl_leafRead qCl_leafRead) 8).1 [1, x3, 0] η4 := by
  have hw : η 0 45 = 1 := hpp.2
  have hs : η 0 7 ≤ η 0 6 := hpp.1.1.1.1
  have bd43 : (0 : Int) ≤ η 0 43 ∧ η 0 43 ≤ 8 := wf_ok (a := 43) (b := 43) (z := (0, 8)) hp.1 (by decide +kernel) (Nat.le_refl _) (Nat.le_refl _)
  have bd44 : (0 : Int) ≤ η 0 44 ∧ η 0 44 ≤ 64 := wf_ok (a := 44) (b := 44) (z := (0, 64)) hp.1 (by decide +kernel) (Nat.le_refl _) (Nat.le_refl _)
  have bd19 : (0 : Int) ≤ η 0 19 ∧ η 0 19 ≤ 64 := wf_ok (a := 19) (b := 19) (z := (0, 64)) hp.1 (by decide +kernel) (Nat.le_refl _) (Nat.le_refl _)
  intro x1 η1 h1 c1 x2 η2 h2 c2 x3 η3 h3 c3 c4 x4 η4 h4 c5 c6 c7
  have k1 : sQ wl_l zTr zOl_isSign zMl_isSign [40] η x1 η1 ∧ pQl_isSign [40] η x1 η1 := h1
  have k2 : sQ wl_l zTr zOl_isKey zMl_isKey [12] η1 x2 η2 ∧ pQl_isKey [12] η1 x2 η2 := h2
  have k3 : sQ wl_l zTr zOl_nameMet zMl_nameMet [] η2 x3 η3 ∧ pQl_nameMet [] η2 x3 η3 := h3
  have k4 : sQ wl_l zTr zOl_isCounted zMl_isCounted [] η3 x4 η4 ∧ pQl_isCounted [] η3 x4 η4 := h4
  have c0_0_41 : η 0 41 = η 0 41 := rfl
  have w0_0_43 : (0 : Int) ≤ η 0 43 ∧ η 0 43 ≤ 8 := wf_ok (a := 43) (b := 43) (z := (0, 8)) hp.1 (by decide +kernel) (Nat.le_refl _) (Nat.le_refl _)
  have c0_0_43 : η 0 43 = η 0 43 := rfl
  have c0_0_42 : η 0 42 = η 0 42 := rfl
  have c0_0_45 : η 0 45 = η 0 45 := rfl
  have w0_0_19 : (0 : Int) ≤ η 0 19 ∧ η 0 19 ≤ 64 := wf_ok (a := 19) (b := 19) (z := (0, 64)) hp.1 (by decide +kernel) (Nat.le_refl _) (Nat.le_refl _)
  have c0_0_19 : η 0 19 = η 0 19 := rfl
  have w0_0_44 : (0 : Int) ≤ η 0 44 ∧ η 0 44 ≤ 64 := wf_ok (a := 44) (b := 44) (z := (0, 64)) hp.1 (by decide +kernel) (Nat.le_refl _) (Nat.le_refl _)
  have c0_0_44 : η 0 44 = η 0 44 := rfl
  have w0_0_7 : (0 : Int) ≤ η 0 7 ∧ η 0 7 ≤ 700 := wf_ok (a := 7) (b := 7) (z := (0, 700)) hp.1 (by decide +kernel) (Nat.le_refl _) (Nat.le_refl _)
  have c0_0_7 : η 0 7 = η 0 7 := rfl
  have w0_0_6 : (0 : Int) ≤ η 0 6 ∧ η 0 6 ≤ 700 := wf_ok (a := 6) (b := 6) (z := (0, 700)) hp.1 (by decide +kernel) (Nat.le_refl _) (Nat.le_refl _)
  have c0_0_6 : η 0 6 = η 0 6 := rfl
  have w0_0_8 : (0 : Int) ≤ η 0 8 ∧ η 0 8 ≤ 6 := wf_ok (a := 8) (b := 8) (z := (0, 6)) hp.1 (by decide +kernel) (Nat.le_refl _) (Nat.le_refl _)
  have c0_0_8 : η 0 8 = η 0 8 := rfl
  have wb1 : wB wl_l zTr η1 := k1.1.1
  have bx1 : (0 : Int) ≤ x1 ∧ x1 ≤ 1 := k1.1.2.1
  have v9 : zEq (η1 0 41) (η 0 41) := (k1.1.2.2.2.1 0 41 (by decide +kernel)).trans rfl
  have c1_0_41 : η1 0 41 = η 0 41 := v9
  have v10 : zEq (η1 0 43) (η 0 43) := (k1.1.2.2.2.1 0 43 (by decide +kernel)).trans rfl
  have c1_0_43 : η1 0 43 = η 0 43 := v10
  have v11 : zEq (η1 0 42) (η 0 42) := (k1.1.2.2.2.1 0 42 (by decide +kernel)).trans rfl
  have c1_0_42 : η1 0 42 = η 0 42 := v11
  have v12 : zEq (η1 0 45) (η 0 45) := (k1.1.2.2.2.1 0 45 (by decide +kernel)).trans rfl
  have c1_0_45 : η1 0 45 = η 0 45 := v12
  have v13 : zEq (η1 0 19) (η 0 19) := (k1.1.2.2.2.1 0 19 (by decide +kernel)).trans rfl
  have c1_0_19 : η1 0 19 = η 0 19 := v13
  have v14 : zEq (η1 0 44) (η 0 44) := (k1.1.2.2.2.1 0 44 (by decide +kernel)).trans rfl
  have c1_0_44 : η1 0 44 = η 0 44 := v14
  have v15 : zEq (η1 0 7) (η 0 7) := (k1.1.2.2.2.1 0 7 (by decide +kernel)).trans rfl
  have c1_0_7 : η1 0 7 = η 0 7 := v15
  have v16 : zEq (η1 0 6) (η 0 6) := (k1.1.2.2.2.1 0 6 (by decide +kernel)).trans rfl
  have c1_0_6 : η1 0 6 = η 0 6 := v16
  have v17 : zEq (η1 0 8) (η 0 8) := (k1.1.2.2.2.1 0 8 (by decide +kernel)).trans rfl
  have c1_0_8 : η1 0 8 = η 0 8 := v17
  have wb2 : wB wl_l zTr η2 := k2.1.1
  have bx2 : (0 : Int) ≤ x2 ∧ x2 ≤ 1 := k2.1.2.1
  have v18 : zEq (η2 0 41) (η 0 41) := (k2.1.2.2.2.1 0 41 (by decide +kernel)).trans v9
  have c2_0_41 : η2 0 41 = η 0 41 := v18
  have v19 : zEq (η2 0 43) (η 0 43) := (k2.1.2.2.2.1 0 43 (by decide +kernel)).trans v10
  have c2_0_43 : η2 0 43 = η 0 43 := v19
  have v20 : zEq (η2 0 42) (η 0 42) := (k2.1.2.2.2.1 0 42 (by decide +kernel)).trans v11
  have c2_0_42 : η2 0 42 = η 0 42 := v20
  have v21 : zEq (η2 0 45) (η 0 45) := (k2.1.2.2.2.1 0 45 (by decide +kernel)).trans v12
  have c2_0_45 : η2 0 45 = η 0 45 := v21
  have v22 : zEq (η2 0 19) (η 0 19) := (k2.1.2.2.2.1 0 19 (by decide +kernel)).trans v13
  have c2_0_19 : η2 0 19 = η 0 19 := v22
  have v23 : zEq (η2 0 44) (η 0 44) := (k2.1.2.2.2.1 0 44 (by decide +kernel)).trans v14
  have c2_0_44 : η2 0 44 = η 0 44 := v23
  have v24 : zEq (η2 0 7) (η 0 7) := (k2.1.2.2.2.1 0 7 (by decide +kernel)).trans v15
  have c2_0_7 : η2 0 7 = η 0 7 := v24
  have v25 : zEq (η2 0 6) (η 0 6) := (k2.1.2.2.2.1 0 6 (by decide +kernel)).trans v16
  have c2_0_6 : η2 0 6 = η 0 6 := v25
  have v26 : zEq (η2 0 8) (η 0 8) := (k2.1.2.2.2.1 0 8 (by decide +kernel)).trans v17
  have c2_0_8 : η2 0 8 = η 0 8 := v26
  have wb3 : wB wl_l zTr η3 := k3.1.1
  have bx3 : ((-1) : Int) ≤ x3 ∧ x3 ≤ 6 := k3.1.2.1
  have v27 : zEq (η3 0 41) (η 0 41) := (k3.1.2.2.2.1 0 41 (by decide +kernel)).trans v18
  have c3_0_41 : η3 0 41 = η 0 41 := v27
  have v28 : zEq (η3 0 43) (η 0 43) := (k3.1.2.2.2.1 0 43 (by decide +kernel)).trans v19
  have c3_0_43 : η3 0 43 = η 0 43 := v28
  have v29 : zEq (η3 0 42) (η 0 42) := (k3.1.2.2.2.1 0 42 (by decide +kernel)).trans v20
  have c3_0_42 : η3 0 42 = η 0 42 := v29
  have v30 : zEq (η3 0 45) (η 0 45) := (k3.1.2.2.2.1 0 45 (by decide +kernel)).trans v21
  have c3_0_45 : η3 0 45 = η 0 45 := v30
  have v31 : zEq (η3 0 19) (η 0 19) := (k3.1.2.2.2.1 0 19 (by decide +kernel)).trans v22
  have c3_0_19 : η3 0 19 = η 0 19 := v31
  have v32 : zEq (η3 0 44) (η 0 44) := (k3.1.2.2.2.1 0 44 (by decide +kernel)).trans v23
  have c3_0_44 : η3 0 44 = η 0 44 := v32
  have v33 : zEq (η3 0 7) (η 0 7) := (k3.1.2.2.2.1 0 7 (by decide +kernel)).trans v24
  have c3_0_7 : η3 0 7 = η 0 7 := v33
  have v34 : zEq (η3 0 6) (η 0 6) := (k3.1.2.2.2.1 0 6 (by decide +kernel)).trans v25
  have c3_0_6 : η3 0 6 = η 0 6 := v34
  have v35 : zEq (η3 0 8) (η 0 8) := (k3.1.2.2.2.1 0 8 (by decide +kernel)).trans v26
  have c3_0_8 : η3 0 8 = η 0 8 := v35
  have wb4 : wB wl_l zTr η4 := k4.1.1
  have bx4 : (0 : Int) ≤ x4 ∧ x4 ≤ 1 := k4.1.2.1
  have fm1 : zFm zMl_leafRead η η1 := zFm_tr2 zFm_rf k1.1.2.2.2.1 (by decide +kernel)
  have fm2 : zFm zMl_leafRead η η2 := zFm_tr2 fm1 k2.1.2.2.2.1 (by decide +kernel)
  have fm3 : zFm zMl_leafRead η η3 := zFm_tr2 fm2 k3.1.2.2.2.1 (by decide +kernel)
  have fm4 : zFm zMl_leafRead η η4 := zFm_tr2 fm3 k4.1.2.2.2.1 (by decide +kernel)
  have fmE : zFm zMl_leafRead η η4 := fm4
  have fr22_0 : ∀ j, η 22 j = η 22 j := fun _ => rfl
  have v36 : ∀ j, η1 22 j = η 22 j := fun j => k1.1.2.2.2.1 22 _ (zinr_not (by decide +kernel))
  have fr22_1 : ∀ j, η1 22 j = η 22 j := v36
  have v37 : ∀ j, η2 22 j = η 22 j := fun j => (k2.1.2.2.2.1 22 _ (zinr_not (by decide +kernel))).trans (v36 j)
  have fr22_2 : ∀ j, η2 22 j = η 22 j := v37
  have v38 : ∀ j, η3 22 j = η 22 j := fun j => (k3.1.2.2.2.1 22 _ (zinr_not (by decide +kernel))).trans (v37 j)
  have fr22_3 : ∀ j, η3 22 j = η 22 j := v38
  have v39 : ∀ j, η4 22 j = η 22 j := fun j => (k4.1.2.2.2.1 22 _ (zinr_not (by decide +kernel))).trans (v38 j)
  have fr22_4 : ∀ j, η4 22 j = η 22 j := v39
  have fr22 : ∀ j, η4 22 j = η 22 j := v39
  have v40 : zEq (η4 0 41) (η 0 41) := (k4.1.2.2.2.1 0 41 (by decide +kernel)).trans v27
  have f0_41 : η4 0 41 = η 0 41 := v40
  have v41 : zEq (η4 0 43) (η 0 43) := (k4.1.2.2.2.1 0 43 (by decide +kernel)).trans v28
  have f0_43 : η4 0 43 = η 0 43 := v41
  have v42 : zEq (η4 0 42) (η 0 42) := (k4.1.2.2.2.1 0 42 (by decide +kernel)).trans v29
  have f0_42 : η4 0 42 = η 0 42 := v42
  have v43 : zEq (η4 0 45) (η 0 45) := (k4.1.2.2.2.1 0 45 (by decide +kernel)).trans v30
  have f0_45 : η4 0 45 = η 0 45 := v43
  have v44 : zEq (η4 0 19) (η 0 19) := (k4.1.2.2.2.1 0 19 (by decide +kernel)).trans v31
  have f0_19 : η4 0 19 = η 0 19 := v44
  have w4_0_44 : (0 : Int) ≤ η4 0 44 ∧ η4 0 44 ≤ 64 := wf_ok (a := 44) (b := 44) (z := (0, 64)) k4.1.1 (by decide +kernel) (Nat.le_refl _) (Nat.le_refl _)
  have f0_44 : η4 0 44 = η4 0 44 := rfl
  have v46 : zEq (η4 0 7) (η 0 7) := (k4.1.2.2.2.1 0 7 (by decide +kernel)).trans v33
  have f0_7 : η4 0 7 = η 0 7 := v46
  have v47 : zEq (η4 0 6) (η 0 6) := (k4.1.2.2.2.1 0 6 (by decide +kernel)).trans v34
  have f0_6 : η4 0 6 = η 0 6 := v47
  have v48 : zEq (η4 0 8) (η 0 8) := (k4.1.2.2.2.1 0 8 (by decide +kernel)).trans v35
  have f0_8 : η4 0 8 = η 0 8 := v48
  have wbE : wB wl_l zTr η4 := wb4
  
  have I0 : H_l 0 0 0 η := hpp.1
  have I1 : H_l 0 0 0 η1 := k1.2.1
  have I2 : H_l 0 0 0 η2 := k2.2.1
  have I3 : H_l 0 0 0 η3 := k3.2.1
  have qk3 : η2 0 8 = 1 := k3.2.2 c3
  have I4 : H_l 1 0 0 η4 := k4.2.1 c5
  obtain ⟨j1, j2, j3, j4⟩ := I4.2
  have cn := cz_n (η := η4) (η4 0 41).toNat
  exact ⟨Or.inl I4, ⟨fun _ => ⟨show 0 ≤ x3 by omega, show x3 ≤ 6 by omega⟩, fun _ w => absurd rfl w, fun _ w => absurd rfl w⟩, show 0 ≤ η4 0 42 by omega, show η4 0 42 ≤ 95 by omega⟩
set_option maxHeartbeats 8000000 in
theorem zl_leafRead_o5 {ro : Nat → List Int32} (η : zE) (hp : sP wl_l zTr zPl_leafRead [] η) (hpp : pPl_leafRead [] η) : ∀ (x1 : Int) (η1 : zE), ((gC2 wl_l [(nat_lit 0, zPl_isSign, zOl_isSign, zMl_isSign), (nat_lit 1, zPl_wrong, zOl_wrong, zMl_wrong), (nat_lit 2, zPl_waitsFor0, zOl_waitsFor0, zMl_waitsFor0), (nat_lit 3, zPl_token, zOl_token, zMl_token), (nat_lit 4, zPl_isKey, zOl_isKey, zMl_isKey), (nat_lit 5, zPl_isCounted, zOl_isCounted, zMl_isCounted), (nat_lit 6, zPl_waitsFor2, zOl_waitsFor2, zMl_waitsFor2), (nat_lit 7, zPl_nameMet, zOl_nameMet, zMl_nameMet), (nat_lit 8, zPl_grown, zOl_grown, zMl_grown)] pCl_leafRead qCl_leafRead) 0).2 [40] η x1 η1 → (x1 = 0) → ∀ (x2 : Int) (η2 : zE), ((gC2 wl_l [(nat_lit 0, zPl_isSign, zOl_isSign, zMl_isSign), (nat_lit 1, zPl_wrong, zOl_wrong, zMl_wrong), (nat_lit 2, zPl_waitsFor0, zOl_waitsFor0, zMl_waitsFor0), (nat_lit 3, zPl_token, zOl_token, zMl_token), (nat_lit 4, zPl_isKey, zOl_isKey, zMl_isKey), (nat_lit 5, zPl_isCounted, zOl_isCounted, zMl_isCounted), (nat_lit 6, zPl_waitsFor2, zOl_waitsFor2, zMl_waitsFor2), (nat_lit 7, zPl_nameMet, zOl_nameMet, zMl_nameMet), (nat_lit 8, zPl_grown, zOl_grown, zMl_grown)] pCl_leafRead qCl_leafRead) 4).2 [12] η1 x2 η2 → (x2 = 0) → ∀ (x3 : Int) (η3 : zE), ((gC2 wl_l [(nat_lit 0, zPl_isSign, zOl_isSign, zMl_isSign), (nat_lit 1, zPl_wrong, zOl_wrong, zMl_wrong), (nat_lit 2, zPl_waitsFor0, zOl_waitsFor0, zMl_waitsFor0), (nat_lit 3, zPl_token, zOl_token, zMl_token), (nat_lit 4, zPl_isKey, zOl_isKey, zMl_isKey), (nat_lit 5, zPl_isCounted, zOl_isCounted, zMl_isCounted), (nat_lit 6, zPl_waitsFor2, zOl_waitsFor2, zMl_waitsFor2), (nat_lit 7, zPl_nameMet, zOl_nameMet, zMl_nameMet), (nat_lit 8, zPl_grown, zOl_grown, zMl_grown)] pCl_leafRead qCl_leafRead) 7).2 [] η2 x3 η3 → (0 ≤ x3) → (0 ≤ x3) → ∀ (x4 : Int) (η4 : zE), ((gC2 wl_l [(nat_lit 0, zPl_isSign, zOl_isSign, zMl_isSign), (nat_lit 1, zPl_wrong, zOl_wrong, zMl_wrong), (nat_lit 2, zPl_waitsFor0, zOl_waitsFor0, zMl_waitsFor0), (nat_lit 3, zPl_token, zOl_token, zMl_token), (nat_lit 4, zPl_isKey, zOl_isKey, zMl_isKey), (nat_lit 5, zPl_isCounted, zOl_isCounted, zMl_isCounted), (nat_lit 6, zPl_waitsFor2, zOl_waitsFor2, zMl_waitsFor2), (nat_lit 7, zPl_nameMet, zOl_nameMet, zMl_nameMet), (nat_lit 8, zPl_grown, zOl_grown, zMl_grown)] pCl_leafRead qCl_leafRead) 5).2 [] η3 x4 η4 → (¬ x4 = 0) → (0 ≤ x3) → (0 ≤ x3) → ∀ (x5 : Int) (η5 : zE), ((gC2 wl_l [(nat_lit 0, zPl_isSign, zOl_isSign, zMl_isSign), (nat_lit 1, zPl_wrong, zOl_wrong, zMl_wrong), (nat_lit 2, zPl_waitsFor0, zOl_waitsFor0, zMl_waitsFor0), (nat_lit 3, zPl_token, zOl_token, zMl_token), (nat_lit 4, zPl_isKey, zOl_isKey, zMl_isKey), (nat_lit 5, zPl_isCounted, zOl_isCounted, zMl_isCounted), (nat_lit 6, zPl_waitsFor2, zOl_waitsFor2, zMl_waitsFor2), (nat_lit 7, zPl_nameMet, zOl_nameMet, zMl_nameMet), (nat_lit 8, zPl_grown, zOl_grown, zMl_grown)] pCl_leafRead qCl_leafRead) 8).2 [1, x3, 0] η4 x5 η5 → ∀ η6 : zE, η6 = zup η5 0 (Int.toNat 45) 0 → ((gC2 wl_l [(nat_lit 0, zPl_isSign, zOl_isSign, zMl_isSign), (nat_lit 1, zPl_wrong, zOl_wrong, zMl_wrong), (nat_lit 2, zPl_waitsFor0, zOl_waitsFor0, zMl_waitsFor0), (nat_lit 3, zPl_token, zOl_token, zMl_token), (nat_lit 4, zPl_isKey, zOl_isKey, zMl_isKey), (nat_lit 5, zPl_isCounted, zOl_isCounted, zMl_isCounted), (nat_lit 6, zPl_waitsFor2, zOl_waitsFor2, zMl_waitsFor2), (nat_lit 7, zPl_nameMet, zOl_nameMet, zMl_nameMet), (nat_lit 8, zPl_grown, zOl_grown, zMl_grown)] pCl_leafRead qCl_leafRead) 3).1 [] η6 := by
  have hw : η 0 45 = 1 := hpp.2
  have hs : η 0 7 ≤ η 0 6 := hpp.1.1.1.1
  have bd43 : (0 : Int) ≤ η 0 43 ∧ η 0 43 ≤ 8 := wf_ok (a := 43) (b := 43) (z := (0, 8)) hp.1 (by decide +kernel) (Nat.le_refl _) (Nat.le_refl _)
  have bd44 : (0 : Int) ≤ η 0 44 ∧ η 0 44 ≤ 64 := wf_ok (a := 44) (b := 44) (z := (0, 64)) hp.1 (by decide +kernel) (Nat.le_refl _) (Nat.le_refl _)
  have bd19 : (0 : Int) ≤ η 0 19 ∧ η 0 19 ≤ 64 := wf_ok (a := 19) (b := 19) (z := (0, 64)) hp.1 (by decide +kernel) (Nat.le_refl _) (Nat.le_refl _)
  intro x1 η1 h1 c1 x2 η2 h2 c2 x3 η3 h3 c3 c4 x4 η4 h4 c5 c6 c7 x5 η5 h5 η6 eη6
  have k1 : sQ wl_l zTr zOl_isSign zMl_isSign [40] η x1 η1 ∧ pQl_isSign [40] η x1 η1 := h1
  have k2 : sQ wl_l zTr zOl_isKey zMl_isKey [12] η1 x2 η2 ∧ pQl_isKey [12] η1 x2 η2 := h2
  have k3 : sQ wl_l zTr zOl_nameMet zMl_nameMet [] η2 x3 η3 ∧ pQl_nameMet [] η2 x3 η3 := h3
  have k4 : sQ wl_l zTr zOl_isCounted zMl_isCounted [] η3 x4 η4 ∧ pQl_isCounted [] η3 x4 η4 := h4
  have k5 : sQ wl_l zTr zOl_grown zMl_grown [1, x3, 0] η4 x5 η5 ∧ pQl_grown [1, x3, 0] η4 x5 η5 := h5
  have c0_0_41 : η 0 41 = η 0 41 := rfl
  have w0_0_43 : (0 : Int) ≤ η 0 43 ∧ η 0 43 ≤ 8 := wf_ok (a := 43) (b := 43) (z := (0, 8)) hp.1 (by decide +kernel) (Nat.le_refl _) (Nat.le_refl _)
  have c0_0_43 : η 0 43 = η 0 43 := rfl
  have c0_0_42 : η 0 42 = η 0 42 := rfl
  have c0_0_45 : η 0 45 = η 0 45 := rfl
  have w0_0_19 : (0 : Int) ≤ η 0 19 ∧ η 0 19 ≤ 64 := wf_ok (a := 19) (b := 19) (z := (0, 64)) hp.1 (by decide +kernel) (Nat.le_refl _) (Nat.le_refl _)
  have c0_0_19 : η 0 19 = η 0 19 := rfl
  have w0_0_44 : (0 : Int) ≤ η 0 44 ∧ η 0 44 ≤ 64 := wf_ok (a := 44) (b := 44) (z := (0, 64)) hp.1 (by decide +kernel) (Nat.le_refl _) (Nat.le_refl _)
  have c0_0_44 : η 0 44 = η 0 44 := rfl
  have w0_0_7 : (0 : Int) ≤ η 0 7 ∧ η 0 7 ≤ 700 := wf_ok (a := 7) (b := 7) (z := (0, 700)) hp.1 (by decide +kernel) (Nat.le_refl _) (Nat.le_refl _)
  have c0_0_7 : η 0 7 = η 0 7 := rfl
  have w0_0_6 : (0 : Int) ≤ η 0 6 ∧ η 0 6 ≤ 700 := wf_ok (a := 6) (b := 6) (z := (0, 700)) hp.1 (by decide +kernel) (Nat.le_refl _) (Nat.le_refl _)
  have c0_0_6 : η 0 6 = η 0 6 := rfl
  have w0_0_8 : (0 : Int) ≤ η 0 8 ∧ η 0 8 ≤ 6 := wf_ok (a := 8) (b := 8) (z := (0, 6)) hp.1 (by decide +kernel) (Nat.le_refl _) (Nat.le_refl _)
  have c0_0_8 : η 0 8 = η 0 8 := rfl
  have wb1 : wB wl_l zTr η1 := k1.1.1
  have bx1 : (0 : Int) ≤ x1 ∧ x1 ≤ 1 := k1.1.2.1
  have v9 : zEq (η1 0 41) (η 0 41) := (k1.1.2.2.2.1 0 41 (by decide +kernel)).trans rfl
  have c1_0_41 : η1 0 41 = η 0 41 := v9
  have v10 : zEq (η1 0 43) (η 0 43) := (k1.1.2.2.2.1 0 43 (by decide +kernel)).trans rfl
  have c1_0_43 : η1 0 43 = η 0 43 := v10
  have v11 : zEq (η1 0 42) (η 0 42) := (k1.1.2.2.2.1 0 42 (by decide +kernel)).trans rfl
  have c1_0_42 : η1 0 42 = η 0 42 := v11
  have v12 : zEq (η1 0 45) (η 0 45) := (k1.1.2.2.2.1 0 45 (by decide +kernel)).trans rfl
  have c1_0_45 : η1 0 45 = η 0 45 := v12
  have v13 : zEq (η1 0 19) (η 0 19) := (k1.1.2.2.2.1 0 19 (by decide +kernel)).trans rfl
  have c1_0_19 : η1 0 19 = η 0 19 := v13
  have v14 : zEq (η1 0 44) (η 0 44) := (k1.1.2.2.2.1 0 44 (by decide +kernel)).trans rfl
  have c1_0_44 : η1 0 44 = η 0 44 := v14
  have v15 : zEq (η1 0 7) (η 0 7) := (k1.1.2.2.2.1 0 7 (by decide +kernel)).trans rfl
  have c1_0_7 : η1 0 7 = η 0 7 := v15
  have v16 : zEq (η1 0 6) (η 0 6) := (k1.1.2.2.2.1 0 6 (by decide +kernel)).trans rfl
  have c1_0_6 : η1 0 6 = η 0 6 := v16
  have v17 : zEq (η1 0 8) (η 0 8) := (k1.1.2.2.2.1 0 8 (by decide +kernel)).trans rfl
  have c1_0_8 : η1 0 8 = η 0 8 := v17
  have wb2 : wB wl_l zTr η2 := k2.1.1
  have bx2 : (0 : Int) ≤ x2 ∧ x2 ≤ 1 := k2.1.2.1
  have v18 : zEq (η2 0 41) (η 0 41) := (k2.1.2.2.2.1 0 41 (by decide +kernel)).trans v9
  have c2_0_41 : η2 0 41 = η 0 41 := v18
  have v19 : zEq (η2 0 43) (η 0 43) := (k2.1.2.2.2.1 0 43 (by decide +kernel)).trans v10
  have c2_0_43 : η2 0 43 = η 0 43 := v19
  have v20 : zEq (η2 0 42) (η 0 42) := (k2.1.2.2.2.1 0 42 (by decide +kernel)).trans v11
  have c2_0_42 : η2 0 42 = η 0 42 := v20
  have v21 : zEq (η2 0 45) (η 0 45) := (k2.1.2.2.2.1 0 45 (by decide +kernel)).trans v12
  have c2_0_45 : η2 0 45 = η 0 45 := v21
  have v22 : zEq (η2 0 19) (η 0 19) := (k2.1.2.2.2.1 0 19 (by decide +kernel)).trans v13
  have c2_0_19 : η2 0 19 = η 0 19 := v22
  have v23 : zEq (η2 0 44) (η 0 44) := (k2.1.2.2.2.1 0 44 (by decide +kernel)).trans v14
  have c2_0_44 : η2 0 44 = η 0 44 := v23
  have v24 : zEq (η2 0 7) (η 0 7) := (k2.1.2.2.2.1 0 7 (by decide +kernel)).trans v15
  have c2_0_7 : η2 0 7 = η 0 7 := v24
  have v25 : zEq (η2 0 6) (η 0 6) := (k2.1.2.2.2.1 0 6 (by decide +kernel)).trans v16
  have c2_0_6 : η2 0 6 = η 0 6 := v25
  have v26 : zEq (η2 0 8) (η 0 8) := (k2.1.2.2.2.1 0 8 (by decide +kernel)).trans v17
  have c2_0_8 : η2 0 8 = η 0 8 := v26
  have wb3 : wB wl_l zTr η3 := k3.1.1
  have bx3 : ((-1) : Int) ≤ x3 ∧ x3 ≤ 6 := k3.1.2.1
  have v27 : zEq (η3 0 41) (η 0 41) := (k3.1.2.2.2.1 0 41 (by decide +kernel)).trans v18
  have c3_0_41 : η3 0 41 = η 0 41 := v27
  have v28 : zEq (η3 0 43) (η 0 43) := (k3.1.2.2.2.1 0 43 (by decide +kernel)).trans v19
  have c3_0_43 : η3 0 43 = η 0 43 := v28
  have v29 : zEq (η3 0 42) (η 0 42) := (k3.1.2.2.2.1 0 42 (by decide +kernel)).trans v20
  have c3_0_42 : η3 0 42 = η 0 42 := v29
  have v30 : zEq (η3 0 45) (η 0 45) := (k3.1.2.2.2.1 0 45 (by decide +kernel)).trans v21
  have c3_0_45 : η3 0 45 = η 0 45 := v30
  have v31 : zEq (η3 0 19) (η 0 19) := (k3.1.2.2.2.1 0 19 (by decide +kernel)).trans v22
  have c3_0_19 : η3 0 19 = η 0 19 := v31
  have v32 : zEq (η3 0 44) (η 0 44) := (k3.1.2.2.2.1 0 44 (by decide +kernel)).trans v23
  have c3_0_44 : η3 0 44 = η 0 44 := v32
  have v33 : zEq (η3 0 7) (η 0 7) := (k3.1.2.2.2.1 0 7 (by decide +kernel)).trans v24
  have c3_0_7 : η3 0 7 = η 0 7 := v33
  have v34 : zEq (η3 0 6) (η 0 6) := (k3.1.2.2.2.1 0 6 (by decide +kernel)).trans v25
  have c3_0_6 : η3 0 6 = η 0 6 := v34
  have v35 : zEq (η3 0 8) (η 0 8) := (k3.1.2.2.2.1 0 8 (by decide +kernel)).trans v26
  have c3_0_8 : η3 0 8 = η 0 8 := v35
  have wb4 : wB wl_l zTr η4 := k4.1.1
  have bx4 : (0 : Int) ≤ x4 ∧ x4 ≤ 1 := k4.1.2.1
  have v36 : zEq (η4 0 41) (η 0 41) := (k4.1.2.2.2.1 0 41 (by decide +kernel)).trans v27
  have c4_0_41 : η4 0 41 = η 0 41 := v36
  have v37 : zEq (η4 0 43) (η 0 43) := (k4.1.2.2.2.1 0 43 (by decide +kernel)).trans v28
  have c4_0_43 : η4 0 43 = η 0 43 := v37
  have v38 : zEq (η4 0 42) (η 0 42) := (k4.1.2.2.2.1 0 42 (by decide +kernel)).trans v29
  have c4_0_42 : η4 0 42 = η 0 42 := v38
  have v39 : zEq (η4 0 45) (η 0 45) := (k4.1.2.2.2.1 0 45 (by decide +kernel)).trans v30
  have c4_0_45 : η4 0 45 = η 0 45 := v39
  have v40 : zEq (η4 0 19) (η 0 19) := (k4.1.2.2.2.1 0 19 (by decide +kernel)).trans v31
  have c4_0_19 : η4 0 19 = η 0 19 := v40
  have w4_0_44 : (0 : Int) ≤ η4 0 44 ∧ η4 0 44 ≤ 64 := wf_ok (a := 44) (b := 44) (z := (0, 64)) k4.1.1 (by decide +kernel) (Nat.le_refl _) (Nat.le_refl _)
  have c4_0_44 : η4 0 44 = η4 0 44 := rfl
  have v42 : zEq (η4 0 7) (η 0 7) := (k4.1.2.2.2.1 0 7 (by decide +kernel)).trans v33
  have c4_0_7 : η4 0 7 = η 0 7 := v42
  have v43 : zEq (η4 0 6) (η 0 6) := (k4.1.2.2.2.1 0 6 (by decide +kernel)).trans v34
  have c4_0_6 : η4 0 6 = η 0 6 := v43
  have v44 : zEq (η4 0 8) (η 0 8) := (k4.1.2.2.2.1 0 8 (by decide +kernel)).trans v35
  have c4_0_8 : η4 0 8 = η 0 8 := v44
  have wb5 : wB wl_l zTr η5 := k5.1.1
  have bx5 : (0 : Int) ≤ x5 ∧ x5 ≤ 0 := k5.1.2.1
  have v45 : zEq (η5 0 45) (η 0 45) := (k5.1.2.2.2.1 0 45 (by decide +kernel)).trans v39
  have c5_0_45 : η5 0 45 = η 0 45 := v45
  have wb6 : wB wl_l zTr η6 := by rw [eη6]; exact wk_ok (a := 45) (b := 45) (z := ((-2147483648), 2147483647)) zTr_k (GR := []) wb5 (by decide +kernel) (by decide) (by decide) (show ((-2147483648) : Int) ≤ 0 by omega) (show 0 ≤ (2147483647 : Int) by omega)
  have fm1 : zFm zMl_leafRead η η1 := zFm_tr2 zFm_rf k1.1.2.2.2.1 (by decide +kernel)
  have fm2 : zFm zMl_leafRead η η2 := zFm_tr2 fm1 k2.1.2.2.2.1 (by decide +kernel)
  have fm3 : zFm zMl_leafRead η η3 := zFm_tr2 fm2 k3.1.2.2.2.1 (by decide +kernel)
  have fm4 : zFm zMl_leafRead η η4 := zFm_tr2 fm3 k4.1.2.2.2.1 (by decide +kernel)
  have fm5 : zFm zMl_leafRead η η5 := zFm_tr2 fm4 k5.1.2.2.2.1 (by decide +kernel)
  have fm6 : zFm zMl_leafRead η η6 := by rw [eη6]; exact zFm_up fm5 rfl
  have fmE : zFm zMl_leafRead η η6 := fm6
  have fr22_0 : ∀ j, η 22 j = η 22 j := fun _ => rfl
  have v46 : ∀ j, η1 22 j = η 22 j := fun j => k1.1.2.2.2.1 22 _ (zinr_not (by decide +kernel))
  have fr22_1 : ∀ j, η1 22 j = η 22 j := v46
  have v47 : ∀ j, η2 22 j = η 22 j := fun j => (k2.1.2.2.2.1 22 _ (zinr_not (by decide +kernel))).trans (v46 j)
  have fr22_2 : ∀ j, η2 22 j = η 22 j := v47
  have v48 : ∀ j, η3 22 j = η 22 j := fun j => (k3.1.2.2.2.1 22 _ (zinr_not (by decide +kernel))).trans (v47 j)
  have fr22_3 : ∀ j, η3 22 j = η 22 j := v48
  have v49 : ∀ j, η4 22 j = η 22 j := fun j => (k4.1.2.2.2.1 22 _ (zinr_not (by decide +kernel))).trans (v48 j)
  have fr22_4 : ∀ j, η4 22 j = η 22 j := v49
  have v50 : ∀ j, η5 22 j = η 22 j := fun j => (k5.1.2.2.2.1 22 _ (zinr_not (by decide +kernel))).trans (v49 j)
  have fr22_5 : ∀ j, η5 22 j = η 22 j := v50
  have v51 : ∀ j, η6 22 j = η 22 j := fun j => by rw [eη6]; exact (zup_ne (fun e _ => absurd e (by decide))).trans (v50 j)
  have fr22_6 : ∀ j, η6 22 j = η 22 j := v51
  have fr22 : ∀ j, η6 22 j = η 22 j := v51
  have v52 : zEq (η5 0 41) (η 0 41) := (k5.1.2.2.2.1 0 41 (by decide +kernel)).trans v36
  have v53 : zEq (η6 0 41) (η 0 41) := by rw [eη6]; exact (zup_ne (fun _ e => absurd e (by decide))).trans v52
  have f0_41 : η6 0 41 = η 0 41 := v53
  have v54 : zEq (η5 0 43) (η 0 43) := (k5.1.2.2.2.1 0 43 (by decide +kernel)).trans v37
  have v55 : zEq (η6 0 43) (η 0 43) := by rw [eη6]; exact (zup_ne (fun _ e => absurd e (by decide))).trans v54
  have f0_43 : η6 0 43 = η 0 43 := v55
  have v57 : zEq (η6 0 42) (η5 0 42) := by rw [eη6]; exact (zup_ne (fun _ e => absurd e (by decide))).trans rfl
  have f0_42 : η6 0 42 = η5 0 42 := v57
  have v58 : zEq (η6 0 45) (0) := by rw [eη6]; exact zup_eq
  have f0_45 : η6 0 45 = 0 := v58
  have w5_0_19 : (0 : Int) ≤ η5 0 19 ∧ η5 0 19 ≤ 64 := wf_ok (a := 19) (b := 19) (z := (0, 64)) k5.1.1 (by decide +kernel) (Nat.le_refl _) (Nat.le_refl _)
  have v60 : zEq (η6 0 19) (η5 0 19) := by rw [eη6]; exact (zup_ne (fun _ e => absurd e (by decide))).trans rfl
  have f0_19 : η6 0 19 = η5 0 19 := v60
  have v61 : zEq (η5 0 44) (η4 0 44) := (k5.1.2.2.2.1 0 44 (by decide +kernel)).trans rfl
  have v62 : zEq (η6 0 44) (η4 0 44) := by rw [eη6]; exact (zup_ne (fun _ e => absurd e (by decide))).trans v61
  have f0_44 : η6 0 44 = η4 0 44 := v62
  have v63 : zEq (η5 0 7) (η 0 7) := (k5.1.2.2.2.1 0 7 (by decide +kernel)).trans v42
  have v64 : zEq (η6 0 7) (η 0 7) := by rw [eη6]; exact (zup_ne (fun _ e => absurd e (by decide))).trans v63
  have f0_7 : η6 0 7 = η 0 7 := v64
  have v65 : zEq (η5 0 6) (η 0 6) := (k5.1.2.2.2.1 0 6 (by decide +kernel)).trans v43
  have v66 : zEq (η6 0 6) (η 0 6) := by rw [eη6]; exact (zup_ne (fun _ e => absurd e (by decide))).trans v65
  have f0_6 : η6 0 6 = η 0 6 := v66
  have v67 : zEq (η5 0 8) (η 0 8) := (k5.1.2.2.2.1 0 8 (by decide +kernel)).trans v44
  have v68 : zEq (η6 0 8) (η 0 8) := by rw [eη6]; exact (zup_ne (fun _ e => absurd e (by decide))).trans v67
  have f0_8 : η6 0 8 = η 0 8 := v68
  have wbE : wB wl_l zTr η6 := wb6
  
  have I0 : H_l 0 0 0 η := hpp.1
  have I1 : H_l 0 0 0 η1 := k1.2.1
  have I2 : H_l 0 0 0 η2 := k2.2.1
  have I3 : H_l 0 0 0 η3 := k3.2.1
  have qk3 : η2 0 8 = 1 := k3.2.2 c3
  have I4 : H_l 1 0 0 η4 := k4.2.1 c5
  have I5 : H_l 0 0 1 η5 := k5.2.1 I4
  have qg5 : η5 0 19 = η4 0 19 + 1 := k5.2.2.2
  have I6 : H_l 0 0 0 η6 := by rw [eη6]; exact h_eq (wn_up I5) rfl rfl (by omega)
  exact I6
set_option maxHeartbeats 8000000 in
theorem zl_leafRead_o6 {ro : Nat → List Int32} (η : zE) (hp : sP wl_l zTr zPl_leafRead [] η) (hpp : pPl_leafRead [] η) : ∀ (x1 : Int) (η1 : zE), ((gC2 wl_l [(nat_lit 0, zPl_isSign, zOl_isSign, zMl_isSign), (nat_lit 1, zPl_wrong, zOl_wrong, zMl_wrong), (nat_lit 2, zPl_waitsFor0, zOl_waitsFor0, zMl_waitsFor0), (nat_lit 3, zPl_token, zOl_token, zMl_token), (nat_lit 4, zPl_isKey, zOl_isKey, zMl_isKey), (nat_lit 5, zPl_isCounted, zOl_isCounted, zMl_isCounted), (nat_lit 6, zPl_waitsFor2, zOl_waitsFor2, zMl_waitsFor2), (nat_lit 7, zPl_nameMet, zOl_nameMet, zMl_nameMet), (nat_lit 8, zPl_grown, zOl_grown, zMl_grown)] pCl_leafRead qCl_leafRead) 0).2 [40] η x1 η1 → (x1 = 0) → ∀ (x2 : Int) (η2 : zE), ((gC2 wl_l [(nat_lit 0, zPl_isSign, zOl_isSign, zMl_isSign), (nat_lit 1, zPl_wrong, zOl_wrong, zMl_wrong), (nat_lit 2, zPl_waitsFor0, zOl_waitsFor0, zMl_waitsFor0), (nat_lit 3, zPl_token, zOl_token, zMl_token), (nat_lit 4, zPl_isKey, zOl_isKey, zMl_isKey), (nat_lit 5, zPl_isCounted, zOl_isCounted, zMl_isCounted), (nat_lit 6, zPl_waitsFor2, zOl_waitsFor2, zMl_waitsFor2), (nat_lit 7, zPl_nameMet, zOl_nameMet, zMl_nameMet), (nat_lit 8, zPl_grown, zOl_grown, zMl_grown)] pCl_leafRead qCl_leafRead) 4).2 [12] η1 x2 η2 → (x2 = 0) → ∀ (x3 : Int) (η3 : zE), ((gC2 wl_l [(nat_lit 0, zPl_isSign, zOl_isSign, zMl_isSign), (nat_lit 1, zPl_wrong, zOl_wrong, zMl_wrong), (nat_lit 2, zPl_waitsFor0, zOl_waitsFor0, zMl_waitsFor0), (nat_lit 3, zPl_token, zOl_token, zMl_token), (nat_lit 4, zPl_isKey, zOl_isKey, zMl_isKey), (nat_lit 5, zPl_isCounted, zOl_isCounted, zMl_isCounted), (nat_lit 6, zPl_waitsFor2, zOl_waitsFor2, zMl_waitsFor2), (nat_lit 7, zPl_nameMet, zOl_nameMet, zMl_nameMet), (nat_lit 8, zPl_grown, zOl_grown, zMl_grown)] pCl_leafRead qCl_leafRead) 7).2 [] η2 x3 η3 → (0 ≤ x3) → (0 ≤ x3) → ∀ (x4 : Int) (η4 : zE), ((gC2 wl_l [(nat_lit 0, zPl_isSign, zOl_isSign, zMl_isSign), (nat_lit 1, zPl_wrong, zOl_wrong, zMl_wrong), (nat_lit 2, zPl_waitsFor0, zOl_waitsFor0, zMl_waitsFor0), (nat_lit 3, zPl_token, zOl_token, zMl_token), (nat_lit 4, zPl_isKey, zOl_isKey, zMl_isKey), (nat_lit 5, zPl_isCounted, zOl_isCounted, zMl_isCounted), (nat_lit 6, zPl_waitsFor2, zOl_waitsFor2, zMl_waitsFor2), (nat_lit 7, zPl_nameMet, zOl_nameMet, zMl_nameMet), (nat_lit 8, zPl_grown, zOl_grown, zMl_grown)] pCl_leafRead qCl_leafRead) 5).2 [] η3 x4 η4 → (¬ x4 = 0) → (0 ≤ x3) → (0 ≤ x3) → ∀ (x5 : Int) (η5 : zE), ((gC2 wl_l [(nat_lit 0, zPl_isSign, zOl_isSign, zMl_isSign), (nat_lit 1, zPl_wrong, zOl_wrong, zMl_wrong), (nat_lit 2, zPl_waitsFor0, zOl_waitsFor0, zMl_waitsFor0), (nat_lit 3, zPl_token, zOl_token, zMl_token), (nat_lit 4, zPl_isKey, zOl_isKey, zMl_isKey), (nat_lit 5, zPl_isCounted, zOl_isCounted, zMl_isCounted), (nat_lit 6, zPl_waitsFor2, zOl_waitsFor2, zMl_waitsFor2), (nat_lit 7, zPl_nameMet, zOl_nameMet, zMl_nameMet), (nat_lit 8, zPl_grown, zOl_grown, zMl_grown)] pCl_leafRead qCl_leafRead) 8).2 [1, x3, 0] η4 x5 η5 → ∀ η6 : zE, η6 = zup η5 0 (Int.toNat 45) 0 → ∀ (x6 : Int) (η7 : zE), ((gC2 wl_l [(nat_lit 0, zPl_isSign, zOl_isSign, zMl_isSign), (nat_lit 1, zPl_wrong, zOl_wrong, zMl_wrong), (nat_lit 2, zPl_waitsFor0, zOl_waitsFor0, zMl_waitsFor0), (nat_lit 3, zPl_token, zOl_token, zMl_token), (nat_lit 4, zPl_isKey, zOl_isKey, zMl_isKey), (nat_lit 5, zPl_isCounted, zOl_isCounted, zMl_isCounted), (nat_lit 6, zPl_waitsFor2, zOl_waitsFor2, zMl_waitsFor2), (nat_lit 7, zPl_nameMet, zOl_nameMet, zMl_nameMet), (nat_lit 8, zPl_grown, zOl_grown, zMl_grown)] pCl_leafRead qCl_leafRead) 3).2 [] η6 x6 η7 → (fun (_ : Nat) (y : Int) (η' : zE) => pQl_leafRead [] η y η') 0 1 η7 := by
  have hw : η 0 45 = 1 := hpp.2
  have hs : η 0 7 ≤ η 0 6 := hpp.1.1.1.1
  have bd43 : (0 : Int) ≤ η 0 43 ∧ η 0 43 ≤ 8 := wf_ok (a := 43) (b := 43) (z := (0, 8)) hp.1 (by decide +kernel) (Nat.le_refl _) (Nat.le_refl _)
  have bd44 : (0 : Int) ≤ η 0 44 ∧ η 0 44 ≤ 64 := wf_ok (a := 44) (b := 44) (z := (0, 64)) hp.1 (by decide +kernel) (Nat.le_refl _) (Nat.le_refl _)
  have bd19 : (0 : Int) ≤ η 0 19 ∧ η 0 19 ≤ 64 := wf_ok (a := 19) (b := 19) (z := (0, 64)) hp.1 (by decide +kernel) (Nat.le_refl _) (Nat.le_refl _)
  intro x1 η1 h1 c1 x2 η2 h2 c2 x3 η3 h3 c3 c4 x4 η4 h4 c5 c6 c7 x5 η5 h5 η6 eη6 x6 η7 h6
  have k1 : sQ wl_l zTr zOl_isSign zMl_isSign [40] η x1 η1 ∧ pQl_isSign [40] η x1 η1 := h1
  have k2 : sQ wl_l zTr zOl_isKey zMl_isKey [12] η1 x2 η2 ∧ pQl_isKey [12] η1 x2 η2 := h2
  have k3 : sQ wl_l zTr zOl_nameMet zMl_nameMet [] η2 x3 η3 ∧ pQl_nameMet [] η2 x3 η3 := h3
  have k4 : sQ wl_l zTr zOl_isCounted zMl_isCounted [] η3 x4 η4 ∧ pQl_isCounted [] η3 x4 η4 := h4
  have k5 : sQ wl_l zTr zOl_grown zMl_grown [1, x3, 0] η4 x5 η5 ∧ pQl_grown [1, x3, 0] η4 x5 η5 := h5
  have k6 : sQ wl_l zTr zOl_token zMl_token [] η6 x6 η7 ∧ pQl_token [] η6 x6 η7 := h6
  have c0_0_41 : η 0 41 = η 0 41 := rfl
  have w0_0_43 : (0 : Int) ≤ η 0 43 ∧ η 0 43 ≤ 8 := wf_ok (a := 43) (b := 43) (z := (0, 8)) hp.1 (by decide +kernel) (Nat.le_refl _) (Nat.le_refl _)
  have c0_0_43 : η 0 43 = η 0 43 := rfl
  have c0_0_42 : η 0 42 = η 0 42 := rfl
  have c0_0_45 : η 0 45 = η 0 45 := rfl
  have w0_0_19 : (0 : Int) ≤ η 0 19 ∧ η 0 19 ≤ 64 := wf_ok (a := 19) (b := 19) (z := (0, 64)) hp.1 (by decide +kernel) (Nat.le_refl _) (Nat.le_refl _)
  have c0_0_19 : η 0 19 = η 0 19 := rfl
  have w0_0_44 : (0 : Int) ≤ η 0 44 ∧ η 0 44 ≤ 64 := wf_ok (a := 44) (b := 44) (z := (0, 64)) hp.1 (by decide +kernel) (Nat.le_refl _) (Nat.le_refl _)
  have c0_0_44 : η 0 44 = η 0 44 := rfl
  have w0_0_7 : (0 : Int) ≤ η 0 7 ∧ η 0 7 ≤ 700 := wf_ok (a := 7) (b := 7) (z := (0, 700)) hp.1 (by decide +kernel) (Nat.le_refl _) (Nat.le_refl _)
  have c0_0_7 : η 0 7 = η 0 7 := rfl
  have w0_0_6 : (0 : Int) ≤ η 0 6 ∧ η 0 6 ≤ 700 := wf_ok (a := 6) (b := 6) (z := (0, 700)) hp.1 (by decide +kernel) (Nat.le_refl _) (Nat.le_refl _)
  have c0_0_6 : η 0 6 = η 0 6 := rfl
  have w0_0_8 : (0 : Int) ≤ η 0 8 ∧ η 0 8 ≤ 6 := wf_ok (a := 8) (b := 8) (z := (0, 6)) hp.1 (by decide +kernel) (Nat.le_refl _) (Nat.le_refl _)
  have c0_0_8 : η 0 8 = η 0 8 := rfl
  have wb1 : wB wl_l zTr η1 := k1.1.1
  have bx1 : (0 : Int) ≤ x1 ∧ x1 ≤ 1 := k1.1.2.1
  have v9 : zEq (η1 0 41) (η 0 41) := (k1.1.2.2.2.1 0 41 (by decide +kernel)).trans rfl
  have c1_0_41 : η1 0 41 = η 0 41 := v9
  have v10 : zEq (η1 0 43) (η 0 43) := (k1.1.2.2.2.1 0 43 (by decide +kernel)).trans rfl
  have c1_0_43 : η1 0 43 = η 0 43 := v10
  have v11 : zEq (η1 0 42) (η 0 42) := (k1.1.2.2.2.1 0 42 (by decide +kernel)).trans rfl
  have c1_0_42 : η1 0 42 = η 0 42 := v11
  have v12 : zEq (η1 0 45) (η 0 45) := (k1.1.2.2.2.1 0 45 (by decide +kernel)).trans rfl
  have c1_0_45 : η1 0 45 = η 0 45 := v12
  have v13 : zEq (η1 0 19) (η 0 19) := (k1.1.2.2.2.1 0 19 (by decide +kernel)).trans rfl
  have c1_0_19 : η1 0 19 = η 0 19 := v13
  have v14 : zEq (η1 0 44) (η 0 44) := (k1.1.2.2.2.1 0 44 (by decide +kernel)).trans rfl
  have c1_0_44 : η1 0 44 = η 0 44 := v14
  have v15 : zEq (η1 0 7) (η 0 7) := (k1.1.2.2.2.1 0 7 (by decide +kernel)).trans rfl
  have c1_0_7 : η1 0 7 = η 0 7 := v15
  have v16 : zEq (η1 0 6) (η 0 6) := (k1.1.2.2.2.1 0 6 (by decide +kernel)).trans rfl
  have c1_0_6 : η1 0 6 = η 0 6 := v16
  have v17 : zEq (η1 0 8) (η 0 8) := (k1.1.2.2.2.1 0 8 (by decide +kernel)).trans rfl
  have c1_0_8 : η1 0 8 = η 0 8 := v17
  have wb2 : wB wl_l zTr η2 := k2.1.1
  have bx2 : (0 : Int) ≤ x2 ∧ x2 ≤ 1 := k2.1.2.1
  have v18 : zEq (η2 0 41) (η 0 41) := (k2.1.2.2.2.1 0 41 (by decide +kernel)).trans v9
  have c2_0_41 : η2 0 41 = η 0 41 := v18
  have v19 : zEq (η2 0 43) (η 0 43) := (k2.1.2.2.2.1 0 43 (by decide +kernel)).trans v10
  have c2_0_43 : η2 0 43 = η 0 43 := v19
  have v20 : zEq (η2 0 42) (η 0 42) := (k2.1.2.2.2.1 0 42 (by decide +kernel)).trans v11
  have c2_0_42 : η2 0 42 = η 0 42 := v20
  have v21 : zEq (η2 0 45) (η 0 45) := (k2.1.2.2.2.1 0 45 (by decide +kernel)).trans v12
  have c2_0_45 : η2 0 45 = η 0 45 := v21
  have v22 : zEq (η2 0 19) (η 0 19) := (k2.1.2.2.2.1 0 19 (by decide +kernel)).trans v13
  have c2_0_19 : η2 0 19 = η 0 19 := v22
  have v23 : zEq (η2 0 44) (η 0 44) := (k2.1.2.2.2.1 0 44 (by decide +kernel)).trans v14
  have c2_0_44 : η2 0 44 = η 0 44 := v23
  have v24 : zEq (η2 0 7) (η 0 7) := (k2.1.2.2.2.1 0 7 (by decide +kernel)).trans v15
  have c2_0_7 : η2 0 7 = η 0 7 := v24
  have v25 : zEq (η2 0 6) (η 0 6) := (k2.1.2.2.2.1 0 6 (by decide +kernel)).trans v16
  have c2_0_6 : η2 0 6 = η 0 6 := v25
  have v26 : zEq (η2 0 8) (η 0 8) := (k2.1.2.2.2.1 0 8 (by decide +kernel)).trans v17
  have c2_0_8 : η2 0 8 = η 0 8 := v26
  have wb3 : wB wl_l zTr η3 := k3.1.1
  have bx3 : ((-1) : Int) ≤ x3 ∧ x3 ≤ 6 := k3.1.2.1
  have v27 : zEq (η3 0 41) (η 0 41) := (k3.1.2.2.2.1 0 41 (by decide +kernel)).trans v18
  have c3_0_41 : η3 0 41 = η 0 41 := v27
  have v28 : zEq (η3 0 43) (η 0 43) := (k3.1.2.2.2.1 0 43 (by decide +kernel)).trans v19
  have c3_0_43 : η3 0 43 = η 0 43 := v28
  have v29 : zEq (η3 0 42) (η 0 42) := (k3.1.2.2.2.1 0 42 (by decide +kernel)).trans v20
  have c3_0_42 : η3 0 42 = η 0 42 := v29
  have v30 : zEq (η3 0 45) (η 0 45) := (k3.1.2.2.2.1 0 45 (by decide +kernel)).trans v21
  have c3_0_45 : η3 0 45 = η 0 45 := v30
  have v31 : zEq (η3 0 19) (η 0 19) := (k3.1.2.2.2.1 0 19 (by decide +kernel)).trans v22
  have c3_0_19 : η3 0 19 = η 0 19 := v31
  have v32 : zEq (η3 0 44) (η 0 44) := (k3.1.2.2.2.1 0 44 (by decide +kernel)).trans v23
  have c3_0_44 : η3 0 44 = η 0 44 := v32
  have v33 : zEq (η3 0 7) (η 0 7) := (k3.1.2.2.2.1 0 7 (by decide +kernel)).trans v24
  have c3_0_7 : η3 0 7 = η 0 7 := v33
  have v34 : zEq (η3 0 6) (η 0 6) := (k3.1.2.2.2.1 0 6 (by decide +kernel)).trans v25
  have c3_0_6 : η3 0 6 = η 0 6 := v34
  have v35 : zEq (η3 0 8) (η 0 8) := (k3.1.2.2.2.1 0 8 (by decide +kernel)).trans v26
  have c3_0_8 : η3 0 8 = η 0 8 := v35
  have wb4 : wB wl_l zTr η4 := k4.1.1
  have bx4 : (0 : Int) ≤ x4 ∧ x4 ≤ 1 := k4.1.2.1
  have v36 : zEq (η4 0 41) (η 0 41) := (k4.1.2.2.2.1 0 41 (by decide +kernel)).trans v27
  have c4_0_41 : η4 0 41 = η 0 41 := v36
  have v37 : zEq (η4 0 43) (η 0 43) := (k4.1.2.2.2.1 0 43 (by decide +kernel)).trans v28
  have c4_0_43 : η4 0 43 = η 0 43 := v37
  have v38 : zEq (η4 0 42) (η 0 42) := (k4.1.2.2.2.1 0 42 (by decide +kernel)).trans v29
  have c4_0_42 : η4 0 42 = η 0 42 := v38
  have v39 : zEq (η4 0 45) (η 0 45) := (k4.1.2.2.2.1 0 45 (by decide +kernel)).trans v30
  have c4_0_45 : η4 0 45 = η 0 45 := v39
  have v40 : zEq (η4 0 19) (η 0 19) := (k4.1.2.2.2.1 0 19 (by decide +kernel)).trans v31
  have c4_0_19 : η4 0 19 = η 0 19 := v40
  have w4_0_44 : (0 : Int) ≤ η4 0 44 ∧ η4 0 44 ≤ 64 := wf_ok (a := 44) (b := 44) (z := (0, 64)) k4.1.1 (by decide +kernel) (Nat.le_refl _) (Nat.le_refl _)
  have c4_0_44 : η4 0 44 = η4 0 44 := rfl
  have v42 : zEq (η4 0 7) (η 0 7) := (k4.1.2.2.2.1 0 7 (by decide +kernel)).trans v33
  have c4_0_7 : η4 0 7 = η 0 7 := v42
  have v43 : zEq (η4 0 6) (η 0 6) := (k4.1.2.2.2.1 0 6 (by decide +kernel)).trans v34
  have c4_0_6 : η4 0 6 = η 0 6 := v43
  have v44 : zEq (η4 0 8) (η 0 8) := (k4.1.2.2.2.1 0 8 (by decide +kernel)).trans v35
  have c4_0_8 : η4 0 8 = η 0 8 := v44
  have wb5 : wB wl_l zTr η5 := k5.1.1
  have bx5 : (0 : Int) ≤ x5 ∧ x5 ≤ 0 := k5.1.2.1
  have v45 : zEq (η5 0 45) (η 0 45) := (k5.1.2.2.2.1 0 45 (by decide +kernel)).trans v39
  have c5_0_45 : η5 0 45 = η 0 45 := v45
  have wb6 : wB wl_l zTr η6 := by rw [eη6]; exact wk_ok (a := 45) (b := 45) (z := ((-2147483648), 2147483647)) zTr_k (GR := []) wb5 (by decide +kernel) (by decide) (by decide) (show ((-2147483648) : Int) ≤ 0 by omega) (show 0 ≤ (2147483647 : Int) by omega)
  have v46 : zEq (η5 0 41) (η 0 41) := (k5.1.2.2.2.1 0 41 (by decide +kernel)).trans v36
  have v47 : zEq (η6 0 41) (η 0 41) := by rw [eη6]; exact (zup_ne (fun _ e => absurd e (by decide))).trans v46
  have c6_0_41 : η6 0 41 = η 0 41 := v47
  have v48 : zEq (η5 0 43) (η 0 43) := (k5.1.2.2.2.1 0 43 (by decide +kernel)).trans v37
  have v49 : zEq (η6 0 43) (η 0 43) := by rw [eη6]; exact (zup_ne (fun _ e => absurd e (by decide))).trans v48
  have c6_0_43 : η6 0 43 = η 0 43 := v49
  have v51 : zEq (η6 0 42) (η5 0 42) := by rw [eη6]; exact (zup_ne (fun _ e => absurd e (by decide))).trans rfl
  have c6_0_42 : η6 0 42 = η5 0 42 := v51
  have v52 : zEq (η6 0 45) (0) := by rw [eη6]; exact zup_eq
  have c6_0_45 : η6 0 45 = 0 := v52
  have w5_0_19 : (0 : Int) ≤ η5 0 19 ∧ η5 0 19 ≤ 64 := wf_ok (a := 19) (b := 19) (z := (0, 64)) k5.1.1 (by decide +kernel) (Nat.le_refl _) (Nat.le_refl _)
  have v54 : zEq (η6 0 19) (η5 0 19) := by rw [eη6]; exact (zup_ne (fun _ e => absurd e (by decide))).trans rfl
  have c6_0_19 : η6 0 19 = η5 0 19 := v54
  have v55 : zEq (η5 0 44) (η4 0 44) := (k5.1.2.2.2.1 0 44 (by decide +kernel)).trans rfl
  have v56 : zEq (η6 0 44) (η4 0 44) := by rw [eη6]; exact (zup_ne (fun _ e => absurd e (by decide))).trans v55
  have c6_0_44 : η6 0 44 = η4 0 44 := v56
  have v57 : zEq (η5 0 7) (η 0 7) := (k5.1.2.2.2.1 0 7 (by decide +kernel)).trans v42
  have v58 : zEq (η6 0 7) (η 0 7) := by rw [eη6]; exact (zup_ne (fun _ e => absurd e (by decide))).trans v57
  have c6_0_7 : η6 0 7 = η 0 7 := v58
  have v59 : zEq (η5 0 6) (η 0 6) := (k5.1.2.2.2.1 0 6 (by decide +kernel)).trans v43
  have v60 : zEq (η6 0 6) (η 0 6) := by rw [eη6]; exact (zup_ne (fun _ e => absurd e (by decide))).trans v59
  have c6_0_6 : η6 0 6 = η 0 6 := v60
  have v61 : zEq (η5 0 8) (η 0 8) := (k5.1.2.2.2.1 0 8 (by decide +kernel)).trans v44
  have v62 : zEq (η6 0 8) (η 0 8) := by rw [eη6]; exact (zup_ne (fun _ e => absurd e (by decide))).trans v61
  have c6_0_8 : η6 0 8 = η 0 8 := v62
  have wb7 : wB wl_l zTr η7 := k6.1.1
  have bx6 : (0 : Int) ≤ x6 ∧ x6 ≤ 0 := k6.1.2.1
  have fm1 : zFm zMl_leafRead η η1 := zFm_tr2 zFm_rf k1.1.2.2.2.1 (by decide +kernel)
  have fm2 : zFm zMl_leafRead η η2 := zFm_tr2 fm1 k2.1.2.2.2.1 (by decide +kernel)
  have fm3 : zFm zMl_leafRead η η3 := zFm_tr2 fm2 k3.1.2.2.2.1 (by decide +kernel)
  have fm4 : zFm zMl_leafRead η η4 := zFm_tr2 fm3 k4.1.2.2.2.1 (by decide +kernel)
  have fm5 : zFm zMl_leafRead η η5 := zFm_tr2 fm4 k5.1.2.2.2.1 (by decide +kernel)
  have fm6 : zFm zMl_leafRead η η6 := by rw [eη6]; exact zFm_up fm5 rfl
  have fm7 : zFm zMl_leafRead η η7 := zFm_tr2 fm6 k6.1.2.2.2.1 (by decide +kernel)
  have fmE : zFm zMl_leafRead η η7 := fm7
  have fr22_0 : ∀ j, η 22 j = η 22 j := fun _ => rfl
  have v63 : ∀ j, η1 22 j = η 22 j := fun j => k1.1.2.2.2.1 22 _ (zinr_not (by decide +kernel))
  have fr22_1 : ∀ j, η1 22 j = η 22 j := v63
  have v64 : ∀ j, η2 22 j = η 22 j := fun j => (k2.1.2.2.2.1 22 _ (zinr_not (by decide +kernel))).trans (v63 j)
  have fr22_2 : ∀ j, η2 22 j = η 22 j := v64
  have v65 : ∀ j, η3 22 j = η 22 j := fun j => (k3.1.2.2.2.1 22 _ (zinr_not (by decide +kernel))).trans (v64 j)
  have fr22_3 : ∀ j, η3 22 j = η 22 j := v65
  have v66 : ∀ j, η4 22 j = η 22 j := fun j => (k4.1.2.2.2.1 22 _ (zinr_not (by decide +kernel))).trans (v65 j)
  have fr22_4 : ∀ j, η4 22 j = η 22 j := v66
  have v67 : ∀ j, η5 22 j = η 22 j := fun j => (k5.1.2.2.2.1 22 _ (zinr_not (by decide +kernel))).trans (v66 j)
  have fr22_5 : ∀ j, η5 22 j = η 22 j := v67
  have v68 : ∀ j, η6 22 j = η 22 j := fun j => by rw [eη6]; exact (zup_ne (fun e _ => absurd e (by decide))).trans (v67 j)
  have fr22_6 : ∀ j, η6 22 j = η 22 j := v68
  have v69 : ∀ j, η7 22 j = η 22 j := fun j => (k6.1.2.2.2.1 22 _ (zinr_not (by decide +kernel))).trans (v68 j)
  have fr22_7 : ∀ j, η7 22 j = η 22 j := v69
  have fr22 : ∀ j, η7 22 j = η 22 j := v69
  have v70 : zEq (η7 0 41) (η 0 41) := (k6.1.2.2.2.1 0 41 (by decide +kernel)).trans v47
  have f0_41 : η7 0 41 = η 0 41 := v70
  have v71 : zEq (η7 0 43) (η 0 43) := (k6.1.2.2.2.1 0 43 (by decide +kernel)).trans v49
  have f0_43 : η7 0 43 = η 0 43 := v71
  have v72 : zEq (η7 0 42) (η5 0 42) := (k6.1.2.2.2.1 0 42 (by decide +kernel)).trans v51
  have f0_42 : η7 0 42 = η5 0 42 := v72
  have v73 : zEq (η7 0 45) (0) := (k6.1.2.2.2.1 0 45 (by decide +kernel)).trans v52
  have f0_45 : η7 0 45 = 0 := v73
  have v74 : zEq (η7 0 19) (η5 0 19) := (k6.1.2.2.2.1 0 19 (by decide +kernel)).trans v54
  have f0_19 : η7 0 19 = η5 0 19 := v74
  have v75 : zEq (η7 0 44) (η4 0 44) := (k6.1.2.2.2.1 0 44 (by decide +kernel)).trans v56
  have f0_44 : η7 0 44 = η4 0 44 := v75
  have w7_0_7 : (0 : Int) ≤ η7 0 7 ∧ η7 0 7 ≤ 700 := wf_ok (a := 7) (b := 7) (z := (0, 700)) k6.1.1 (by decide +kernel) (Nat.le_refl _) (Nat.le_refl _)
  have f0_7 : η7 0 7 = η7 0 7 := rfl
  have v77 : zEq (η7 0 6) (η 0 6) := (k6.1.2.2.2.1 0 6 (by decide +kernel)).trans v60
  have f0_6 : η7 0 6 = η 0 6 := v77
  have w7_0_8 : (0 : Int) ≤ η7 0 8 ∧ η7 0 8 ≤ 6 := wf_ok (a := 8) (b := 8) (z := (0, 6)) k6.1.1 (by decide +kernel) (Nat.le_refl _) (Nat.le_refl _)
  have f0_8 : η7 0 8 = η7 0 8 := rfl
  have wbE : wB wl_l zTr η7 := wb7
  
  have I0 : H_l 0 0 0 η := hpp.1
  have I1 : H_l 0 0 0 η1 := k1.2.1
  have I2 : H_l 0 0 0 η2 := k2.2.1
  have I3 : H_l 0 0 0 η3 := k3.2.1
  have qk3 : η2 0 8 = 1 := k3.2.2 c3
  have I4 : H_l 1 0 0 η4 := k4.2.1 c5
  have I5 : H_l 0 0 1 η5 := k5.2.1 I4
  have qg5 : η5 0 19 = η4 0 19 + 1 := k5.2.2.2
  have I6 : H_l 0 0 0 η6 := by rw [eη6]; exact h_eq (wn_up I5) rfl rfl (by omega)
  have I7 : H_l 0 0 0 η7 := k6.2.1
  have qt6 : ¬ η6 0 8 = 0 → 10 * (η7 0 6 - η7 0 7) + η7 0 8 < 10 * (η6 0 6 - η6 0 7) + η6 0 8 := k6.2.2
  refine ⟨I7.1, fun _ => ⟨I7, show 10 * (η7 0 6 - η7 0 7) + η7 0 8 < 10 * (η 0 6 - η 0 7) + η 0 8 by omega, fun w => ?_⟩⟩
  have w : η7 0 45 = 0 := w
  omega
