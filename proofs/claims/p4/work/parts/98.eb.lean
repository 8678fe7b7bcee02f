set_option maxHeartbeats 8000000 in
theorem zl_leafRead_o0 {ro : Nat → List Int32} (η : zE) (hp : sP wl_l zTr zPl_leafRead [] η) (hpp : pPl_leafRead [] η) : ((gC2 wl_l [(nat_lit 0, zPl_isSign, zOl_isSign, zMl_isSign), (nat_lit 1, zPl_wrong, zOl_wrong, zMl_wrong), (nat_lit 2, zPl_waitsFor0, zOl_waitsFor0, zMl_waitsFor0), (nat_lit 3, zPl_token, zOl_token, zMl_token), (nat_lit 4, zPl_isKey, zOl_isKey, zMl_isKey), (nat_lit 5, zPl_isCounted, zOl_isCounted, zMl_isCounted), (nat_lit 6, zPl_waitsFor2, zOl_waitsFor2, zMl_waitsFor2), (nat_lit 7, zPl_nameMet, zOl_nameMet, zMl_nameMet), (nat_lit 8, zPl_grown, zOl_grown, zMl_grown)] pCl_leafRead qCl_leafRead) 0).1 [40] η := by
  have hw : η 0 45 = 1 := hpp.2
  have hs : η 0 7 ≤ η 0 6 := hpp.1.1.1.1
  have bd43 : (0 : Int) ≤ η 0 43 ∧ η 0 43 ≤ 8 := wf_ok (a := 43) (b := 43) (z := (0, 8)) hp.1 (by decide +kernel) (Nat.le_refl _) (Nat.le_refl _)
  have bd44 : (0 : Int) ≤ η 0 44 ∧ η 0 44 ≤ 64 := wf_ok (a := 44) (b := 44) (z := (0, 64)) hp.1 (by decide +kernel) (Nat.le_refl _) (Nat.le_refl _)
  have bd19 : (0 : Int) ≤ η 0 19 ∧ η 0 19 ≤ 64 := wf_ok (a := 19) (b := 19) (z := (0, 64)) hp.1 (by decide +kernel) (Nat.le_refl _) (Nat.le_refl _)
  have fmE : zFm zMl_leafRead η η := zFm_rf
  have fr22_0 : ∀ j, η 22 j = η 22 j := fun _ => rfl
  have fr22 : ∀ j, η 22 j = η 22 j := fun _ => rfl
  have f0_41 : η 0 41 = η 0 41 := rfl
  have w0_0_43 : (0 : Int) ≤ η 0 43 ∧ η 0 43 ≤ 8 := wf_ok (a := 43) (b := 43) (z := (0, 8)) hp.1 (by decide +kernel) (Nat.le_refl _) (Nat.le_refl _)
  have f0_43 : η 0 43 = η 0 43 := rfl
  have f0_42 : η 0 42 = η 0 42 := rfl
  have f0_45 : η 0 45 = η 0 45 := rfl
  have w0_0_19 : (0 : Int) ≤ η 0 19 ∧ η 0 19 ≤ 64 := wf_ok (a := 19) (b := 19) (z := (0, 64)) hp.1 (by decide +kernel) (Nat.le_refl _) (Nat.le_refl _)
  have f0_19 : η 0 19 = η 0 19 := rfl
  have w0_0_44 : (0 : Int) ≤ η 0 44 ∧ η 0 44 ≤ 64 := wf_ok (a := 44) (b := 44) (z := (0, 64)) hp.1 (by decide +kernel) (Nat.le_refl _) (Nat.le_refl _)
  have f0_44 : η 0 44 = η 0 44 := rfl
  have w0_0_7 : (0 : Int) ≤ η 0 7 ∧ η 0 7 ≤ 700 := wf_ok (a := 7) (b := 7) (z := (0, 700)) hp.1 (by decide +kernel) (Nat.le_refl _) (Nat.le_refl _)
  have f0_7 : η 0 7 = η 0 7 := rfl
  have w0_0_6 : (0 : Int) ≤ η 0 6 ∧ η 0 6 ≤ 700 := wf_ok (a := 6) (b := 6) (z := (0, 700)) hp.1 (by decide +kernel) (Nat.le_refl _) (Nat.le_refl _)
  have f0_6 : η 0 6 = η 0 6 := rfl
  have w0_0_8 : (0 : Int) ≤ η 0 8 ∧ η 0 8 ≤ 6 := wf_ok (a := 8) (b := 8) (z := (0, 6)) hp.1 (by decide +kernel) (Nat.le_refl _) (Nat.le_refl _)
  have f0_8 : η 0 8 = η 0 8 := rfl
  have wbE : wB wl_l zTr η := hp.1
  
  have I0 : H_l 0 0 0 η := hpp.1
  exact I0
set_option maxHeartbeats 8000000 in
theorem zl_leafRead_o1 {ro : Nat → List Int32} (η : zE) (hp : sP wl_l zTr zPl_leafRead [] η) (hpp : pPl_leafRead [] η) : ∀ (x1 : Int) (η1 : zE), ((gC2 wl_l [(nat_lit 0, zPl_isSign, zOl_isSign, zMl_isSign), (nat_lit 1, zPl_wrong, zOl_wrong, zMl_wrong), (nat_lit 2, zPl_waitsFor0, zOl_waitsFor0, zMl_waitsFor0), (nat_lit 3, zPl_token, zOl_token, zMl_token), (nat_lit 4, zPl_isKey, zOl_isKey, zMl_isKey), (nat_lit 5, zPl_isCounted, zOl_isCounted, zMl_isCounted), (nat_lit 6, zPl_waitsFor2, zOl_waitsFor2, zMl_waitsFor2), (nat_lit 7, zPl_nameMet, zOl_nameMet, zMl_nameMet), (nat_lit 8, zPl_grown, zOl_grown, zMl_grown)] pCl_leafRead qCl_leafRead) 0).2 [40] η x1 η1 → (x1 = 0) → ((gC2 wl_l [(nat_lit 0, zPl_isSign, zOl_isSign, zMl_isSign), (nat_lit 1, zPl_wrong, zOl_wrong, zMl_wrong), (nat_lit 2, zPl_waitsFor0, zOl_waitsFor0, zMl_waitsFor0), (nat_lit 3, zPl_token, zOl_token, zMl_token), (nat_lit 4, zPl_isKey, zOl_isKey, zMl_isKey), (nat_lit 5, zPl_isCounted, zOl_isCounted, zMl_isCounted), (nat_lit 6, zPl_waitsFor2, zOl_waitsFor2, zMl_waitsFor2), (nat_lit 7, zPl_nameMet, zOl_nameMet, zMl_nameMet), (nat_lit 8, zPl_grown, zOl_grown, zMl_grown)] pCl_leafRead qCl_leafRead) 4).1 [12] η1 := by
  have hw : η 0 45 = 1 := hpp.2
  have hs : η 0 7 ≤ η 0 6 := hpp.1.1.1.1
  have bd43 : (0 : Int) ≤ η 0 43 ∧ η 0 43 ≤ 8 := wf_ok (a := 43) (b := 43) (z := (0, 8)) hp.1 (by decide +kernel) (Nat.le_refl _) (Nat.le_refl _)
  have bd44 : (0 : Int) ≤ η 0 44 ∧ η 0 44 ≤ 64 := wf_ok (a := 44) (b := 44) (z := (0, 64)) hp.1 (by decide +kernel) (Nat.le_refl _) (Nat.le_refl _)
  have bd19 : (0 : Int) ≤ η 0 19 ∧ η 0 19 ≤ 64 := wf_ok (a := 19) (b := 19) (z := (0, 64)) hp.1 (by decide +kernel) (Nat.le_refl _) (Nat.le_refl _)
  intro x1 η1 h1 c1
  have k1 : sQ wl_l zTr zOl_isSign zMl_isSign [40] η x1 η1 ∧ pQl_isSign [40] η x1 η1 := h1
  have w0_0_8 : (0 : Int) ≤ η 0 8 ∧ η 0 8 ≤ 6 := wf_ok (a := 8) (b := 8) (z := (0, 6)) hp.1 (by decide +kernel) (Nat.le_refl _) (Nat.le_refl _)
  have c0_0_8 : η 0 8 = η 0 8 := rfl
  have wb1 : wB wl_l zTr η1 := k1.1.1
  have bx1 : (0 : Int) ≤ x1 ∧ x1 ≤ 1 := k1.1.2.1
  have fm1 : zFm zMl_leafRead η η1 := zFm_tr2 zFm_rf k1.1.2.2.2.1 (by decide +kernel)
  have fmE : zFm zMl_leafRead η η1 := fm1
  have fr22_0 : ∀ j, η 22 j = η 22 j := fun _ => rfl
  have v1 : ∀ j, η1 22 j = η 22 j := fun j => k1.1.2.2.2.1 22 _ (zinr_not (by decide +kernel))
  have fr22_1 : ∀ j, η1 22 j = η 22 j := v1
  have fr22 : ∀ j, η1 22 j = η 22 j := v1
  have v3 : zEq (η1 0 41) (η 0 41) := (k1.1.2.2.2.1 0 41 (by decide +kernel)).trans rfl
  have f0_41 : η1 0 41 = η 0 41 := v3
  have w0_0_43 : (0 : Int) ≤ η 0 43 ∧ η 0 43 ≤ 8 := wf_ok (a := 43) (b := 43) (z := (0, 8)) hp.1 (by decide +kernel) (Nat.le_refl _) (Nat.le_refl _)
  have v5 : zEq (η1 0 43) (η 0 43) := (k1.1.2.2.2.1 0 43 (by decide +kernel)).trans rfl
  have f0_43 : η1 0 43 = η 0 43 := v5
  have v7 : zEq (η1 0 42) (η 0 42) := (k1.1.2.2.2.1 0 42 (by decide +kernel)).trans rfl
  have f0_42 : η1 0 42 = η 0 42 := v7
  have v9 : zEq (η1 0 45) (η 0 45) := (k1.1.2.2.2.1 0 45 (by decide +kernel)).trans rfl
  have f0_45 : η1 0 45 = η 0 45 := v9
  have w0_0_19 : (0 : Int) ≤ η 0 19 ∧ η 0 19 ≤ 64 := wf_ok (a := 19) (b := 19) (z := (0, 64)) hp.1 (by decide +kernel) (Nat.le_refl _) (Nat.le_refl _)
  have v11 : zEq (η1 0 19) (η 0 19) := (k1.1.2.2.2.1 0 19 (by decide +kernel)).trans rfl
  have f0_19 : η1 0 19 = η 0 19 := v11
  have w0_0_44 : (0 : Int) ≤ η 0 44 ∧ η 0 44 ≤ 64 := wf_ok (a := 44) (b := 44) (z := (0, 64)) hp.1 (by decide +kernel) (Nat.le_refl _) (Nat.le_refl _)
  have v13 : zEq (η1 0 44) (η 0 44) := (k1.1.2.2.2.1 0 44 (by decide +kernel)).trans rfl
  have f0_44 : η1 0 44 = η 0 44 := v13
  have w0_0_7 : (0 : Int) ≤ η 0 7 ∧ η 0 7 ≤ 700 := wf_ok (a := 7) (b := 7) (z := (0, 700)) hp.1 (by decide +kernel) (Nat.le_refl _) (Nat.le_refl _)
  have v15 : zEq (η1 0 7) (η 0 7) := (k1.1.2.2.2.1 0 7 (by decide +kernel)).trans rfl
  have f0_7 : η1 0 7 = η 0 7 := v15
  have w0_0_6 : (0 : Int) ≤ η 0 6 ∧ η 0 6 ≤ 700 := wf_ok (a := 6) (b := 6) (z := (0, 700)) hp.1 (by decide +kernel) (Nat.le_refl _) (Nat.le_refl _)
  have v17 : zEq (η1 0 6) (η 0 6) := (k1.1.2.2.2.1 0 6 (by decide +kernel)).trans rfl
  have f0_6 : η1 0 6 = η 0 6 := v17
  have v18 : zEq (η1 0 8) (η 0 8) := (k1.1.2.2.2.1 0 8 (by decide +kernel)).trans rfl
  have f0_8 : η1 0 8 = η 0 8 := v18
  have wbE : wB wl_l zTr η1 := wb1
  
  have I0 : H_l 0 0 0 η := hpp.1
  have I1 : H_l 0 0 0 η1 := k1.2.1
  exact I1
set_option maxHeartbeats 8000000 in
theorem zl_leafRead_o2 {ro : Nat → List Int32} (η : zE) (hp : sP wl_l zTr zPl_leafRead [] η) (hpp : pPl_leafRead [] η) : ∀ (x1 : Int) (η1 : zE), ((gC2 wl_l [(nat_lit 0, zPl_isSign, zOl_isSign, zMl_isSign), (nat_lit 1, zPl_wrong, zOl_wrong, zMl_wrong), (nat_lit 2, zPl_waitsFor0, zOl_waitsFor0, zMl_waitsFor0), (nat_lit 3, zPl_token, zOl_token, zMl_token), (nat_lit 4, zPl_isKey, zOl_isKey, zMl_isKey), (nat_lit 5, zPl_isCounted, zOl_isCounted, zMl_isCounted), (nat_lit 6, zPl_waitsFor2, zOl_waitsFor2, zMl_waitsFor2), (nat_lit 7, zPl_nameMet, zOl_nameMet, zMl_nameMet), (nat_lit 8, zPl_grown, zOl_grown, zMl_grown)] pCl_leafRead qCl_leafRead) 0).2 [40] η x1 η1 → (x1 = 0) → ∀ (x2 : Int) (η2 : zE), ((gC2 wl_l [(nat_lit 0, zPl_isSign, zOl_isSign, zMl_isSign), (nat_lit 1, zPl_wrong, zOl_wrong, zMl_wrong), (nat_lit 2, zPl_waitsFor0, zOl_waitsFor0, zMl_waitsFor0), (nat_lit 3, zPl_token, zOl_token, zMl_token), (nat_lit 4, zPl_isKey, zOl_isKey, zMl_isKey), (nat_lit 5, zPl_isCounted, zOl_isCounted, zMl_isCounted), (nat_lit 6, zPl_waitsFor2, zOl_waitsFor2, zMl_waitsFor2), (nat_lit 7, zPl_nameMet, zOl_nameMet, zMl_nameMet), (nat_lit 8, zPl_grown, zOl_grown, zMl_grown)] pCl_leafRead qCl_leafRead) 4).2 [12] η1 x2 η2 → (x2 = 0) → ((gC2 wl_l [(nat_lit 0, zPl_isSign, zOl_isSign, zMl_isSign), (nat_lit 1, zPl_wrong, zOl_wrong, zMl_wrong), (nat_lit 2, zPl_waitsFor0, zOl_waitsFor0, zMl_waitsFor0), (nat_lit 3, zPl_token, zOl_token, zMl_token), (nat_lit 4, zPl_isKey, zOl_isKey, zMl_isKey), (nat_lit 5, zPl_isCounted, zOl_isCounted, zMl_isCounted), (nat_lit 6, zPl_waitsFor2, zOl_waitsFor2, zMl_waitsFor2), (nat_lit 7, zPl_nameMet, zOl_nameMet, zMl_nameMet), (nat_lit 8, zPl_grown, zOl_grown, zMl_grown)] pCl_leafRead qCl_leafRead) 7).1 [] η2 := by
  have hw : η 0 45 = 1 := hpp.2
  have hs : η 0 7 ≤ η 0 6 := hpp.1.1.1.1
  have bd43 : (0 : Int) ≤ η 0 43 ∧ η 0 43 ≤ 8 := wf_ok (a := 43) (b := 43) (z := (0, 8)) hp.1 (by decide +kernel) (Nat.le_refl _) (Nat.le_refl _)
  have bd44 : (0 : Int) ≤ η 0 44 ∧ η 0 44 ≤ 64 := wf_ok (a := 44) (b := 44) (z := (0, 64)) hp.1 (by decide +kernel) (Nat.le_refl _) (Nat.le_refl _)
  have bd19 : (0 : Int) ≤ η 0 19 ∧ η 0 19 ≤ 64 := wf_ok (a := 19) (b := 19) (z := (0, 64)) hp.1 (by decide +kernel) (Nat.le_refl _) (Nat.le_refl _)
  intro x1 η1 h1 c1 x2 η2 h2 c2
  have k1 : sQ wl_l zTr zOl_isSign zMl_isSign [40] η x1 η1 ∧ pQl_isSign [40] η x1 η1 := h1
  have k2 : sQ wl_l zTr zOl_isKey zMl_isKey [12] η1 x2 η2 ∧ pQl_isKey [12] η1 x2 η2 := h2
  have w0_0_8 : (0 : Int) ≤ η 0 8 ∧ η 0 8 ≤ 6 := wf_ok (a := 8) (b := 8) (z := (0, 6)) hp.1 (by decide +kernel) (Nat.le_refl _) (Nat.le_refl _)
  have c0_0_8 : η 0 8 = η 0 8 := rfl
  have wb1 : wB wl_l zTr η1 := k1.1.1
  have bx1 : (0 : Int) ≤ x1 ∧ x1 ≤ 1 := k1.1.2.1
  have v1 : zEq (η1 0 8) (η 0 8) := (k1.1.2.2.2.1 0 8 (by decide +kernel)).trans rfl
  have c1_0_8 : η1 0 8 = η 0 8 := v1
  have wb2 : wB wl_l zTr η2 := k2.1.1
  have bx2 : (0 : Int) ≤ x2 ∧ x2 ≤ 1 := k2.1.2.1
  have fm1 : zFm zMl_leafRead η η1 := zFm_tr2 zFm_rf k1.1.2.2.2.1 (by decide +kernel)
  have fm2 : zFm zMl_leafRead η η2 := zFm_tr2 fm1 k2.1.2.2.2.1 (by decide +kernel)
  have fmE : zFm zMl_leafRead η η2 := fm2
  have fr22_0 : ∀ j, η 22 j = η 22 j := fun _ => rfl
  have v2 : ∀ j, η1 22 j = η 22 j := fun j => k1.1.2.2.2.1 22 _ (zinr_not (by decide +kernel))
  have fr22_1 : ∀ j, η1 22 j = η 22 j := v2
  have v3 : ∀ j, η2 22 j = η 22 j := fun j => (k2.1.2.2.2.1 22 _ (zinr_not (by decide +kernel))).trans (v2 j)
  have fr22_2 : ∀ j, η2 22 j = η 22 j := v3
  have fr22 : ∀ j, η2 22 j = η 22 j := v3
  have v5 : zEq (η1 0 41) (η 0 41) := (k1.1.2.2.2.1 0 41 (by decide +kernel)).trans rfl
  have v6 : zEq (η2 0 41) (η 0 41) := (k2.1.2.2.2.1 0 41 (by decide +kernel)).trans v5
  have f0_41 : η2 0 41 = η 0 41 := v6
  have w0_0_43 : (0 : Int) ≤ η 0 43 ∧ η 0 43 ≤ 8 := wf_ok (a := 43) (b := 43) (z := (0, 8)) hp.1 (by decide +kernel) (Nat.le_refl _) (Nat.le_refl _)
  have v8 : zEq (η1 0 43) (η 0 43) := (k1.1.2.2.2.1 0 43 (by decide +kernel)).trans rfl
  have v9 : zEq (η2 0 43) (η 0 43) := (k2.1.2.2.2.1 0 43 (by decide +kernel)).trans v8
  have f0_43 : η2 0 43 = η 0 43 := v9
  have v11 : zEq (η1 0 42) (η 0 42) := (k1.1.2.2.2.1 0 42 (by decide +kernel)).trans rfl
  have v12 : zEq (η2 0 42) (η 0 42) := (k2.1.2.2.2.1 0 42 (by decide +kernel)).trans v11
  have f0_42 : η2 0 42 = η 0 42 := v12
  have v14 : zEq (η1 0 45) (η 0 45) := (k1.1.2.2.2.1 0 45 (by decide +kernel)).trans rfl
  have v15 : zEq (η2 0 45) (η 0 45) := (k2.1.2.2.2.1 0 45 (by decide +kernel)).trans v14
  have f0_45 : η2 0 45 = η 0 45 := v15
  have w0_0_19 : (0 : Int) ≤ η 0 19 ∧ η 0 19 ≤ 64 := wf_ok (a := 19) (b := 19) (z := (0, 64)) hp.1 (by decide +kernel) (Nat.le_refl _) (Nat.le_refl _)
  have v17 : zEq (η1 0 19) (η 0 19) := (k1.1.2.2.2.1 0 19 (by decide +kernel)).trans rfl
  have v18 : zEq (η2 0 19) (η 0 19) := (k2.1.2.2.2.1 0 19 (by decide +kernel)).trans v17
  have f0_19 : η2 0 19 = η 0 19 := v18
  have w0_0_44 : (0 : Int) ≤ η 0 44 ∧ η 0 44 ≤ 64 := wf_ok (a := 44) (b := 44) (z := (0, 64)) hp.1 (by decide +kernel) (Nat.le_refl _) (Nat.le_refl _)
  have v20 : zEq (η1 0 44) (η 0 44) := (k1.1.2.2.2.1 0 44 (by decide +kernel)).trans rfl
  have v21 : zEq (η2 0 44) (η 0 44) := (k2.1.2.2.2.1 0 44 (by decide +kernel)).trans v20
  have f0_44 : η2 0 44 = η 0 44 := v21
  have w0_0_7 : (0 : Int) ≤ η 0 7 ∧ η 0 7 ≤ 700 := wf_ok (a := 7) (b := 7) (z := (0, 700)) hp.1 (by decide +kernel) (Nat.le_refl _) (Nat.le_refl _)
  have v23 : zEq (η1 0 7) (η 0 7) := (k1.1.2.2.2.1 0 7 (by decide +kernel)).trans rfl
  have v24 : zEq (η2 0 7) (η 0 7) := (k2.1.2.2.2.1 0 7 (by decide +kernel)).trans v23
  have f0_7 : η2 0 7 = η 0 7 := v24
  have w0_0_6 : (0 : Int) ≤ η 0 6 ∧ η 0 6 ≤ 700 := wf_ok (a := 6) (b := 6) (z := (0, 700)) hp.1 (by decide +kernel) (Nat.le_refl _) (Nat.le_refl _)
  have v26 : zEq (η1 0 6) (η 0 6) := (k1.1.2.2.2.1 0 6 (by decide +kernel)).trans rfl
  have v27 : zEq (η2 0 6) (η 0 6) := (k2.1.2.2.2.1 0 6 (by decide +kernel)).trans v26
  have f0_6 : η2 0 6 = η 0 6 := v27
  have v28 : zEq (η2 0 8) (η 0 8) := (k2.1.2.2.2.1 0 8 (by decide +kernel)).trans v1
  have f0_8 : η2 0 8 = η 0 8 := v28
  have wbE : wB wl_l zTr η2 := wb2
  
  have I0 : H_l 0 0 0 η := hpp.1
  have I1 : H_l 0 0 0 η1 := k1.2.1
  have I2 : H_l 0 0 0 η2 := k2.2.1
  exact I2
set_option maxHeartbeats 8000000 in
theorem zl_leafRead_o3 {ro : Nat → List Int32} (η : zE) (hp : sP wl_l zTr zPl_leafRead [] η) (hpp : pPl_leafRead [] η) : ∀ (x1 : Int) (η1 : zE), ((gC2 wl_l [(nat_lit 0, zPl_isSign, zOl_isSign, zMl_isSign), (nat_lit 1, zPl_wrong, zOl_wrong, zMl_wrong), (nat_lit 2, zPl_waitsFor0, zOl_waitsFor0, zMl_waitsFor0), (nat_lit 3, zPl_token, zOl_token, zMl_token), (nat_lit 4, zPl_isKey, zOl_isKey, zMl_isKey), (nat_lit 5, zPl_isCounted, zOl_isCounted, zMl_isCounted), (nat_lit 6, zPl_waitsFor2, zOl_waitsFor2, zMl_waitsFor2), (nat_lit 7, zPl_nameMet, zOl_nameMet, zMl_nameMet), (nat_lit 8, zPl_grown, zOl_grown, zMl_grown)] pCl_leafRead qCl_leafRead) 0).2 [40] η x1 η1 → (x1 = 0) → ∀ (x2 : Int) (η2 : zE), ((gC2 wl_l [(nat_lit 0, zPl_isSign, zOl_isSign, zMl_isSign), (nat_lit 1, zPl_wrong, zOl_wrong, zMl_wrong), (nat_lit 2, zPl_waitsFor0, zOl_waitsFor0, zMl_waitsFor0), (nat_lit 3, zPl_token, zOl_token, zMl_token), (nat_lit 4, zPl_isKey, zOl_isKey, zMl_isKey), (nat_lit 5, zPl_isCounted, zOl_isCounted, zMl_isCounted), (nat_lit 6, zPl_waitsFor2, zOl_waitsFor2, zMl_waitsFor2), (nat_lit 7, zPl_nameMet, zOl_nameMet, zMl_nameMet), (nat_lit 8, zPl_grown, zOl_grown, zMl_grown)] pCl_leafRead qCl_leafRead) 4).2 [12] η1 x2 η2 → (x2 = 0) → ∀ (x3 : Int) (η3 : zE), ((gC2 wl_l [(nat_lit 0, zPl_isSign, zOl_isSign, zMl_isSign), (nat_lit 1, zPl_wrong, zOl_wrong, zMl_wrong), (nat_lit 2, zPl_waitsFor0, zOl_waitsFor0, zMl_waitsFor0), (nat_lit 3, zPl_token, zOl_token, zMl_token), (nat_lit 4, zPl_isKey, zOl_isKey, zMl_isKey), (nat_lit 5, zPl_isCounted, zOl_isCounted, zMl_isCounted), (nat_lit 6, zPl_waitsFor2, zOl_waitsFor2, zMl_waitsFor2), (nat_lit 7, zPl_nameMet, zOl_nameMet, zMl_nameMet), (nat_lit 8, zPl_grown, zOl_grown, zMl_grown)] pCl_leafRead qCl_leafRead) 7).2 [] η2 x3 η3 → (0 ≤ x3) → (0 ≤ x3) → ((gC2 wl_l [(nat_lit 0, zPl_isSign, zOl_isSign, zMl_isSign), (nat_lit 1, zPl_wrong, zOl_wrong, zMl_wrong), (nat_lit 2, zPl_waitsFor0, zOl_waitsFor0, zMl_waitsFor0), (nat_lit 3, zPl_token, zOl_token, zMl_token), (nat_lit 4, zPl_isKey, zOl_isKey, zMl_isKey), (nat_lit 5, zPl_isCounted, zOl_isCounted, zMl_isCounted), (nat_lit 6, zPl_waitsFor2, zOl_waitsFor2, zMl_waitsFor2), (nat_lit 7, zPl_nameMet, zOl_nameMet, zMl_nameMet), (nat_lit 8, zPl_grown, zOl_grown, zMl_grown)] pCl_leafRead qCl_leafRead) 5).1 [] η3 := by
  have hw : η 0 45 = 1 := hpp.2
  have hs : η 0 7 ≤ η 0 6 := hpp.1.1.1.1
  have bd43 : (0 : Int) ≤ η 0 43 ∧ η 0 43 ≤ 8 := wf_ok (a := 43) (b := 43) (z := (0, 8)) hp.1 (by decide +kernel) (Nat.le_refl _) (Nat.le_refl _)
  have bd44 : (0 : Int) ≤ η 0 44 ∧ η 0 44 ≤ 64 := wf_ok (a := 44) (b := 44) (z := (0, 64)) hp.1 (by decide +kernel) (Nat.le_refl _) (Nat.le_refl _)
  have bd19 : (0 : Int) ≤ η 0 19 ∧ η 0 19 ≤ 64 := wf_ok (a := 19) (b := 19) (z := (0, 64)) hp.1 (by decide +kernel) (Nat.le_refl _) (Nat.le_refl _)
  intro x1 η1 h1 c1 x2 η2 h2 c2 x3 η3 h3 c3 c4
  have k1 : sQ wl_l zTr zOl_isSign zMl_isSign [40] η x1 η1 ∧ pQl_isSign [40] η x1 η1 := h1
  have k2 : sQ wl_l zTr zOl_isKey zMl_isKey [12] η1 x2 η2 ∧ pQl_isKey [12] η1 x2 η2 := h2
  have k3 : sQ wl_l zTr zOl_nameMet zMl_nameMet [] η2 x3 η3 ∧ pQl_nameMet [] η2 x3 η3 := h3
  have w0_0_8 : (0 : Int) ≤ η 0 8 ∧ η 0 8 ≤ 6 := wf_ok (a := 8) (b := 8) (z := (0, 6)) hp.1 (by decide +kernel) (Nat.le_refl _) (Nat.le_refl _)
  have c0_0_8 : η 0 8 = η 0 8 := rfl
  have wb1 : wB wl_l zTr η1 := k1.1.1
  have bx1 : (0 : Int) ≤ x1 ∧ x1 ≤ 1 := k1.1.2.1
  have v1 : zEq (η1 0 8) (η 0 8) := (k1.1.2.2.2.1 0 8 (by decide +kernel)).trans rfl
  have c1_0_8 : η1 0 8 = η 0 8 := v1
  have wb2 : wB wl_l zTr η2 := k2.1.1
  have bx2 : (0 : Int) ≤ x2 ∧ x2 ≤ 1 := k2.1.2.1
  have v2 : zEq (η2 0 8) (η 0 8) := (k2.1.2.2.2.1 0 8 (by decide +kernel)).trans v1
  have c2_0_8 : η2 0 8 = η 0 8 := v2
  have wb3 : wB wl_l zTr η3 := k3.1.1
  have bx3 : ((-1) : Int) ≤ x3 ∧ x3 ≤ 6 := k3.1.2.1
  have fm1 : zFm zMl_leafRead η η1 := zFm_tr2 zFm_rf k1.1.2.2.2.1 (by decide +kernel)
  have fm2 : zFm zMl_leafRead η η2 := zFm_tr2 fm1 k2.1.2.2.2.1 (by decide +kernel)
  have fm3 : zFm zMl_leafRead η η3 := zFm_tr2 fm2 k3.1.2.2.2.1 (by decide +kernel)
  have fmE : zFm zMl_leafRead η η3 := fm3
  have fr22_0 : ∀ j, η 22 j = η 22 j := fun _ => rfl
  have v3 : ∀ j, η1 22 j = η 22 j := fun j => k1.1.2.2.2.1 22 _ (zinr_not (by decide +kernel))
  have fr22_1 : ∀ j, η1 22 j = η 22 j := v3
  have v4 : ∀ j, η2 22 j = η 22 j := fun j => (k2.1.2.2.2.1 22 _ (zinr_not (by decide +kernel))).trans (v3 j)
  have fr22_2 : ∀ j, η2 22 j = η 22 j := v4
  have v5 : ∀ j, η3 22 j = η 22 j := fun j => (k3.1.2.2.2.1 22 _ (zinr_not (by decide +kernel))).trans (v4 j)
  have fr22_3 : ∀ j, η3 22 j = η 22 j := v5
  have fr22 : ∀ j, η3 22 j = η 22 j := v5
  have v7 : zEq (η1 0 41) (η 0 41) := (k1.1.2.2.2.1 0 41 (by decide +kernel)).trans rfl
  have v8 : zEq (η2 0 41) (η 0 41) := (k2.1.2.2.2.1 0 41 (by decide +kernel)).trans v7
  have v9 : zEq (η3 0 41) (η 0 41) := (k3.1.2.2.2.1 0 41 (by decide +kernel)).trans v8
  have f0_41 : η3 0 41 = η 0 41 := v9
  have w0_0_43 : (0 : Int) ≤ η 0 43 ∧ η 0 43 ≤ 8 := wf_ok (a := 43) (b := 43) (z := (0, 8)) hp.1 (by decide +kernel) (Nat.le_refl _) (Nat.le_refl _)
  have v11 : zEq (η1 0 43) (η 0 43) := (k1.1.2.2.2.1 0 43 (by decide +kernel)).trans rfl
  have v12 : zEq (η2 0 43) (η 0 43) := (k2.1.2.2.2.1 0 43 (by decide +kernel)).trans v11
  have v13 : zEq (η3 0 43) (η 0 43) := (k3.1.2.2.2.1 0 43 (by decide +kernel)).trans v12
  have f0_43 : η3 0 43 = η 0 43 := v13
  have v15 : zEq (η1 0 42) (η 0 42) := (k1.1.2.2.2.1 0 42 (by decide +kernel)).trans rfl
  have v16 : zEq (η2 0 42) (η 0 42) := (k2.1.2.2.2.1 0 42 (by decide +kernel)).trans v15
  have v17 : zEq (η3 0 42) (η 0 42) := (k3.1.2.2.2.1 0 42 (by decide +kernel)).trans v16
  have f0_42 : η3 0 42 = η 0 42 := v17
  have v19 : zEq (η1 0 45) (η 0 45) := (k1.1.2.2.2.1 0 45 (by decide +kernel)).trans rfl
  have v20 : zEq (η2 0 45) (η 0 45) := (k2.1.2.2.2.1 0 45 (by decide +kernel)).trans v19
  have v21 : zEq (η3 0 45) (η 0 45) := (k3.1.2.2.2.1 0 45 (by decide +kernel)).trans v20
  have f0_45 : η3 0 45 = η 0 45 := v21
  have w0_0_19 : (0 : Int) ≤ η 0 19 ∧ η 0 19 ≤ 64 := wf_ok (a := 19) (b := 19) (z := (0, 64)) hp.1 (by decide +kernel) (Nat.le_refl _) (Nat.le_refl _)
  have v23 : zEq (η1 0 19) (η 0 19) := (k1.1.2.2.2.1 0 19 (by decide +kernel)).trans rfl
  have v24 : zEq (η2 0 19) (η 0 19) := (k2.1.2.2.2.1 0 19 (by decide +kernel)).trans v23
  have v25 : zEq (η3 0 19) (η 0 19) := (k3.1.2.2.2.1 0 19 (by decide +kernel)).trans v24
  have f0_19 : η3 0 19 = η 0 19 := v25
  have w0_0_44 : (0 : Int) ≤ η 0 44 ∧ η 0 44 ≤ 64 := wf_ok (a := 44) (b := 44) (z := (0, 64)) hp.1 (by decide +kernel) (Nat.le_refl _) (Nat.le_refl _)
  have v27 : zEq (η1 0 44) (η 0 44) := (k1.1.2.2.2.1 0 44 (by decide +kernel)).trans rfl
  have v28 : zEq (η2 0 44) (η 0 44) := (k2.1.2.2.2.1 0 44 (by decide +kernel)).trans v27
  have v29 : zEq (η3 0 44) (η 0 44) := (k3.1.2.2.2.1 0 44 (by decide +kernel)).trans v28
  have f0_44 : η3 0 44 = η 0 44 := v29
  have w0_0_7 : (0 : Int) ≤ η 0 7 ∧ η 0 7 ≤ 700 := wf_ok (a := 7) (b := 7) (z := (0, 700)) hp.1 (by decide +kernel) (Nat.le_refl _) (Nat.le_refl _)
  have v31 : zEq (η1 0 7) (η 0 7) := (k1.1.2.2.2.1 0 7 (by decide +kernel)).trans rfl
  have v32 : zEq (η2 0 7) (η 0 7) := (k2.1.2.2.2.1 0 7 (by decide +kernel)).trans v31
  have v33 : zEq (η3 0 7) (η 0 7) := (k3.1.2.2.2.1 0 7 (by decide +kernel)).trans v32
  have f0_7 : η3 0 7 = η 0 7 := v33
  have w0_0_6 : (0 : Int) ≤ η 0 6 ∧ η 0 6 ≤ 700 := wf_ok (a := 6) (b := 6) (z := (0, 700)) hp.1 (by decide +kernel) (Nat.le_refl _) (Nat.le_refl _)
  have v35 : zEq (η1 0 6) (η 0 6) := (k1.1.2.2.2.1 0 6 (by decide +kernel)).trans rfl
  have v36 : zEq (η2 0 6) (η 0 6) := (k2.1.2.2.2.1 0 6 (by decide +kernel)).trans v35
  have v37 : zEq (η3 0 6) (η 0 6) := (k3.1.2.2.2.1 0 6 (by decide +kernel)).trans v36
  have f0_6 : η3 0 6 = η 0 6 := v37
  have v38 : zEq (η3 0 8) (η 0 8) := (k3.1.2.2.2.1 0 8 (by decide +kernel)).trans v2
  have f0_8 : η3 0 8 = η 0 8 := v38
  have wbE : wB wl_l zTr η3 := wb3
  
  have I0 : H_l 0 0 0 η := hpp.1
  have I1 : H_l 0 0 0 η1 := k1.2.1
  have I2 : H_l 0 0 0 η2 := k2.2.1
  have I3 : H_l 0 0 0 η3 := k3.2.1
  have qk3 : η2 0 8 = 1 := k3.2.2 c3
  exact I3
set_option maxHeartbeats 8000000 in
theorem zl_leafRead_o4 {ro : Nat → List Int32} (η : zE) (hp : sP wl_l zTr zPl_leafRead [] η) (hpp : pPl_leafRead [] η) : ∀ (x1 : Int) (η1 : zE), ((gC2 wl_l [(nat_lit 0, zPl_isSign, zOl_isSign, zMl_isSign), (nat_lit 1, zPl_wrong, zOl_wrong, zMl_wrong), (nat_lit 2, zPl_waitsFor0, zOl_waitsFor0, zMl_waitsFor0), (nat_lit 3, zPl_token, zOl_token, zMl_token), (nat_lit 4, zPl_isKey, zOl_isKey, zMl_isKey), (nat_lit 5, zPl_isCounted, zOl_isCounted, zMl_isCounted), (nat_lit 6, zPl_waitsFor2, zOl_waitsFor2, zMl_waitsFor2), (nat_lit 7, zPl_nameMet, zOl_nameMet, zMl_nameMet), (nat_lit 8, zPl_grown, zOl_grown, zMl_grown)] pCl_leafRead qCl_leafRead) 0).2 [40] η x1 η1 → (x1 = 0) → ∀ (x2 : Int) (η2 : zE), ((gC2 wl_l [(nat_lit 0, zPl_isSign, zOl_isSign, zMl_isSign), (nat_lit 1, zPl_wrong, zOl_wrong, zMl_wrong), (nat_lit 2, zPl_waitsFor0, zOl_waitsFor0, zMl_waitsFor0), (nat_lit 3, zPl_token, zOl_token, zMl_token), (nat_lit 4, zPl_isKey, zOl_isKey, zMl_isKey), (nat_lit 5, zPl_isCounted, zOl_isCounted, zMl_isCounted), (nat_lit 6, zPl_waitsFor2, zOl_waitsFor2, zMl_waitsFor2), (nat_lit 7, zPl_nameMet, zOl_nameMet, zMl_nameMet), (nat_lit 8, zPl_grown, zOl_grown, zMl_grown)] pCl_leafRead qCl_leafRead) 4).2 [12] η1 x2 η2 → (x2 = 0) → ∀ (x3 : Int) (η3 : zE), ((gC2 wl_l [(nat_lit 0, zPl_isSign, zOl_isSign, zMl_isSign), (nat_lit 1, zPl_wrong, zOl_wrong, zMl_wrong), (nat_lit 2, zPl_waitsFor0, zOl_waitsFor0, zMl_waitsFor0), (nat_lit 3, zPl_token, zOl_token, zMl_token), (nat_lit 4, zPl_isKey, zOl_isKey, zMl_isKey), (nat_lit 5, zPl_isCounted, zOl_isCounted, zMl_isCounted), (nat_lit 6, zPl_waitsFor2, zOl_waitsFor2, zMl_waitsFor2), (nat_lit 7, zPl_nameMet, zOl_nameMet, zMl_nameMet), (nat_lit 8, zPl_grown, zOl_grown, zMl_grown)] pCl_leafRead qCl_leafRead) 7).2 [] η2 x3 η3 → (0 ≤ x3) → (0 ≤ x3) → ∀ (x4 : Int) (η4 : zE), ((gC2 wl_l [(nat_lit 0, zPl_isSign, zOl_isSign, zMl_isSign), (nat_lit 1, zPl_wrong, zOl_wrong, zMl_wrong), (nat_lit 2, zPl_waitsFor0, zOl_waitsFor0, zMl_waitsFor0), (nat_lit 3, zPl_token, zOl_token, zMl_token), (nat_lit 4, zPl_isKey, zOl_isKey, zMl_isKey), (nat_lit 5, zPl_isCounted, zOl_isCounted, zMl_isCounted), (nat_lit 6, zPl_waitsFor2, zOl_waitsFor2, zMl_waitsFor2), (nat_lit 7, zPl_nameMet, zOl_nameMet, zMl_nameMet), (nat_lit 8, zPl_grown, zOl_grown, zMl_grown)] pCl_leafRead qCl_leafRead) 5).2 [] η3 x4 η4 → (¬ x4 = 0) → (0 ≤ x3) → (0 ≤ x3) → ((gC2 wl_l [(nat_lit 0, zPl_isSign, zOl_isSign, zMl_isSign), (nat_lit 1, zPl_wrong, zOl_wrong, zMl_wrong), (nat_lit 2, zPl_waitsFor0, zOl_waitsFor0, zMl_waitsFor0), (nat_lit 3, zPl_token, zOl_token, zMl_token), (nat_lit 4, zPl_isKey, zOl_isKey, zMl_isKey), (nat_lit 5, zPl_isCounted, zOl_isCounted, zMl_isCounted), (nat_lit 6, zPl_waitsFor2, zOl_waitsFor2, zMl_waitsFor2), (nat_lit 7, zPl_nameMet, zOl_nameMet, zMl_nameMet), (nat_lit 8, zPl_grown, zOl_grown, zMl_grown)] pCl_leafRead qCl_leafRead) 8).1 [1, x3, 0] η4 := by
  have hw : η 0 45 = 1 := hpp.2
  have hs : η 0 7 ≤ η 0 6 := hpp.1.1.1.1
  have bd43 : (0 : Int) ≤ η 0 43 ∧ η 0 43 ≤ 8 := wf_ok (a := 43) (b := 43) (z := (0, 8)) hp.1 (by decide +kernel) (Nat.le_refl _) (Nat.le_refl _)
  have bd44 : (0 : Int) ≤ η 0 44 ∧ η 0 44 ≤ 64 := wf_ok (a := 44) (b := 44) (z := (0, 64)) hp.1 (by decide +kernel) (Nat.le_refl _) (Nat.le_refl _)
  have bd19 : (0 : Int) ≤ η 0 19 ∧ η 0 19 ≤ 64 := wf_ok (a := 19) (b := 19) (z := (0, 64)) hp.1 (by decide +kernel) (Nat.le_refl _) (Nat.le_refl _)
  intro x1 η1 h1 c1 x2 η2 h2 c2 x3 η3 h3 c3 c4 x4 η4 h4 c5 c6 c7
  have k1 : sQ wl_l zTr zOl_isSign zMl_isSign [40] η x1 η1 ∧ pQl_isSign [40] η x1 η1 := h1
  have k2 : sQ wl_l zTr zOl_isKey zMl_isKey [12] η1 x2 η2 ∧ pQl_isKey [12] η1 x2 η2 := h2
  have k3 : sQ wl_l zTr zOl_nameMet zMl_nameMet [] η2 x3 η3 ∧ pQl_nameMet [] η2 x3 η3 := h3
  have k4 : sQ wl_l zTr zOl_isCounted zMl_isCounted [] η3 x4 η4 ∧ pQl_isCounted [] η3 x4 η4 := h4
  have w0_0_8 : (0 : Int) ≤ η 0 8 ∧ η 0 8 ≤ 6 := wf_ok (a := 8) (b := 8) (z := (0, 6)) hp.1 (by decide +kernel) (Nat.le_refl _) (Nat.le_refl _)
  have c0_0_8 : η 0 8 = η 0 8 := rfl
  have wb1 : wB wl_l zTr η1 := k1.1.1
  have bx1 : (0 : Int) ≤ x1 ∧ x1 ≤ 1 := k1.1.2.1
  have v1 : zEq (η1 0 8) (η 0 8) := (k1.1.2.2.2.1 0 8 (by decide +kernel)).trans rfl
  have c1_0_8 : η1 0 8 = η 0 8 := v1
  have wb2 : wB wl_l zTr η2 := k2.1.1
  have bx2 : (0 : Int) ≤ x2 ∧ x2 ≤ 1 := k2.1.2.1
  have v2 : zEq (η2 0 8) (η 0 8) := (k2.1.2.2.2.1 0 8 (by decide +kernel)).trans v1
  have c2_0_8 : η2 0 8 = η 0 8 := v2
  have wb3 : wB wl_l zTr η3 := k3.1.1
  have bx3 : ((-1) : Int) ≤ x3 ∧ x3 ≤ 6 := k3.1.2.1
  have v3 : zEq (η3 0 8) (η 0 8) := (k3.1.2.2.2.1 0 8 (by decide +kernel)).trans v2
  have c3_0_8 : η3 0 8 = η 0 8 := v3
  have wb4 : wB wl_l zTr η4 := k4.1.1
  have bx4 : (0 : Int) ≤ x4 ∧ x4 ≤ 1 := k4.1.2.1
  have fm1 : zFm zMl_leafRead η η1 := zFm_tr2 zFm_rf k1.1.2.2.2.1 (by decide +kernel)
  have fm2 : zFm zMl_leafRead η η2 := zFm_tr2 fm1 k2.1.2.2.2.1 (by decide +kernel)
  have fm3 : zFm zMl_leafRead η η3 := zFm_tr2 fm2 k3.1.2.2.2.1 (by decide +kernel)
  have fm4 : zFm zMl_leafRead η η4 := zFm_tr2 fm3 k4.1.2.2.2.1 (by decide +kernel)
  have fmE : zFm zMl_leafRead η η4 := fm4
  have fr22_0 : ∀ j, η 22 j = η 22 j := fun _ => rfl
  have v4 : ∀ j, η1 22 j = η 22 j := fun j => k1.1.2.2.2.1 22 _ (zinr_not (by decide +kernel))
  have fr22_1 : ∀ j, η1 22 j = η 22 j := v4
  have v5 : ∀ j, η2 22 j = η 22 j := fun j => (k2.1.2.2.2.1 22 _ (zinr_not (by decide +kernel))).trans (v4 j)
  have fr22_2 : ∀ j, η2 22 j = η 22 j := v5
  have v6 : ∀ j, η3 22 j = η 22 j := fun j => (k3.1.2.2.2.1 22 _ (zinr_not (by decide +kernel))).trans (v5 j)
  have fr22_3 : ∀ j, η3 22 j = η 22 j := v6
  have v7 : ∀ j, η4 22 j = η 22 j := fun j => (k4.1.2.2.2.1 22 _ (zinr_not (by decide +kernel))).trans (v6 j)
  have fr22_4 : ∀ j, η4 22 j = η 22 j := v7
  have fr22 : ∀ j, η4 22 j = η 22 j := v7
  have v9 : zEq (η1 0 41) (η 0 41) := (k1.1.2.2.2.1 0 41 (by decide +kernel)).trans rfl
  have v10 : zEq (η2 0 41) (η 0 41) := (k2.1.2.2.2.1 0 41 (by decide +kernel)).trans v9
  have v11 : zEq (η3 0 41) (η 0 41) := (k3.1.2.2.2.1 0 41 (by decide +kernel)).trans v10
  have v12 : zEq (η4 0 41) (η 0 41) := (k4.1.2.2.2.1 0 41 (by decide +kernel)).trans v11
  have f0_41 : η4 0 41 = η 0 41 := v12
  have w0_0_43 : (0 : Int) ≤ η 0 43 ∧ η 0 43 ≤ 8 := wf_ok (a := 43) (b := 43) (z := (0, 8)) hp.1 (by decide +kernel) (Nat.le_refl _) (Nat.le_refl _)
  have v14 : zEq (η1 0 43) (η 0 43) := (k1.1.2.2.2.1 0 43 (by decide +kernel)).trans rfl
  have v15 : zEq (η2 0 43) (η 0 43) := (k2.1.2.2.2.1 0 43 (by decide +kernel)).trans v14
  have v16 : zEq (η3 0 43) (η 0 43) := (k3.1.2.2.2.1 0 43 (by decide +kernel)).trans v15
  have v17 : zEq (η4 0 43) (η 0 43) := (k4.1.2.2.2.1 0 43 (by decide +kernel)).trans v16
  have f0_43 : η4 0 43 = η 0 43 := v17
  have v19 : zEq (η1 0 42) (η 0 42) := (k1.1.2.2.2.1 0 42 (by decide +kernel)).trans rfl
  have v20 : zEq (η2 0 42) (η 0 42) := (k2.1.2.2.2.1 0 42 (by decide +kernel)).trans v19
  have v21 : zEq (η3 0 42) (η 0 42) := (k3.1.2.2.2.1 0 42 (by decide +kernel)).trans v20
  have v22 : zEq (η4 0 42) (η 0 42) := (k4.1.2.2.2.1 0 42 (by decide +kernel)).trans v21
  have f0_42 : η4 0 42 = η 0 42 := v22
  have v24 : zEq (η1 0 45) (η 0 45) := (k1.1.2.2.2.1 0 45 (by decide +kernel)).trans rfl
  have v25 : zEq (η2 0 45) (η 0 45) := (k2.1.2.2.2.1 0 45 (by decide +kernel)).trans v24
  have v26 : zEq (η3 0 45) (η 0 45) := (k3.1.2.2.2.1 0 45 (by decide +kernel)).trans v25
  have v27 : zEq (η4 0 45) (η 0 45) := (k4.1.2.2.2.1 0 45 (by decide +kernel)).trans v26
  have f0_45 : η4 0 45 = η 0 45 := v27
  have w0_0_19 : (0 : Int) ≤ η 0 19 ∧ η 0 19 ≤ 64 := wf_ok (a := 19) (b := 19) (z := (0, 64)) hp.1 (by decide +kernel) (Nat.le_refl _) (Nat.le_refl _)
  have v29 : zEq (η1 0 19) (η 0 19) := (k1.1.2.2.2.1 0 19 (by decide +kernel)).trans rfl
  have v30 : zEq (η2 0 19) (η 0 19) := (k2.1.2.2.2.1 0 19 (by decide +kernel)).trans v29
  have v31 : zEq (η3 0 19) (η 0 19) := (k3.1.2.2.2.1 0 19 (by decide +kernel)).trans v30
  have v32 : zEq (η4 0 19) (η 0 19) := (k4.1.2.2.2.1 0 19 (by decide +kernel)).trans v31
  have f0_19 : η4 0 19 = η 0 19 := v32
  have w4_0_44 : (0 : Int) ≤ η4 0 44 ∧ η4 0 44 ≤ 64 := wf_ok (a := 44) (b := 44) (z := (0, 64)) k4.1.1 (by decide +kernel) (Nat.le_refl _) (Nat.le_refl _)
  have f0_44 : η4 0 44 = η4 0 44 := rfl
  have w0_0_7 : (0 : Int) ≤ η 0 7 ∧ η 0 7 ≤ 700 := wf_ok (a := 7) (b := 7) (z := (0, 700)) hp.1 (by decide +kernel) (Nat.le_refl _) (Nat.le_refl _)
  have v35 : zEq (η1 0 7) (η 0 7) := (k1.1.2.2.2.1 0 7 (by decide +kernel)).trans rfl
  have v36 : zEq (η2 0 7) (η 0 7) := (k2.1.2.2.2.1 0 7 (by decide +kernel)).trans v35
  have v37 : zEq (η3 0 7) (η 0 7) := (k3.1.2.2.2.1 0 7 (by decide +kernel)).trans v36
  have v38 : zEq (η4 0 7) (η 0 7) := (k4.1.2.2.2.1 0 7 (by decide +kernel)).trans v37
  have f0_7 : η4 0 7 = η 0 7 := v38
  have w0_0_6 : (0 : Int) ≤ η 0 6 ∧ η 0 6 ≤ 700 := wf_ok (a := 6) (b := 6) (z := (0, 700)) hp.1 (by decide +kernel) (Nat.le_refl _) (Nat.le_refl _)
  have v40 : zEq (η1 0 6) (η 0 6) := (k1.1.2.2.2.1 0 6 (by decide +kernel)).trans rfl
  have v41 : zEq (η2 0 6) (η 0 6) := (k2.1.2.2.2.1 0 6 (by decide +kernel)).trans v40
  have v42 : zEq (η3 0 6) (η 0 6) := (k3.1.2.2.2.1 0 6 (by decide +kernel)).trans v41
  have v43 : zEq (η4 0 6) (η 0 6) := (k4.1.2.2.2.1 0 6 (by decide +kernel)).trans v42
  have f0_6 : η4 0 6 = η 0 6 := v43
  have v44 : zEq (η4 0 8) (η 0 8) := (k4.1.2.2.2.1 0 8 (by decide +kernel)).trans v3
  have f0_8 : η4 0 8 = η 0 8 := v44
  have wbE : wB wl_l zTr η4 := wb4
  
  have I0 : H_l 0 0 0 η := hpp.1
  have I1 : H_l 0 0 0 η1 := k1.2.1
  have I2 : H_l 0 0 0 η2 := k2.2.1
  have I3 : H_l 0 0 0 η3 := k3.2.1
  have qk3 : η2 0 8 = 1 := k3.2.2 c3
  have I4 : H_l 1 0 0 η4 := k4.2.1 c5
  obtain ⟨j1, j2, j3, j4⟩ := I4.2
  have cn := cz_n (η := η4) (η4 0 41).toNat
  exact ⟨Or.inl I4, ⟨fun _ => ⟨show 0 ≤ x3 by omega, show x3 ≤ 6 by omega⟩, fun _ w => absurd rfl w, fun _ w => absurd rfl w⟩, show 0 ≤ η4 0 42 by omega, show η4 0 42 ≤ 95 by omega⟩
set_option maxHeartbeats 8000000 in
theorem zl_leafRead_o5 {ro : Nat → List Int32} (η : zE) (hp : sP wl_l zTr zPl_leafRead [] η) (hpp : pPl_leafRead [] η) : ∀ (x1 : Int) (η1 : zE), ((gC2 wl_l [(nat_lit 0, zPl_isSign, zOl_isSign, zMl_isSign), (nat_lit 1, zPl_wrong, zOl_wrong, zMl_wrong), (nat_lit 2, zPl_waitsFor0, zOl_waitsFor0, zMl_waitsFor0), (nat_lit 3, zPl_token, zOl_token, zMl_token), (nat_lit 4, zPl_isKey, zOl_isKey, zMl_isKey), (nat_lit 5, zPl_isCounted, zOl_isCounted, zMl_isCounted), (nat_lit 6, zPl_waitsFor2, zOl_waitsFor2, zMl_waitsFor2), (nat_lit 7, zPl_nameMet, zOl_nameMet, zMl_nameMet), (nat_lit 8, zPl_grown, zOl_grown, zMl_grown)] pCl_leafRead qCl_leafRead) 0).2 [40] η x1 η1 → (x1 = 0) → ∀ (x2 : Int) (η2 : zE), ((gC2 wl_l [(nat_lit 0, zPl_isSign, zOl_isSign, zMl_isSign), (nat_lit 1, zPl_wrong, zOl_wrong, zMl_wrong), (nat_lit 2, zPl_waitsFor0, zOl_waitsFor0, zMl_waitsFor0), (nat_lit 3, zPl_token, zOl_token, zMl_token), (nat_lit 4, zPl_isKey, zOl_isKey, zMl_isKey), (nat_lit 5, zPl_isCounted, zOl_isCounted, zMl_isCounted), (nat_lit 6, zPl_waitsFor2, zOl_waitsFor2, zMl_waitsFor2), (nat_lit 7, zPl_nameMet, zOl_nameMet, zMl_nameMet), (nat_lit 8, zPl_grown, zOl_grown, zMl_grown)] pCl_leafRead qCl_leafRead) 4).2 [12] η1 x2 η2 → (x2 = 0) → ∀ (x3 : Int) (η3 : zE), ((gC2 wl_l [(nat_lit 0, zPl_isSign, zOl_isSign, zMl_isSign), (nat_lit 1, zPl_wrong, zOl_wrong, zMl_wrong), (nat_lit 2, zPl_waitsFor0, zOl_waitsFor0, zMl_waitsFor0), (nat_lit 3, zPl_token, zOl_token, zMl_token), (nat_lit 4, zPl_isKey, zOl_isKey, zMl_isKey), (nat_lit 5, zPl_isCounted, zOl_isCounted, zMl_isCounted), (nat_lit 6, zPl_waitsFor2, zOl_waitsFor2, zMl_waitsFor2), (nat_lit 7, zPl_nameMet, zOl_nameMet, zMl_nameMet), (nat_lit 8, zPl_grown, zOl_grown, zMl_grown)] pCl_leafRead qCl_leafRead) 7).2 [] η2 x3 η3 → (0 ≤ x3) → (0 ≤ x3) → ∀ (x4 : Int) (η4 : zE), ((gC2 wl_l [(nat_lit 0, zPl_isSign, zOl_isSign, zMl_isSign), (nat_lit 1, zPl_wrong, zOl_wrong, zMl_wrong), (nat_lit 2, zPl_waitsFor0, zOl_waitsFor0, zMl_waitsFor0), (nat_lit 3, zPl_token, zOl_token, zMl_token), (nat_lit 4, zPl_isKey, zOl_isKey, zMl_isKey), (nat_lit 5, zPl_isCounted, zOl_isCounted, zMl_isCounted), (nat_lit 6, zPl_waitsFor2, zOl_waitsFor2, zMl_waitsFor2), (nat_lit 7, zPl_nameMet, zOl_nameMet, zMl_nameMet), (nat_lit 8, zPl_grown, zOl_grown, zMl_grown)] pCl_leafRead qCl_leafRead) 5).2 [] η3 x4 η4 → (¬ x4 = 0) → (0 ≤ x3) → (0 ≤ x3) → ∀ (x5 : Int) (η5 : zE), ((gC2 wl_l [(nat_lit 0, zPl_isSign, zOl_isSign, zMl_isSign), (nat_lit 1, zPl_wrong, zOl_wrong, zMl_wrong), (nat_lit 2, zPl_waitsFor0, zOl_waitsFor0, zMl_waitsFor0), (nat_lit 3, zPl_token, zOl_token, zMl_token), (nat_lit 4, zPl_isKey, zOl_isKey, zMl_isKey), (nat_lit 5, zPl_isCounted, zOl_isCounted, zMl_isCounted), (nat_lit 6, zPl_waitsFor2, zOl_waitsFor2, zMl_waitsFor2), (nat_lit 7, zPl_nameMet, zOl_nameMet, zMl_nameMet), (nat_lit 8, zPl_grown, zOl_grown, zMl_grown)] pCl_leafRead qCl_leafRead) 8).2 [1, x3, 0] η4 x5 η5 → ∀ η6 : zE, η6 = zup η5 0 (Int.toNat 45) 0 → ((gC2 wl_l [(nat_lit 0, zPl_isSign, zOl_isSign, zMl_isSign), (nat_lit 1, zPl_wrong, zOl_wrong, zMl_wrong), (nat_lit 2, zPl_waitsFor0, zOl_waitsFor0, zMl_waitsFor0), (nat_lit 3, zPl_token, zOl_token, zMl_token), (nat_lit 4, zPl_isKey, zOl_isKey, zMl_isKey), (nat_lit 5, zPl_isCounted, zOl_isCounted, zMl_isCounted), (nat_lit 6, zPl_waitsFor2, zOl_waitsFor2, zMl_waitsFor2), (nat_lit 7, zPl_nameMet, zOl_nameMet, zMl_nameMet), (nat_lit 8, zPl_grown, zOl_grown, zMl_grown)] pCl_leafRead qCl_leafRead) 3).1 [] η6 := by
  have hw : η 0 45 = 1 := hpp.2
  have hs : η 0 7 ≤ η 0 6 := hpp.1.1.1.1
  have bd43 : (0 : Int) ≤ η 0 43 ∧ η 0 43 ≤ 8 := wf_ok (a := 43) (b := 43) (z := (0, 8)) hp.1 (by decide +kernel) (Nat.le_refl _) (Nat.le_refl _)
  have bd44 : (0 : Int) ≤ η 0 44 ∧ η 0 44 ≤ 64 := wf_ok (a := 44) (b := 44) (z := (0, 64)) hp.1 (by decide +kernel) (Nat.le_refl _) (Nat.le_refl _)
  have bd19 : (0 : Int) ≤ η 0 19 ∧ η 0 19 ≤ 64 := wf_ok (a := 19) (b := 19) (z := (0, 64)) hp.1 (by decide +kernel) (Nat.le_refl _) (Nat.le_refl _)
  intro x1 η1 h1 c1 x2 η2 h2 c2 x3 η3 h3 c3 c4 x4 η4 h4 c5 c6 c7 x5 η5 h5 η6 eη6
  have k1 : sQ wl_l zTr zOl_isSign zMl_isSign [40] η x1 η1 ∧ pQl_isSign [40] η x1 η1 := h1
  have k2 : sQ wl_l zTr zOl_isKey zMl_isKey [12] η1 x2 η2 ∧ pQl_isKey [12] η1 x2 η2 := h2
  have k3 : sQ wl_l zTr zOl_nameMet zMl_nameMet [] η2 x3 η3 ∧ pQl_nameMet [] η2 x3 η3 := h3
  have k4 : sQ wl_l zTr zOl_isCounted zMl_isCounted [] η3 x4 η4 ∧ pQl_isCounted [] η3 x4 η4 := h4
  have k5 : sQ wl_l zTr zOl_grown zMl_grown [1, x3, 0] η4 x5 η5 ∧ pQl_grown [1, x3, 0] η4 x5 η5 := h5
  have w0_0_8 : (0 : Int) ≤ η 0 8 ∧ η 0 8 ≤ 6 := wf_ok (a := 8) (b := 8) (z := (0, 6)) hp.1 (by decide +kernel) (Nat.le_refl _) (Nat.le_refl _)
  have c0_0_8 : η 0 8 = η 0 8 := rfl
  have wb1 : wB wl_l zTr η1 := k1.1.1
  have bx1 : (0 : Int) ≤ x1 ∧ x1 ≤ 1 := k1.1.2.1
  have v1 : zEq (η1 0 8) (η 0 8) := (k1.1.2.2.2.1 0 8 (by decide +kernel)).trans rfl
  have c1_0_8 : η1 0 8 = η 0 8 := v1
  have wb2 : wB wl_l zTr η2 := k2.1.1
  have bx2 : (0 : Int) ≤ x2 ∧ x2 ≤ 1 := k2.1.2.1
  have v2 : zEq (η2 0 8) (η 0 8) := (k2.1.2.2.2.1 0 8 (by decide +kernel)).trans v1
  have c2_0_8 : η2 0 8 = η 0 8 := v2
  have wb3 : wB wl_l zTr η3 := k3.1.1
  have bx3 : ((-1) : Int) ≤ x3 ∧ x3 ≤ 6 := k3.1.2.1
  have v3 : zEq (η3 0 8) (η 0 8) := (k3.1.2.2.2.1 0 8 (by decide +kernel)).trans v2
  have c3_0_8 : η3 0 8 = η 0 8 := v3
  have wb4 : wB wl_l zTr η4 := k4.1.1
  have bx4 : (0 : Int) ≤ x4 ∧ x4 ≤ 1 := k4.1.2.1
  have v4 : zEq (η4 0 8) (η 0 8) := (k4.1.2.2.2.1 0 8 (by decide +kernel)).trans v3
  have c4_0_8 : η4 0 8 = η 0 8 := v4
  have w0_0_19 : (0 : Int) ≤ η 0 19 ∧ η 0 19 ≤ 64 := wf_ok (a := 19) (b := 19) (z := (0, 64)) hp.1 (by decide +kernel) (Nat.le_refl _) (Nat.le_refl _)
  have v6 : zEq (η1 0 19) (η 0 19) := (k1.1.2.2.2.1 0 19 (by decide +kernel)).trans rfl
  have v7 : zEq (η2 0 19) (η 0 19) := (k2.1.2.2.2.1 0 19 (by decide +kernel)).trans v6
  have v8 : zEq (η3 0 19) (η 0 19) := (k3.1.2.2.2.1 0 19 (by decide +kernel)).trans v7
  have v9 : zEq (η4 0 19) (η 0 19) := (k4.1.2.2.2.1 0 19 (by decide +kernel)).trans v8
  have c4_0_19 : η4 0 19 = η 0 19 := v9
  have wb5 : wB wl_l zTr η5 := k5.1.1
  have bx5 : (0 : Int) ≤ x5 ∧ x5 ≤ 0 := k5.1.2.1
  have v11 : zEq (η1 0 45) (η 0 45) := (k1.1.2.2.2.1 0 45 (by decide +kernel)).trans rfl
  have v12 : zEq (η2 0 45) (η 0 45) := (k2.1.2.2.2.1 0 45 (by decide +kernel)).trans v11
  have v13 : zEq (η3 0 45) (η 0 45) := (k3.1.2.2.2.1 0 45 (by decide +kernel)).trans v12
  have v14 : zEq (η4 0 45) (η 0 45) := (k4.1.2.2.2.1 0 45 (by decide +kernel)).trans v13
  have v15 : zEq (η5 0 45) (η 0 45) := (k5.1.2.2.2.1 0 45 (by decide +kernel)).trans v14
  have c5_0_45 : η5 0 45 = η 0 45 := v15
  have wb6 : wB wl_l zTr η6 := by rw [eη6]; exact wk_ok (a := 45) (b := 45) (z := ((-2147483648), 2147483647)) zTr_k (GR := []) wb5 (by decide +kernel) (by decide) (by decide) (show ((-2147483648) : Int) ≤ 0 by omega) (show 0 ≤ (2147483647 : Int) by omega)
  have fm1 : zFm zMl_leafRead η η1 := zFm_tr2 zFm_rf k1.1.2.2.2.1 (by decide +kernel)
  have fm2 : zFm zMl_leafRead η η2 := zFm_tr2 fm1 k2.1.2.2.2.1 (by decide +kernel)
  have fm3 : zFm zMl_leafRead η η3 := zFm_tr2 fm2 k3.1.2.2.2.1 (by decide +kernel)
  have fm4 : zFm zMl_leafRead η η4 := zFm_tr2 fm3 k4.1.2.2.2.1 (by decide +kernel)
  have fm5 : zFm zMl_leafRead η η5 := zFm_tr2 fm4 k5.1.2.2.2.1 (by decide +kernel)
  have fm6 : zFm zMl_leafRead η η6 := by rw [eη6]; exact zFm_up fm5 rfl
  have fmE : zFm zMl_leafRead η η6 := fm6
  have fr22_0 : ∀ j, η 22 j = η 22 j := fun _ => rfl
  have v16 : ∀ j, η1 22 j = η 22 j := fun j => k1.1.2.2.2.1 22 _ (zinr_not (by decide +kernel))
  have fr22_1 : ∀ j, η1 22 j = η 22 j := v16
  have v17 : ∀ j, η2 22 j = η 22 j := fun j => (k2.1.2.2.2.1 22 _ (zinr_not (by decide +kernel))).trans (v16 j)
  have fr22_2 : ∀ j, η2 22 j = η 22 j := v17
  have v18 : ∀ j, η3 22 j = η 22 j := fun j => (k3.1.2.2.2.1 22 _ (zinr_not (by decide +kernel))).trans (v17 j)
  have fr22_3 : ∀ j, η3 22 j = η 22 j := v18
  have v19 : ∀ j, η4 22 j = η 22 j := fun j => (k4.1.2.2.2.1 22 _ (zinr_not (by decide +kernel))).trans (v18 j)
  have fr22_4 : ∀ j, η4 22 j = η 22 j := v19
  have v20 : ∀ j, η5 22 j = η 22 j := fun j => (k5.1.2.2.2.1 22 _ (zinr_not (by decide +kernel))).trans (v19 j)
  have fr22_5 : ∀ j, η5 22 j = η 22 j := v20
  have v21 : ∀ j, η6 22 j = η 22 j := fun j => by rw [eη6]; exact (zup_ne (fun e _ => absurd e (by decide))).trans (v20 j)
  have fr22_6 : ∀ j, η6 22 j = η 22 j := v21
  have fr22 : ∀ j, η6 22 j = η 22 j := v21
  have v23 : zEq (η1 0 41) (η 0 41) := (k1.1.2.2.2.1 0 41 (by decide +kernel)).trans rfl
  have v24 : zEq (η2 0 41) (η 0 41) := (k2.1.2.2.2.1 0 41 (by decide +kernel)).trans v23
  have v25 : zEq (η3 0 41) (η 0 41) := (k3.1.2.2.2.1 0 41 (by decide +kernel)).trans v24
  have v26 : zEq (η4 0 41) (η 0 41) := (k4.1.2.2.2.1 0 41 (by decide +kernel)).trans v25
  have v27 : zEq (η5 0 41) (η 0 41) := (k5.1.2.2.2.1 0 41 (by decide +kernel)).trans v26
  have v28 : zEq (η6 0 41) (η 0 41) := by rw [eη6]; exact (zup_ne (fun _ e => absurd e (by decide))).trans v27
  have f0_41 : η6 0 41 = η 0 41 := v28
  have w0_0_43 : (0 : Int) ≤ η 0 43 ∧ η 0 43 ≤ 8 := wf_ok (a := 43) (b := 43) (z := (0, 8)) hp.1 (by decide +kernel) (Nat.le_refl _) (Nat.le_refl _)
  have v30 : zEq (η1 0 43) (η 0 43) := (k1.1.2.2.2.1 0 43 (by decide +kernel)).trans rfl
  have v31 : zEq (η2 0 43) (η 0 43) := (k2.1.2.2.2.1 0 43 (by decide +kernel)).trans v30
  have v32 : zEq (η3 0 43) (η 0 43) := (k3.1.2.2.2.1 0 43 (by decide +kernel)).trans v31
  have v33 : zEq (η4 0 43) (η 0 43) := (k4.1.2.2.2.1 0 43 (by decide +kernel)).trans v32
  have v34 : zEq (η5 0 43) (η 0 43) := (k5.1.2.2.2.1 0 43 (by decide +kernel)).trans v33
  have v35 : zEq (η6 0 43) (η 0 43) := by rw [eη6]; exact (zup_ne (fun _ e => absurd e (by decide))).trans v34
  have f0_43 : η6 0 43 = η 0 43 := v35
  have v37 : zEq (η6 0 42) (η5 0 42) := by rw [eη6]; exact (zup_ne (fun _ e => absurd e (by decide))).trans rfl
  have f0_42 : η6 0 42 = η5 0 42 := v37
  have v38 : zEq (η6 0 45) (0) := by rw [eη6]; exact zup_eq
  have f0_45 : η6 0 45 = 0 := v38
  have w5_0_19 : (0 : Int) ≤ η5 0 19 ∧ η5 0 19 ≤ 64 := wf_ok (a := 19) (b := 19) (z := (0, 64)) k5.1.1 (by decide +kernel) (Nat.le_refl _) (Nat.le_refl _)
  have v40 : zEq (η6 0 19) (η5 0 19) := by rw [eη6]; exact (zup_ne (fun _ e => absurd e (by decide))).trans rfl
  have f0_19 : η6 0 19 = η5 0 19 := v40
  have w4_0_44 : (0 : Int) ≤ η4 0 44 ∧ η4 0 44 ≤ 64 := wf_ok (a := 44) (b := 44) (z := (0, 64)) k4.1.1 (by decide +kernel) (Nat.le_refl _) (Nat.le_refl _)
  have v42 : zEq (η5 0 44) (η4 0 44) := (k5.1.2.2.2.1 0 44 (by decide +kernel)).trans rfl
  have v43 : zEq (η6 0 44) (η4 0 44) := by rw [eη6]; exact (zup_ne (fun _ e => absurd e (by decide))).trans v42
  have f0_44 : η6 0 44 = η4 0 44 := v43
  have w0_0_7 : (0 : Int) ≤ η 0 7 ∧ η 0 7 ≤ 700 := wf_ok (a := 7) (b := 7) (z := (0, 700)) hp.1 (by decide +kernel) (Nat.le_refl _) (Nat.le_refl _)
  have v45 : zEq (η1 0 7) (η 0 7) := (k1.1.2.2.2.1 0 7 (by decide +kernel)).trans rfl
  have v46 : zEq (η2 0 7) (η 0 7) := (k2.1.2.2.2.1 0 7 (by decide +kernel)).trans v45
  have v47 : zEq (η3 0 7) (η 0 7) := (k3.1.2.2.2.1 0 7 (by decide +kernel)).trans v46
  have v48 : zEq (η4 0 7) (η 0 7) := (k4.1.2.2.2.1 0 7 (by decide +kernel)).trans v47
  have v49 : zEq (η5 0 7) (η 0 7) := (k5.1.2.2.2.1 0 7 (by decide +kernel)).trans v48
  have v50 : zEq (η6 0 7) (η 0 7) := by rw [eη6]; exact (zup_ne (fun _ e => absurd e (by decide))).trans v49
  have f0_7 : η6 0 7 = η 0 7 := v50
  have w0_0_6 : (0 : Int) ≤ η 0 6 ∧ η 0 6 ≤ 700 := wf_ok (a := 6) (b := 6) (z := (0, 700)) hp.1 (by decide +kernel) (Nat.le_refl _) (Nat.le_refl _)
  have v52 : zEq (η1 0 6) (η 0 6) := (k1.1.2.2.2.1 0 6 (by decide +kernel)).trans rfl
  have v53 : zEq (η2 0 6) (η 0 6) := (k2.1.2.2.2.1 0 6 (by decide +kernel)).trans v52
  have v54 : zEq (η3 0 6) (η 0 6) := (k3.1.2.2.2.1 0 6 (by decide +kernel)).trans v53
  have v55 : zEq (η4 0 6) (η 0 6) := (k4.1.2.2.2.1 0 6 (by decide +kernel)).trans v54
  have v56 : zEq (η5 0 6) (η 0 6) := (k5.1.2.2.2.1 0 6 (by decide +kernel)).trans v55
  have v57 : zEq (η6 0 6) (η 0 6) := by rw [eη6]; exact (zup_ne (fun _ e => absurd e (by decide))).trans v56
  have f0_6 : η6 0 6 = η 0 6 := v57
  have v58 : zEq (η5 0 8) (η 0 8) := (k5.1.2.2.2.1 0 8 (by decide +kernel)).trans v4
  have v59 : zEq (η6 0 8) (η 0 8) := by rw [eη6]; exact (zup_ne (fun _ e => absurd e (by decide))).trans v58
  have f0_8 : η6 0 8 = η 0 8 := v59
  have wbE : wB wl_l zTr η6 := wb6
  
  have I0 : H_l 0 0 0 η := hpp.1
  have I1 : H_l 0 0 0 η1 := k1.2.1
  have I2 : H_l 0 0 0 η2 := k2.2.1
  have I3 : H_l 0 0 0 η3 := k3.2.1
  have qk3 : η2 0 8 = 1 := k3.2.2 c3
  have I4 : H_l 1 0 0 η4 := k4.2.1 c5
  have I5 : H_l 0 0 1 η5 := k5.2.1 I4
  have qg5 : η5 0 19 = η4 0 19 + 1 := k5.2.2.2
  have I6 : H_l 0 0 0 η6 := by rw [eη6]; exact h_eq (wn_up I5) rfl rfl (by apply Int.le_antisymm <;> omega)
  exact I6
set_option maxHeartbeats 8000000 in
theorem zl_leafRead_o6 {ro : Nat → List Int32} (η : zE) (hp : sP wl_l zTr zPl_leafRead [] η) (hpp : pPl_leafRead [] η) : ∀ (x1 : Int) (η1 : zE), ((gC2 wl_l [(nat_lit 0, zPl_isSign, zOl_isSign, zMl_isSign), (nat_lit 1, zPl_wrong, zOl_wrong, zMl_wrong), (nat_lit 2, zPl_waitsFor0, zOl_waitsFor0, zMl_waitsFor0), (nat_lit 3, zPl_token, zOl_token, zMl_token), (nat_lit 4, zPl_isKey, zOl_isKey, zMl_isKey), (nat_lit 5, zPl_isCounted, zOl_isCounted, zMl_isCounted), (nat_lit 6, zPl_waitsFor2, zOl_waitsFor2, zMl_waitsFor2), (nat_lit 7, zPl_nameMet, zOl_nameMet, zMl_nameMet), (nat_lit 8, zPl_grown, zOl_grown, zMl_grown)] pCl_leafRead qCl_leafRead) 0).2 [40] η x1 η1 → (x1 = 0) → ∀ (x2 : Int) (η2 : zE), ((gC2 wl_l [(nat_lit 0, zPl_isSign, zOl_isSign, zMl_isSign), (nat_lit 1, zPl_wrong, zOl_wrong, zMl_wrong), (nat_lit 2, zPl_waitsFor0, zOl_waitsFor0, zMl_waitsFor0), (nat_lit 3, zPl_token, zOl_token, zMl_token), (nat_lit 4, zPl_isKey, zOl_isKey, zMl_isKey), (nat_lit 5, zPl_isCounted, zOl_isCounted, zMl_isCounted), (nat_lit 6, zPl_waitsFor2, zOl_waitsFor2, zMl_waitsFor2), (nat_lit 7, zPl_nameMet, zOl_nameMet, zMl_nameMet), (nat_lit 8, zPl_grown, zOl_grown, zMl_grown)] pCl_leafRead qCl_leafRead) 4).2 [12] η1 x2 η2 → (x2 = 0) → ∀ (x3 : Int) (η3 : zE), ((gC2 wl_l [(nat_lit 0, zPl_isSign, zOl_isSign, zMl_isSign), (nat_lit 1, zPl_wrong, zOl_wrong, zMl_wrong), (nat_lit 2, zPl_waitsFor0, zOl_waitsFor0, zMl_waitsFor0), (nat_lit 3, zPl_token, zOl_token, zMl_token), (nat_lit 4, zPl_isKey, zOl_isKey, zMl_isKey), (nat_lit 5, zPl_isCounted, zOl_isCounted, zMl_isCounted), (nat_lit 6, zPl_waitsFor2, zOl_waitsFor2, zMl_waitsFor2), (nat_lit 7, zPl_nameMet, zOl_nameMet, zMl_nameMet), (nat_lit 8, zPl_grown, zOl_grown, zMl_grown)] pCl_leafRead qCl_leafRead) 7).2 [] η2 x3 η3 → (0 ≤ x3) → (0 ≤ x3) → ∀ (x4 : Int) (η4 : zE), ((gC2 wl_l [(nat_lit 0, zPl_isSign, zOl_isSign, zMl_isSign), (nat_lit 1, zPl_wrong, zOl_wrong, zMl_wrong), (nat_lit 2, zPl_waitsFor0, zOl_waitsFor0, zMl_waitsFor0), (nat_lit 3, zPl_token, zOl_token, zMl_token), (nat_lit 4, zPl_isKey, zOl_isKey, zMl_isKey), (nat_lit 5, zPl_isCounted, zOl_isCounted, zMl_isCounted), (nat_lit 6, zPl_waitsFor2, zOl_waitsFor2, zMl_waitsFor2), (nat_lit 7, zPl_nameMet, zOl_nameMet, zMl_nameMet), (nat_lit 8, zPl_grown, zOl_grown, zMl_grown)] pCl_leafRead qCl_leafRead) 5).2 [] η3 x4 η4 → (¬ x4 = 0) → (0 ≤ x3) → (0 ≤ x3) → ∀ (x5 : Int) (η5 : zE), ((gC2 wl_l [(nat_lit 0, zPl_isSign, zOl_isSign, zMl_isSign), (nat_lit 1, zPl_wrong, zOl_wrong, zMl_wrong), (nat_lit 2, zPl_waitsFor0, zOl_waitsFor0, zMl_waitsFor0), (nat_lit 3, zPl_token, zOl_token, zMl_token), (nat_lit 4, zPl_isKey, zOl_isKey, zMl_isKey), (nat_lit 5, zPl_isCounted, zOl_isCounted, zMl_isCounted), (nat_lit 6, zPl_waitsFor2, zOl_waitsFor2, zMl_waitsFor2), (nat_lit 7, zPl_nameMet, zOl_nameMet, zMl_nameMet), (nat_lit 8, zPl_grown, zOl_grown, zMl_grown)] pCl_leafRead qCl_leafRead) 8).2 [1, x3, 0] η4 x5 η5 → ∀ η6 : zE, η6 = zup η5 0 (Int.toNat 45) 0 → ∀ (x6 : Int) (η7 : zE), ((gC2 wl_l [(nat_lit 0, zPl_isSign, zOl_isSign, zMl_isSign), (nat_lit 1, zPl_wrong, zOl_wrong, zMl_wrong), (nat_lit 2, zPl_waitsFor0, zOl_waitsFor0, zMl_waitsFor0), (nat_lit 3, zPl_token, zOl_token, zMl_token), (nat_lit 4, zPl_isKey, zOl_isKey, zMl_isKey), (nat_lit 5, zPl_isCounted, zOl_isCounted, zMl_isCounted), (nat_lit 6, zPl_waitsFor2, zOl_waitsFor2, zMl_waitsFor2), (nat_lit 7, zPl_nameMet, zOl_nameMet, zMl_nameMet), (nat_lit 8, zPl_grown, zOl_grown, zMl_grown)] pCl_leafRead qCl_leafRead) 3).2 [] η6 x6 η7 → (fun (_ : Nat) (y : Int) (η' : zE) => pQl_leafRead [] η y η') 0 1 η7 := by
  have hw : η 0 45 = 1 := hpp.2
  have hs : η 0 7 ≤ η 0 6 := hpp.1.1.1.1
  have bd43 : (0 : Int) ≤ η 0 43 ∧ η 0 43 ≤ 8 := wf_ok (a := 43) (b := 43) (z := (0, 8)) hp.1 (by decide +kernel) (Nat.le_refl _) (Nat.le_refl _)
  have bd44 : (0 : Int) ≤ η 0 44 ∧ η 0 44 ≤ 64 := wf_ok (a := 44) (b := 44) (z := (0, 64)) hp.1 (by decide +kernel) (Nat.le_refl _) (Nat.le_refl _)
  have bd19 : (0 : Int) ≤ η 0 19 ∧ η 0 19 ≤ 64 := wf_ok (a := 19) (b := 19) (z := (0, 64)) hp.1 (by decide +kernel) (Nat.le_refl _) (Nat.le_refl _)
  intro x1 η1 h1 c1 x2 η2 h2 c2 x3 η3 h3 c3 c4 x4 η4 h4 c5 c6 c7 x5 η5 h5 η6 eη6 x6 η7 h6
  have k1 : sQ wl_l zTr zOl_isSign zMl_isSign [40] η x1 η1 ∧ pQl_isSign [40] η x1 η1 := h1
  have k2 : sQ wl_l zTr zOl_isKey zMl_isKey [12] η1 x2 η2 ∧ pQl_isKey [12] η1 x2 η2 := h2
  have k3 : sQ wl_l zTr zOl_nameMet zMl_nameMet [] η2 x3 η3 ∧ pQl_nameMet [] η2 x3 η3 := h3
  have k4 : sQ wl_l zTr zOl_isCounted zMl_isCounted [] η3 x4 η4 ∧ pQl_isCounted [] η3 x4 η4 := h4
  have k5 : sQ wl_l zTr zOl_grown zMl_grown [1, x3, 0] η4 x5 η5 ∧ pQl_grown [1, x3, 0] η4 x5 η5 := h5
  have k6 : sQ wl_l zTr zOl_token zMl_token [] η6 x6 η7 ∧ pQl_token [] η6 x6 η7 := h6
  have w0_0_8 : (0 : Int) ≤ η 0 8 ∧ η 0 8 ≤ 6 := wf_ok (a := 8) (b := 8) (z := (0, 6)) hp.1 (by decide +kernel) (Nat.le_refl _) (Nat.le_refl _)
  have c0_0_8 : η 0 8 = η 0 8 := rfl
  have wb1 : wB wl_l zTr η1 := k1.1.1
  have bx1 : (0 : Int) ≤ x1 ∧ x1 ≤ 1 := k1.1.2.1
  have v1 : zEq (η1 0 8) (η 0 8) := (k1.1.2.2.2.1 0 8 (by decide +kernel)).trans rfl
  have c1_0_8 : η1 0 8 = η 0 8 := v1
  have wb2 : wB wl_l zTr η2 := k2.1.1
  have bx2 : (0 : Int) ≤ x2 ∧ x2 ≤ 1 := k2.1.2.1
  have v2 : zEq (η2 0 8) (η 0 8) := (k2.1.2.2.2.1 0 8 (by decide +kernel)).trans v1
  have c2_0_8 : η2 0 8 = η 0 8 := v2
  have wb3 : wB wl_l zTr η3 := k3.1.1
  have bx3 : ((-1) : Int) ≤ x3 ∧ x3 ≤ 6 := k3.1.2.1
  have v3 : zEq (η3 0 8) (η 0 8) := (k3.1.2.2.2.1 0 8 (by decide +kernel)).trans v2
  have c3_0_8 : η3 0 8 = η 0 8 := v3
  have wb4 : wB wl_l zTr η4 := k4.1.1
  have bx4 : (0 : Int) ≤ x4 ∧ x4 ≤ 1 := k4.1.2.1
  have v4 : zEq (η4 0 8) (η 0 8) := (k4.1.2.2.2.1 0 8 (by decide +kernel)).trans v3
  have c4_0_8 : η4 0 8 = η 0 8 := v4
  have w0_0_19 : (0 : Int) ≤ η 0 19 ∧ η 0 19 ≤ 64 := wf_ok (a := 19) (b := 19) (z := (0, 64)) hp.1 (by decide +kernel) (Nat.le_refl _) (Nat.le_refl _)
  have v6 : zEq (η1 0 19) (η 0 19) := (k1.1.2.2.2.1 0 19 (by decide +kernel)).trans rfl
  have v7 : zEq (η2 0 19) (η 0 19) := (k2.1.2.2.2.1 0 19 (by decide +kernel)).trans v6
  have v8 : zEq (η3 0 19) (η 0 19) := (k3.1.2.2.2.1 0 19 (by decide +kernel)).trans v7
  have v9 : zEq (η4 0 19) (η 0 19) := (k4.1.2.2.2.1 0 19 (by decide +kernel)).trans v8
  have c4_0_19 : η4 0 19 = η 0 19 := v9
  have wb5 : wB wl_l zTr η5 := k5.1.1
  have bx5 : (0 : Int) ≤ x5 ∧ x5 ≤ 0 := k5.1.2.1
  have v11 : zEq (η1 0 45) (η 0 45) := (k1.1.2.2.2.1 0 45 (by decide +kernel)).trans rfl
  have v12 : zEq (η2 0 45) (η 0 45) := (k2.1.2.2.2.1 0 45 (by decide +kernel)).trans v11
  have v13 : zEq (η3 0 45) (η 0 45) := (k3.1.2.2.2.1 0 45 (by decide +kernel)).trans v12
  have v14 : zEq (η4 0 45) (η 0 45) := (k4.1.2.2.2.1 0 45 (by decide +kernel)).trans v13
  have v15 : zEq (η5 0 45) (η 0 45) := (k5.1.2.2.2.1 0 45 (by decide +kernel)).trans v14
  have c5_0_45 : η5 0 45 = η 0 45 := v15
  have wb6 : wB wl_l zTr η6 := by rw [eη6]; exact wk_ok (a := 45) (b := 45) (z := ((-2147483648), 2147483647)) zTr_k (GR := []) wb5 (by decide +kernel) (by decide) (by decide) (show ((-2147483648) : Int) ≤ 0 by omega) (show 0 ≤ (2147483647 : Int) by omega)
  have w0_0_7 : (0 : Int) ≤ η 0 7 ∧ η 0 7 ≤ 700 := wf_ok (a := 7) (b := 7) (z := (0, 700)) hp.1 (by decide +kernel) (Nat.le_refl _) (Nat.le_refl _)
  have v17 : zEq (η1 0 7) (η 0 7) := (k1.1.2.2.2.1 0 7 (by decide +kernel)).trans rfl
  have v18 : zEq (η2 0 7) (η 0 7) := (k2.1.2.2.2.1 0 7 (by decide +kernel)).trans v17
  have v19 : zEq (η3 0 7) (η 0 7) := (k3.1.2.2.2.1 0 7 (by decide +kernel)).trans v18
  have v20 : zEq (η4 0 7) (η 0 7) := (k4.1.2.2.2.1 0 7 (by decide +kernel)).trans v19
  have v21 : zEq (η5 0 7) (η 0 7) := (k5.1.2.2.2.1 0 7 (by decide +kernel)).trans v20
  have v22 : zEq (η6 0 7) (η 0 7) := by rw [eη6]; exact (zup_ne (fun _ e => absurd e (by decide))).trans v21
  have c6_0_7 : η6 0 7 = η 0 7 := v22
  have w0_0_6 : (0 : Int) ≤ η 0 6 ∧ η 0 6 ≤ 700 := wf_ok (a := 6) (b := 6) (z := (0, 700)) hp.1 (by decide +kernel) (Nat.le_refl _) (Nat.le_refl _)
  have v24 : zEq (η1 0 6) (η 0 6) := (k1.1.2.2.2.1 0 6 (by decide +kernel)).trans rfl
  have v25 : zEq (η2 0 6) (η 0 6) := (k2.1.2.2.2.1 0 6 (by decide +kernel)).trans v24
  have v26 : zEq (η3 0 6) (η 0 6) := (k3.1.2.2.2.1 0 6 (by decide +kernel)).trans v25
  have v27 : zEq (η4 0 6) (η 0 6) := (k4.1.2.2.2.1 0 6 (by decide +kernel)).trans v26
  have v28 : zEq (η5 0 6) (η 0 6) := (k5.1.2.2.2.1 0 6 (by decide +kernel)).trans v27
  have v29 : zEq (η6 0 6) (η 0 6) := by rw [eη6]; exact (zup_ne (fun _ e => absurd e (by decide))).trans v28
  have c6_0_6 : η6 0 6 = η 0 6 := v29
  have v30 : zEq (η5 0 8) (η 0 8) := (k5.1.2.2.2.1 0 8 (by decide +kernel)).trans v4
  have v31 : zEq (η6 0 8) (η 0 8) := by rw [eη6]; exact (zup_ne (fun _ e => absurd e (by decide))).trans v30
  have c6_0_8 : η6 0 8 = η 0 8 := v31
  have wb7 : wB wl_l zTr η7 := k6.1.1
  have bx6 : (0 : Int) ≤ x6 ∧ x6 ≤ 0 := k6.1.2.1
  have fm1 : zFm zMl_leafRead η η1 := zFm_tr2 zFm_rf k1.1.2.2.2.1 (by decide +kernel)
  have fm2 : zFm zMl_leafRead η η2 := zFm_tr2 fm1 k2.1.2.2.2.1 (by decide +kernel)
  have fm3 : zFm zMl_leafRead η η3 := zFm_tr2 fm2 k3.1.2.2.2.1 (by decide +kernel)
  have fm4 : zFm zMl_leafRead η η4 := zFm_tr2 fm3 k4.1.2.2.2.1 (by decide +kernel)
  have fm5 : zFm zMl_leafRead η η5 := zFm_tr2 fm4 k5.1.2.2.2.1 (by decide +kernel)
  have fm6 : zFm zMl_leafRead η η6 := by rw [eη6]; exact zFm_up fm5 rfl
  have fm7 : zFm zMl_leafRead η η7 := zFm_tr2 fm6 k6.1.2.2.2.1 (by decide +kernel)
  have fmE : zFm zMl_leafRead η η7 := fm7
  have fr22_0 : ∀ j, η 22 j = η 22 j := fun _ => rfl
  have v32 : ∀ j, η1 22 j = η 22 j := fun j => k1.1.2.2.2.1 22 _ (zinr_not (by decide +kernel))
  have fr22_1 : ∀ j, η1 22 j = η 22 j := v32
  have v33 : ∀ j, η2 22 j = η 22 j := fun j => (k2.1.2.2.2.1 22 _ (zinr_not (by decide +kernel))).trans (v32 j)
  have fr22_2 : ∀ j, η2 22 j = η 22 j := v33
  have v34 : ∀ j, η3 22 j = η 22 j := fun j => (k3.1.2.2.2.1 22 _ (zinr_not (by decide +kernel))).trans (v33 j)
  have fr22_3 : ∀ j, η3 22 j = η 22 j := v34
  have v35 : ∀ j, η4 22 j = η 22 j := fun j => (k4.1.2.2.2.1 22 _ (zinr_not (by decide +kernel))).trans (v34 j)
  have fr22_4 : ∀ j, η4 22 j = η 22 j := v35
  have v36 : ∀ j, η5 22 j = η 22 j := fun j => (k5.1.2.2.2.1 22 _ (zinr_not (by decide +kernel))).trans (v35 j)
  have fr22_5 : ∀ j, η5 22 j = η 22 j := v36
  have v37 : ∀ j, η6 22 j = η 22 j := fun j => by rw [eη6]; exact (zup_ne (fun e _ => absurd e (by decide))).trans (v36 j)
  have fr22_6 : ∀ j, η6 22 j = η 22 j := v37
  have v38 : ∀ j, η7 22 j = η 22 j := fun j => (k6.1.2.2.2.1 22 _ (zinr_not (by decide +kernel))).trans (v37 j)
  have fr22_7 : ∀ j, η7 22 j = η 22 j := v38
  have fr22 : ∀ j, η7 22 j = η 22 j := v38
  have v40 : zEq (η1 0 41) (η 0 41) := (k1.1.2.2.2.1 0 41 (by decide +kernel)).trans rfl
  have v41 : zEq (η2 0 41) (η 0 41) := (k2.1.2.2.2.1 0 41 (by decide +kernel)).trans v40
  have v42 : zEq (η3 0 41) (η 0 41) := (k3.1.2.2.2.1 0 41 (by decide +kernel)).trans v41
  have v43 : zEq (η4 0 41) (η 0 41) := (k4.1.2.2.2.1 0 41 (by decide +kernel)).trans v42
  have v44 : zEq (η5 0 41) (η 0 41) := (k5.1.2.2.2.1 0 41 (by decide +kernel)).trans v43
  have v45 : zEq (η6 0 41) (η 0 41) := by rw [eη6]; exact (zup_ne (fun _ e => absurd e (by decide))).trans v44
  have v46 : zEq (η7 0 41) (η 0 41) := (k6.1.2.2.2.1 0 41 (by decide +kernel)).trans v45
  have f0_41 : η7 0 41 = η 0 41 := v46
  have w0_0_43 : (0 : Int) ≤ η 0 43 ∧ η 0 43 ≤ 8 := wf_ok (a := 43) (b := 43) (z := (0, 8)) hp.1 (by decide +kernel) (Nat.le_refl _) (Nat.le_refl _)
  have v48 : zEq (η1 0 43) (η 0 43) := (k1.1.2.2.2.1 0 43 (by decide +kernel)).trans rfl
  have v49 : zEq (η2 0 43) (η 0 43) := (k2.1.2.2.2.1 0 43 (by decide +kernel)).trans v48
  have v50 : zEq (η3 0 43) (η 0 43) := (k3.1.2.2.2.1 0 43 (by decide +kernel)).trans v49
  have v51 : zEq (η4 0 43) (η 0 43) := (k4.1.2.2.2.1 0 43 (by decide +kernel)).trans v50
  have v52 : zEq (η5 0 43) (η 0 43) := (k5.1.2.2.2.1 0 43 (by decide +kernel)).trans v51
  have v53 : zEq (η6 0 43) (η 0 43) := by rw [eη6]; exact (zup_ne (fun _ e => absurd e (by decide))).trans v52
  have v54 : zEq (η7 0 43) (η 0 43) := (k6.1.2.2.2.1 0 43 (by decide +kernel)).trans v53
  have f0_43 : η7 0 43 = η 0 43 := v54
  have v56 : zEq (η6 0 42) (η5 0 42) := by rw [eη6]; exact (zup_ne (fun _ e => absurd e (by decide))).trans rfl
  have v57 : zEq (η7 0 42) (η5 0 42) := (k6.1.2.2.2.1 0 42 (by decide +kernel)).trans v56
  have f0_42 : η7 0 42 = η5 0 42 := v57
  have v58 : zEq (η6 0 45) (0) := by rw [eη6]; exact zup_eq
  have v59 : zEq (η7 0 45) (0) := (k6.1.2.2.2.1 0 45 (by decide +kernel)).trans v58
  have f0_45 : η7 0 45 = 0 := v59
  have w5_0_19 : (0 : Int) ≤ η5 0 19 ∧ η5 0 19 ≤ 64 := wf_ok (a := 19) (b := 19) (z := (0, 64)) k5.1.1 (by decide +kernel) (Nat.le_refl _) (Nat.le_refl _)
  have v61 : zEq (η6 0 19) (η5 0 19) := by rw [eη6]; exact (zup_ne (fun _ e => absurd e (by decide))).trans rfl
  have v62 : zEq (η7 0 19) (η5 0 19) := (k6.1.2.2.2.1 0 19 (by decide +kernel)).trans v61
  have f0_19 : η7 0 19 = η5 0 19 := v62
  have w4_0_44 : (0 : Int) ≤ η4 0 44 ∧ η4 0 44 ≤ 64 := wf_ok (a := 44) (b := 44) (z := (0, 64)) k4.1.1 (by decide +kernel) (Nat.le_refl _) (Nat.le_refl _)
  have v64 : zEq (η5 0 44) (η4 0 44) := (k5.1.2.2.2.1 0 44 (by decide +kernel)).trans rfl
  have v65 : zEq (η6 0 44) (η4 0 44) := by rw [eη6]; exact (zup_ne (fun _ e => absurd e (by decide))).trans v64
  have v66 : zEq (η7 0 44) (η4 0 44) := (k6.1.2.2.2.1 0 44 (by decide +kernel)).trans v65
  have f0_44 : η7 0 44 = η4 0 44 := v66
  have w7_0_7 : (0 : Int) ≤ η7 0 7 ∧ η7 0 7 ≤ 700 := wf_ok (a := 7) (b := 7) (z := (0, 700)) k6.1.1 (by decide +kernel) (Nat.le_refl _) (Nat.le_refl _)
  have f0_7 : η7 0 7 = η7 0 7 := rfl
  have v68 : zEq (η7 0 6) (η 0 6) := (k6.1.2.2.2.1 0 6 (by decide +kernel)).trans v29
  have f0_6 : η7 0 6 = η 0 6 := v68
  have w7_0_8 : (0 : Int) ≤ η7 0 8 ∧ η7 0 8 ≤ 6 := wf_ok (a := 8) (b := 8) (z := (0, 6)) k6.1.1 (by decide +kernel) (Nat.le_refl _) (Nat.le_refl _)
  have f0_8 : η7 0 8 = η7 0 8 := rfl
  have wbE : wB wl_l zTr η7 := wb7
  
  have I0 : H_l 0 0 0 η := hpp.1
  have I1 : H_l 0 0 0 η1 := k1.2.1
  have I2 : H_l 0 0 0 η2 := k2.2.1
  have I3 : H_l 0 0 0 η3 := k3.2.1
  have qk3 : η2 0 8 = 1 := k3.2.2 c3
  have I4 : H_l 1 0 0 η4 := k4.2.1 c5
  have I5 : H_l 0 0 1 η5 := k5.2.1 I4
  have qg5 : η5 0 19 = η4 0 19 + 1 := k5.2.2.2
  have I6 : H_l 0 0 0 η6 := by rw [eη6]; exact h_eq (wn_up I5) rfl rfl (by apply Int.le_antisymm <;> omega)
  have I7 : H_l 0 0 0 η7 := k6.2.1
  have qt6 : ¬ η6 0 8 = 0 → 10 * (η7 0 6 - η7 0 7) + η7 0 8 < 10 * (η6 0 6 - η6 0 7) + η6 0 8 := k6.2.2
  refine ⟨I7.1, fun _ => ⟨I7, show 10 * (η7 0 6 - η7 0 7) + η7 0 8 < 10 * (η 0 6 - η 0 7) + η 0 8 by omega, fun w => ?_⟩⟩
  have w : η7 0 45 = 0 := w
  omega
set_option maxHeartbeats 8000000 in
theorem zl_leafRead_o7 {ro : Nat → List Int32} (η : zE) (hp : sP wl_l zTr zPl_leafRead [] η) (hpp : pPl_leafRead [] η) : ∀ (x1 : Int) (η1 : zE), ((gC2 wl_l [(nat_lit 0, zPl_isSign, zOl_isSign, zMl_isSign), (nat_lit 1, zPl_wrong, zOl_wrong, zMl_wrong), (nat_lit 2, zPl_waitsFor0, zOl_waitsFor0, zMl_waitsFor0), (nat_lit 3, zPl_token, zOl_token, zMl_token), (nat_lit 4, zPl_isKey, zOl_isKey, zMl_isKey), (nat_lit 5, zPl_isCounted, zOl_isCounted, zMl_isCounted), (nat_lit 6, zPl_waitsFor2, zOl_waitsFor2, zMl_waitsFor2), (nat_lit 7, zPl_nameMet, zOl_nameMet, zMl_nameMet), (nat_lit 8, zPl_grown, zOl_grown, zMl_grown)] pCl_leafRead qCl_leafRead) 0).2 [40] η x1 η1 → (x1 = 0) → ∀ (x2 : Int) (η2 : zE), ((gC2 wl_l [(nat_lit 0, zPl_isSign, zOl_isSign, zMl_isSign), (nat_lit 1, zPl_wrong, zOl_wrong, zMl_wrong), (nat_lit 2, zPl_waitsFor0, zOl_waitsFor0, zMl_waitsFor0), (nat_lit 3, zPl_token, zOl_token, zMl_token), (nat_lit 4, zPl_isKey, zOl_isKey, zMl_isKey), (nat_lit 5, zPl_isCounted, zOl_isCounted, zMl_isCounted), (nat_lit 6, zPl_waitsFor2, zOl_waitsFor2, zMl_waitsFor2), (nat_lit 7, zPl_nameMet, zOl_nameMet, zMl_nameMet), (nat_lit 8, zPl_grown, zOl_grown, zMl_grown)] pCl_leafRead qCl_leafRead) 4).2 [12] η1 x2 η2 → (x2 = 0) → ∀ (x3 : Int) (η3 : zE), ((gC2 wl_l [(nat_lit 0, zPl_isSign, zOl_isSign, zMl_isSign), (nat_lit 1, zPl_wrong, zOl_wrong, zMl_wrong), (nat_lit 2, zPl_waitsFor0, zOl_waitsFor0, zMl_waitsFor0), (nat_lit 3, zPl_token, zOl_token, zMl_token), (nat_lit 4, zPl_isKey, zOl_isKey, zMl_isKey), (nat_lit 5, zPl_isCounted, zOl_isCounted, zMl_isCounted), (nat_lit 6, zPl_waitsFor2, zOl_waitsFor2, zMl_waitsFor2), (nat_lit 7, zPl_nameMet, zOl_nameMet, zMl_nameMet), (nat_lit 8, zPl_grown, zOl_grown, zMl_grown)] pCl_leafRead qCl_leafRead) 7).2 [] η2 x3 η3 → (0 ≤ x3) → (0 ≤ x3) → ∀ (x4 : Int) (η4 : zE), ((gC2 wl_l [(nat_lit 0, zPl_isSign, zOl_isSign, zMl_isSign), (nat_lit 1, zPl_wrong, zOl_wrong, zMl_wrong), (nat_lit 2, zPl_waitsFor0, zOl_waitsFor0, zMl_waitsFor0), (nat_lit 3, zPl_token, zOl_token, zMl_token), (nat_lit 4, zPl_isKey, zOl_isKey, zMl_isKey), (nat_lit 5, zPl_isCounted, zOl_isCounted, zMl_isCounted), (nat_lit 6, zPl_waitsFor2, zOl_waitsFor2, zMl_waitsFor2), (nat_lit 7, zPl_nameMet, zOl_nameMet, zMl_nameMet), (nat_lit 8, zPl_grown, zOl_grown, zMl_grown)] pCl_leafRead qCl_leafRead) 5).2 [] η3 x4 η4 → (x4 = 0) → (fun (_ : Nat) (y : Int) (η' : zE) => pQl_leafRead [] η y η') 0 0 η4 := by
  have hw : η 0 45 = 1 := hpp.2
  have hs : η 0 7 ≤ η 0 6 := hpp.1.1.1.1
  have bd43 : (0 : Int) ≤ η 0 43 ∧ η 0 43 ≤ 8 := wf_ok (a := 43) (b := 43) (z := (0, 8)) hp.1 (by decide +kernel) (Nat.le_refl _) (Nat.le_refl _)
  have bd44 : (0 : Int) ≤ η 0 44 ∧ η 0 44 ≤ 64 := wf_ok (a := 44) (b := 44) (z := (0, 64)) hp.1 (by decide +kernel) (Nat.le_refl _) (Nat.le_refl _)
  have bd19 : (0 : Int) ≤ η 0 19 ∧ η 0 19 ≤ 64 := wf_ok (a := 19) (b := 19) (z := (0, 64)) hp.1 (by decide +kernel) (Nat.le_refl _) (Nat.le_refl _)
  intro x1 η1 h1 c1 x2 η2 h2 c2 x3 η3 h3 c3 c4 x4 η4 h4 c5
  have k1 : sQ wl_l zTr zOl_isSign zMl_isSign [40] η x1 η1 ∧ pQl_isSign [40] η x1 η1 := h1
  have k2 : sQ wl_l zTr zOl_isKey zMl_isKey [12] η1 x2 η2 ∧ pQl_isKey [12] η1 x2 η2 := h2
  have k3 : sQ wl_l zTr zOl_nameMet zMl_nameMet [] η2 x3 η3 ∧ pQl_nameMet [] η2 x3 η3 := h3
  have k4 : sQ wl_l zTr zOl_isCounted zMl_isCounted [] η3 x4 η4 ∧ pQl_isCounted [] η3 x4 η4 := h4
  have w0_0_8 : (0 : Int) ≤ η 0 8 ∧ η 0 8 ≤ 6 := wf_ok (a := 8) (b := 8) (z := (0, 6)) hp.1 (by decide +kernel) (Nat.le_refl _) (Nat.le_refl _)
  have c0_0_8 : η 0 8 = η 0 8 := rfl
  have wb1 : wB wl_l zTr η1 := k1.1.1
  have bx1 : (0 : Int) ≤ x1 ∧ x1 ≤ 1 := k1.1.2.1
  have v1 : zEq (η1 0 8) (η 0 8) := (k1.1.2.2.2.1 0 8 (by decide +kernel)).trans rfl
  have c1_0_8 : η1 0 8 = η 0 8 := v1
  have wb2 : wB wl_l zTr η2 := k2.1.1
  have bx2 : (0 : Int) ≤ x2 ∧ x2 ≤ 1 := k2.1.2.1
  have v2 : zEq (η2 0 8) (η 0 8) := (k2.1.2.2.2.1 0 8 (by decide +kernel)).trans v1
  have c2_0_8 : η2 0 8 = η 0 8 := v2
  have wb3 : wB wl_l zTr η3 := k3.1.1
  have bx3 : ((-1) : Int) ≤ x3 ∧ x3 ≤ 6 := k3.1.2.1
  have v3 : zEq (η3 0 8) (η 0 8) := (k3.1.2.2.2.1 0 8 (by decide +kernel)).trans v2
  have c3_0_8 : η3 0 8 = η 0 8 := v3
  have wb4 : wB wl_l zTr η4 := k4.1.1
  have bx4 : (0 : Int) ≤ x4 ∧ x4 ≤ 1 := k4.1.2.1
  have fm1 : zFm zMl_leafRead η η1 := zFm_tr2 zFm_rf k1.1.2.2.2.1 (by decide +kernel)
  have fm2 : zFm zMl_leafRead η η2 := zFm_tr2 fm1 k2.1.2.2.2.1 (by decide +kernel)
  have fm3 : zFm zMl_leafRead η η3 := zFm_tr2 fm2 k3.1.2.2.2.1 (by decide +kernel)
  have fm4 : zFm zMl_leafRead η η4 := zFm_tr2 fm3 k4.1.2.2.2.1 (by decide +kernel)
  have fmE : zFm zMl_leafRead η η4 := fm4
  have fr22_0 : ∀ j, η 22 j = η 22 j := fun _ => rfl
  have v4 : ∀ j, η1 22 j = η 22 j := fun j => k1.1.2.2.2.1 22 _ (zinr_not (by decide +kernel))
  have fr22_1 : ∀ j, η1 22 j = η 22 j := v4
  have v5 : ∀ j, η2 22 j = η 22 j := fun j => (k2.1.2.2.2.1 22 _ (zinr_not (by decide +kernel))).trans (v4 j)
  have fr22_2 : ∀ j, η2 22 j = η 22 j := v5
  have v6 : ∀ j, η3 22 j = η 22 j := fun j => (k3.1.2.2.2.1 22 _ (zinr_not (by decide +kernel))).trans (v5 j)
  have fr22_3 : ∀ j, η3 22 j = η 22 j := v6
  have v7 : ∀ j, η4 22 j = η 22 j := fun j => (k4.1.2.2.2.1 22 _ (zinr_not (by decide +kernel))).trans (v6 j)
  have fr22_4 : ∀ j, η4 22 j = η 22 j := v7
  have fr22 : ∀ j, η4 22 j = η 22 j := v7
  have v9 : zEq (η1 0 41) (η 0 41) := (k1.1.2.2.2.1 0 41 (by decide +kernel)).trans rfl
  have v10 : zEq (η2 0 41) (η 0 41) := (k2.1.2.2.2.1 0 41 (by decide +kernel)).trans v9
  have v11 : zEq (η3 0 41) (η 0 41) := (k3.1.2.2.2.1 0 41 (by decide +kernel)).trans v10
  have v12 : zEq (η4 0 41) (η 0 41) := (k4.1.2.2.2.1 0 41 (by decide +kernel)).trans v11
  have f0_41 : η4 0 41 = η 0 41 := v12
  have w0_0_43 : (0 : Int) ≤ η 0 43 ∧ η 0 43 ≤ 8 := wf_ok (a := 43) (b := 43) (z := (0, 8)) hp.1 (by decide +kernel) (Nat.le_refl _) (Nat.le_refl _)
  have v14 : zEq (η1 0 43) (η 0 43) := (k1.1.2.2.2.1 0 43 (by decide +kernel)).trans rfl
  have v15 : zEq (η2 0 43) (η 0 43) := (k2.1.2.2.2.1 0 43 (by decide +kernel)).trans v14
  have v16 : zEq (η3 0 43) (η 0 43) := (k3.1.2.2.2.1 0 43 (by decide +kernel)).trans v15
  have v17 : zEq (η4 0 43) (η 0 43) := (k4.1.2.2.2.1 0 43 (by decide +kernel)).trans v16
  have f0_43 : η4 0 43 = η 0 43 := v17
  have v19 : zEq (η1 0 42) (η 0 42) := (k1.1.2.2.2.1 0 42 (by decide +kernel)).trans rfl
  have v20 : zEq (η2 0 42) (η 0 42) := (k2.1.2.2.2.1 0 42 (by decide +kernel)).trans v19
  have v21 : zEq (η3 0 42) (η 0 42) := (k3.1.2.2.2.1 0 42 (by decide +kernel)).trans v20
  have v22 : zEq (η4 0 42) (η 0 42) := (k4.1.2.2.2.1 0 42 (by decide +kernel)).trans v21
  have f0_42 : η4 0 42 = η 0 42 := v22
  have v24 : zEq (η1 0 45) (η 0 45) := (k1.1.2.2.2.1 0 45 (by decide +kernel)).trans rfl
  have v25 : zEq (η2 0 45) (η 0 45) := (k2.1.2.2.2.1 0 45 (by decide +kernel)).trans v24
  have v26 : zEq (η3 0 45) (η 0 45) := (k3.1.2.2.2.1 0 45 (by decide +kernel)).trans v25
  have v27 : zEq (η4 0 45) (η 0 45) := (k4.1.2.2.2.1 0 45 (by decide +kernel)).trans v26
  have f0_45 : η4 0 45 = η 0 45 := v27
  have w0_0_19 : (0 : Int) ≤ η 0 19 ∧ η 0 19 ≤ 64 := wf_ok (a := 19) (b := 19) (z := (0, 64)) hp.1 (by decide +kernel) (Nat.le_refl _) (Nat.le_refl _)
  have v29 : zEq (η1 0 19) (η 0 19) := (k1.1.2.2.2.1 0 19 (by decide +kernel)).trans rfl
  have v30 : zEq (η2 0 19) (η 0 19) := (k2.1.2.2.2.1 0 19 (by decide +kernel)).trans v29
  have v31 : zEq (η3 0 19) (η 0 19) := (k3.1.2.2.2.1 0 19 (by decide +kernel)).trans v30
  have v32 : zEq (η4 0 19) (η 0 19) := (k4.1.2.2.2.1 0 19 (by decide +kernel)).trans v31
  have f0_19 : η4 0 19 = η 0 19 := v32
  have w4_0_44 : (0 : Int) ≤ η4 0 44 ∧ η4 0 44 ≤ 64 := wf_ok (a := 44) (b := 44) (z := (0, 64)) k4.1.1 (by decide +kernel) (Nat.le_refl _) (Nat.le_refl _)
  have f0_44 : η4 0 44 = η4 0 44 := rfl
  have w0_0_7 : (0 : Int) ≤ η 0 7 ∧ η 0 7 ≤ 700 := wf_ok (a := 7) (b := 7) (z := (0, 700)) hp.1 (by decide +kernel) (Nat.le_refl _) (Nat.le_refl _)
  have v35 : zEq (η1 0 7) (η 0 7) := (k1.1.2.2.2.1 0 7 (by decide +kernel)).trans rfl
  have v36 : zEq (η2 0 7) (η 0 7) := (k2.1.2.2.2.1 0 7 (by decide +kernel)).trans v35
  have v37 : zEq (η3 0 7) (η 0 7) := (k3.1.2.2.2.1 0 7 (by decide +kernel)).trans v36
  have v38 : zEq (η4 0 7) (η 0 7) := (k4.1.2.2.2.1 0 7 (by decide +kernel)).trans v37
  have f0_7 : η4 0 7 = η 0 7 := v38
  have w0_0_6 : (0 : Int) ≤ η 0 6 ∧ η 0 6 ≤ 700 := wf_ok (a := 6) (b := 6) (z := (0, 700)) hp.1 (by decide +kernel) (Nat.le_refl _) (Nat.le_refl _)
  have v40 : zEq (η1 0 6) (η 0 6) := (k1.1.2.2.2.1 0 6 (by decide +kernel)).trans rfl
  have v41 : zEq (η2 0 6) (η 0 6) := (k2.1.2.2.2.1 0 6 (by decide +kernel)).trans v40
  have v42 : zEq (η3 0 6) (η 0 6) := (k3.1.2.2.2.1 0 6 (by decide +kernel)).trans v41
  have v43 : zEq (η4 0 6) (η 0 6) := (k4.1.2.2.2.1 0 6 (by decide +kernel)).trans v42
  have f0_6 : η4 0 6 = η 0 6 := v43
  have v44 : zEq (η4 0 8) (η 0 8) := (k4.1.2.2.2.1 0 8 (by decide +kernel)).trans v3
  have f0_8 : η4 0 8 = η 0 8 := v44
  have wbE : wB wl_l zTr η4 := wb4
  
  have I0 : H_l 0 0 0 η := hpp.1
  have I1 : H_l 0 0 0 η1 := k1.2.1
  have I2 : H_l 0 0 0 η2 := k2.2.1
  have I3 : H_l 0 0 0 η3 := k3.2.1
  have qk3 : η2 0 8 = 1 := k3.2.2 c3
  have I4 : H_l 0 0 0 η4 := k4.2.2 c5
  exact ⟨I4.1, fun w => absurd (show (0 : Int) = 0 by apply Int.le_antisymm <;> omega) w⟩
