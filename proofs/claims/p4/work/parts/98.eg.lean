set_option maxHeartbeats 8000000 in
theorem zl_leafRead_o34 {ro : Nat → List Int32} (η : zE) (hp : sP wl_l zTr zPl_leafRead [] η) (hpp : pPl_leafRead [] η) : ∀ (x1 : Int) (η1 : zE), ((gC2 wl_l [(nat_lit 0, zPl_isSign, zOl_isSign, zMl_isSign), (nat_lit 1, zPl_wrong, zOl_wrong, zMl_wrong), (nat_lit 2, zPl_waitsFor0, zOl_waitsFor0, zMl_waitsFor0), (nat_lit 3, zPl_token, zOl_token, zMl_token), (nat_lit 4, zPl_isKey, zOl_isKey, zMl_isKey), (nat_lit 5, zPl_isCounted, zOl_isCounted, zMl_isCounted), (nat_lit 6, zPl_waitsFor2, zOl_waitsFor2, zMl_waitsFor2), (nat_lit 7, zPl_nameMet, zOl_nameMet, zMl_nameMet), (nat_lit 8, zPl_grown, zOl_grown, zMl_grown)] pCl_leafRead qCl_leafRead) 0).2 [40] η x1 η1 → (x1 = 0) → ∀ (x2 : Int) (η2 : zE), ((gC2 wl_l [(nat_lit 0, zPl_isSign, zOl_isSign, zMl_isSign), (nat_lit 1, zPl_wrong, zOl_wrong, zMl_wrong), (nat_lit 2, zPl_waitsFor0, zOl_waitsFor0, zMl_waitsFor0), (nat_lit 3, zPl_token, zOl_token, zMl_token), (nat_lit 4, zPl_isKey, zOl_isKey, zMl_isKey), (nat_lit 5, zPl_isCounted, zOl_isCounted, zMl_isCounted), (nat_lit 6, zPl_waitsFor2, zOl_waitsFor2, zMl_waitsFor2), (nat_lit 7, zPl_nameMet, zOl_nameMet, zMl_nameMet), (nat_lit 8, zPl_grown, zOl_grown, zMl_grown)] pCl_leafRead qCl_leafRead) 4).2 [12] η1 x2 η2 → (¬ x2 = 0) → ∀ x3 : Int, x3 = η2 0 (Int.toNat 46) → zok 1 x3 → (¬ x3 = 0) → ∀ (x4 : Int) (η3 : zE), ((gC2 wl_l [(nat_lit 0, zPl_isSign, zOl_isSign, zMl_isSign), (nat_lit 1, zPl_wrong, zOl_wrong, zMl_wrong), (nat_lit 2, zPl_waitsFor0, zOl_waitsFor0, zMl_waitsFor0), (nat_lit 3, zPl_token, zOl_token, zMl_token), (nat_lit 4, zPl_isKey, zOl_isKey, zMl_isKey), (nat_lit 5, zPl_isCounted, zOl_isCounted, zMl_isCounted), (nat_lit 6, zPl_waitsFor2, zOl_waitsFor2, zMl_waitsFor2), (nat_lit 7, zPl_nameMet, zOl_nameMet, zMl_nameMet), (nat_lit 8, zPl_grown, zOl_grown, zMl_grown)] pCl_leafRead qCl_leafRead) 5).2 [] η2 x4 η3 → (¬ x4 = 0) → ∀ (x5 : Int) (η4 : zE), ((gC2 wl_l [(nat_lit 0, zPl_isSign, zOl_isSign, zMl_isSign), (nat_lit 1, zPl_wrong, zOl_wrong, zMl_wrong), (nat_lit 2, zPl_waitsFor0, zOl_waitsFor0, zMl_waitsFor0), (nat_lit 3, zPl_token, zOl_token, zMl_token), (nat_lit 4, zPl_isKey, zOl_isKey, zMl_isKey), (nat_lit 5, zPl_isCounted, zOl_isCounted, zMl_isCounted), (nat_lit 6, zPl_waitsFor2, zOl_waitsFor2, zMl_waitsFor2), (nat_lit 7, zPl_nameMet, zOl_nameMet, zMl_nameMet), (nat_lit 8, zPl_grown, zOl_grown, zMl_grown)] pCl_leafRead qCl_leafRead) 6).2 [] η3 x5 η4 → ((gC2 wl_l [(nat_lit 0, zPl_isSign, zOl_isSign, zMl_isSign), (nat_lit 1, zPl_wrong, zOl_wrong, zMl_wrong), (nat_lit 2, zPl_waitsFor0, zOl_waitsFor0, zMl_waitsFor0), (nat_lit 3, zPl_token, zOl_token, zMl_token), (nat_lit 4, zPl_isKey, zOl_isKey, zMl_isKey), (nat_lit 5, zPl_isCounted, zOl_isCounted, zMl_isCounted), (nat_lit 6, zPl_waitsFor2, zOl_waitsFor2, zMl_waitsFor2), (nat_lit 7, zPl_nameMet, zOl_nameMet, zMl_nameMet), (nat_lit 8, zPl_grown, zOl_grown, zMl_grown)] pCl_leafRead qCl_leafRead) 3).1 [] η4 := by
  intro x1 η1 h1 c1 x2 η2 h2 c2 x3 e3 r3 c3 x4 η3 h4 c4 x5 η4 h5
  have k1 : sQ wl_l zTr zOl_isSign zMl_isSign [40] η x1 η1 ∧ pQl_isSign [40] η x1 η1 := h1
  have k2 : sQ wl_l zTr zOl_isKey zMl_isKey [12] η1 x2 η2 ∧ pQl_isKey [12] η1 x2 η2 := h2
  have k4 : sQ wl_l zTr zOl_isCounted zMl_isCounted [] η2 x4 η3 ∧ pQl_isCounted [] η2 x4 η3 := h4
  have k5 : sQ wl_l zTr zOl_waitsFor2 zMl_waitsFor2 [] η3 x5 η4 ∧ pQl_waitsFor2 [] η3 x5 η4 := h5
  exact k5.2
set_option maxHeartbeats 8000000 in
theorem zl_leafRead_o35 {ro : Nat → List Int32} (η : zE) (hp : sP wl_l zTr zPl_leafRead [] η) (hpp : pPl_leafRead [] η) : ∀ (x1 : Int) (η1 : zE), ((gC2 wl_l [(nat_lit 0, zPl_isSign, zOl_isSign, zMl_isSign), (nat_lit 1, zPl_wrong, zOl_wrong, zMl_wrong), (nat_lit 2, zPl_waitsFor0, zOl_waitsFor0, zMl_waitsFor0), (nat_lit 3, zPl_token, zOl_token, zMl_token), (nat_lit 4, zPl_isKey, zOl_isKey, zMl_isKey), (nat_lit 5, zPl_isCounted, zOl_isCounted, zMl_isCounted), (nat_lit 6, zPl_waitsFor2, zOl_waitsFor2, zMl_waitsFor2), (nat_lit 7, zPl_nameMet, zOl_nameMet, zMl_nameMet), (nat_lit 8, zPl_grown, zOl_grown, zMl_grown)] pCl_leafRead qCl_leafRead) 0).2 [40] η x1 η1 → (x1 = 0) → ∀ (x2 : Int) (η2 : zE), ((gC2 wl_l [(nat_lit 0, zPl_isSign, zOl_isSign, zMl_isSign), (nat_lit 1, zPl_wrong, zOl_wrong, zMl_wrong), (nat_lit 2, zPl_waitsFor0, zOl_waitsFor0, zMl_waitsFor0), (nat_lit 3, zPl_token, zOl_token, zMl_token), (nat_lit 4, zPl_isKey, zOl_isKey, zMl_isKey), (nat_lit 5, zPl_isCounted, zOl_isCounted, zMl_isCounted), (nat_lit 6, zPl_waitsFor2, zOl_waitsFor2, zMl_waitsFor2), (nat_lit 7, zPl_nameMet, zOl_nameMet, zMl_nameMet), (nat_lit 8, zPl_grown, zOl_grown, zMl_grown)] pCl_leafRead qCl_leafRead) 4).2 [12] η1 x2 η2 → (¬ x2 = 0) → ∀ x3 : Int, x3 = η2 0 (Int.toNat 46) → zok 1 x3 → (¬ x3 = 0) → ∀ (x4 : Int) (η3 : zE), ((gC2 wl_l [(nat_lit 0, zPl_isSign, zOl_isSign, zMl_isSign), (nat_lit 1, zPl_wrong, zOl_wrong, zMl_wrong), (nat_lit 2, zPl_waitsFor0, zOl_waitsFor0, zMl_waitsFor0), (nat_lit 3, zPl_token, zOl_token, zMl_token), (nat_lit 4, zPl_isKey, zOl_isKey, zMl_isKey), (nat_lit 5, zPl_isCounted, zOl_isCounted, zMl_isCounted), (nat_lit 6, zPl_waitsFor2, zOl_waitsFor2, zMl_waitsFor2), (nat_lit 7, zPl_nameMet, zOl_nameMet, zMl_nameMet), (nat_lit 8, zPl_grown, zOl_grown, zMl_grown)] pCl_leafRead qCl_leafRead) 5).2 [] η2 x4 η3 → (¬ x4 = 0) → ∀ (x5 : Int) (η4 : zE), ((gC2 wl_l [(nat_lit 0, zPl_isSign, zOl_isSign, zMl_isSign), (nat_lit 1, zPl_wrong, zOl_wrong, zMl_wrong), (nat_lit 2, zPl_waitsFor0, zOl_waitsFor0, zMl_waitsFor0), (nat_lit 3, zPl_token, zOl_token, zMl_token), (nat_lit 4, zPl_isKey, zOl_isKey, zMl_isKey), (nat_lit 5, zPl_isCounted, zOl_isCounted, zMl_isCounted), (nat_lit 6, zPl_waitsFor2, zOl_waitsFor2, zMl_waitsFor2), (nat_lit 7, zPl_nameMet, zOl_nameMet, zMl_nameMet), (nat_lit 8, zPl_grown, zOl_grown, zMl_grown)] pCl_leafRead qCl_leafRead) 6).2 [] η3 x5 η4 → ∀ (x6 : Int) (η5 : zE), ((gC2 wl_l [(nat_lit 0, zPl_isSign, zOl_isSign, zMl_isSign), (nat_lit 1, zPl_wrong, zOl_wrong, zMl_wrong), (nat_lit 2, zPl_waitsFor0, zOl_waitsFor0, zMl_waitsFor0), (nat_lit 3, zPl_token, zOl_token, zMl_token), (nat_lit 4, zPl_isKey, zOl_isKey, zMl_isKey), (nat_lit 5, zPl_isCounted, zOl_isCounted, zMl_isCounted), (nat_lit 6, zPl_waitsFor2, zOl_waitsFor2, zMl_waitsFor2), (nat_lit 7, zPl_nameMet, zOl_nameMet, zMl_nameMet), (nat_lit 8, zPl_grown, zOl_grown, zMl_grown)] pCl_leafRead qCl_leafRead) 3).2 [] η4 x6 η5 → (fun (_ : Nat) (y : Int) (η' : zE) => pQl_leafRead [] η y η') 0 1 η5 := by
  have hw : η 0 45 = 1 := hpp.2
  have hs : η 0 7 ≤ η 0 6 := hpp.1.1.1.1
  have bd43 : (0 : Int) ≤ η 0 43 ∧ η 0 43 ≤ 8 := wf_ok (a := 43) (b := 43) (z := (0, 8)) hp.1 (by decide +kernel) (Nat.le_refl _) (Nat.le_refl _)
  have bd44 : (0 : Int) ≤ η 0 44 ∧ η 0 44 ≤ 64 := wf_ok (a := 44) (b := 44) (z := (0, 64)) hp.1 (by decide +kernel) (Nat.le_refl _) (Nat.le_refl _)
  have bd19 : (0 : Int) ≤ η 0 19 ∧ η 0 19 ≤ 64 := wf_ok (a := 19) (b := 19) (z := (0, 64)) hp.1 (by decide +kernel) (Nat.le_refl _) (Nat.le_refl _)
  intro x1 η1 h1 c1 x2 η2 h2 c2 x3 e3 r3 c3 x4 η3 h4 c4 x5 η4 h5 x6 η5 h6
  have k1 : sQ wl_l zTr zOl_isSign zMl_isSign [40] η x1 η1 ∧ pQl_isSign [40] η x1 η1 := h1
  have k2 : sQ wl_l zTr zOl_isKey zMl_isKey [12] η1 x2 η2 ∧ pQl_isKey [12] η1 x2 η2 := h2
  have k4 : sQ wl_l zTr zOl_isCounted zMl_isCounted [] η2 x4 η3 ∧ pQl_isCounted [] η2 x4 η3 := h4
  have k5 : sQ wl_l zTr zOl_waitsFor2 zMl_waitsFor2 [] η3 x5 η4 ∧ pQl_waitsFor2 [] η3 x5 η4 := h5
  have k6 : sQ wl_l zTr zOl_token zMl_token [] η4 x6 η5 ∧ pQl_token [] η4 x6 η5 := h6
  have w0_0_8 : (0 : Int) ≤ η 0 8 ∧ η 0 8 ≤ 6 := wf_ok (a := 8) (b := 8) (z := (0, 6)) hp.1 (by decide +kernel) (Nat.le_refl _) (Nat.le_refl _)
  have c0_0_8 : η 0 8 = η 0 8 := rfl
  have wb1 : wB wl_l zTr η1 := k1.1.1
  have bx1 : (0 : Int) ≤ x1 ∧ x1 ≤ 1 := k1.1.2.1
  have v1 : zEq (η1 0 8) (η 0 8) := (k1.1.2.2.2.1 0 8 (by decide +kernel)).trans rfl
  have c1_0_8 : η1 0 8 = η 0 8 := v1
  have wb2 : wB wl_l zTr η2 := k2.1.1
  have bx2 : (0 : Int) ≤ x2 ∧ x2 ≤ 1 := k2.1.2.1
  have v3 : zEq (η1 0 46) (η 0 46) := (k1.1.2.2.2.1 0 46 (by decide +kernel)).trans rfl
  have v4 : zEq (η2 0 46) (η 0 46) := (k2.1.2.2.2.1 0 46 (by decide +kernel)).trans v3
  replace e3 : x3 = η 0 46 := e3.trans v4
  replace r3 : 0 ≤ x3 ∧ x3 ≤ 1 := r3
  have v5 : zEq (η2 0 8) (η 0 8) := (k2.1.2.2.2.1 0 8 (by decide +kernel)).trans v1
  have c2_0_8 : η2 0 8 = η 0 8 := v5
  have wb3 : wB wl_l zTr η3 := k4.1.1
  have bx4 : (0 : Int) ≤ x4 ∧ x4 ≤ 1 := k4.1.2.1
  have v6 : zEq (η3 0 8) (η 0 8) := (k4.1.2.2.2.1 0 8 (by decide +kernel)).trans v5
  have c3_0_8 : η3 0 8 = η 0 8 := v6
  have wb4 : wB wl_l zTr η4 := k5.1.1
  have bx5 : (0 : Int) ≤ x5 ∧ x5 ≤ 0 := k5.1.2.1
  have w0_0_7 : (0 : Int) ≤ η 0 7 ∧ η 0 7 ≤ 700 := wf_ok (a := 7) (b := 7) (z := (0, 700)) hp.1 (by decide +kernel) (Nat.le_refl _) (Nat.le_refl _)
  have v8 : zEq (η1 0 7) (η 0 7) := (k1.1.2.2.2.1 0 7 (by decide +kernel)).trans rfl
  have v9 : zEq (η2 0 7) (η 0 7) := (k2.1.2.2.2.1 0 7 (by decide +kernel)).trans v8
  have v10 : zEq (η3 0 7) (η 0 7) := (k4.1.2.2.2.1 0 7 (by decide +kernel)).trans v9
  have v11 : zEq (η4 0 7) (η 0 7) := (k5.1.2.2.2.1 0 7 (by decide +kernel)).trans v10
  have c4_0_7 : η4 0 7 = η 0 7 := v11
  have w0_0_6 : (0 : Int) ≤ η 0 6 ∧ η 0 6 ≤ 700 := wf_ok (a := 6) (b := 6) (z := (0, 700)) hp.1 (by decide +kernel) (Nat.le_refl _) (Nat.le_refl _)
  have v13 : zEq (η1 0 6) (η 0 6) := (k1.1.2.2.2.1 0 6 (by decide +kernel)).trans rfl
  have v14 : zEq (η2 0 6) (η 0 6) := (k2.1.2.2.2.1 0 6 (by decide +kernel)).trans v13
  have v15 : zEq (η3 0 6) (η 0 6) := (k4.1.2.2.2.1 0 6 (by decide +kernel)).trans v14
  have v16 : zEq (η4 0 6) (η 0 6) := (k5.1.2.2.2.1 0 6 (by decide +kernel)).trans v15
  have c4_0_6 : η4 0 6 = η 0 6 := v16
  have v17 : zEq (η4 0 8) (η 0 8) := (k5.1.2.2.2.1 0 8 (by decide +kernel)).trans v6
  have c4_0_8 : η4 0 8 = η 0 8 := v17
  have wb5 : wB wl_l zTr η5 := k6.1.1
  have bx6 : (0 : Int) ≤ x6 ∧ x6 ≤ 0 := k6.1.2.1
  have fm1 : zFm zMl_leafRead η η1 := zFm_tr2 zFm_rf k1.1.2.2.2.1 (by decide +kernel)
  have fm2 : zFm zMl_leafRead η η2 := zFm_tr2 fm1 k2.1.2.2.2.1 (by decide +kernel)
  have fm3 : zFm zMl_leafRead η η3 := zFm_tr2 fm2 k4.1.2.2.2.1 (by decide +kernel)
  have fm4 : zFm zMl_leafRead η η4 := zFm_tr2 fm3 k5.1.2.2.2.1 (by decide +kernel)
  have fm5 : zFm zMl_leafRead η η5 := zFm_tr2 fm4 k6.1.2.2.2.1 (by decide +kernel)
  have fmE : zFm zMl_leafRead η η5 := fm5
  have fr22_0 : ∀ j, η 22 j = η 22 j := fun _ => rfl
  have v18 : ∀ j, η1 22 j = η 22 j := fun j => k1.1.2.2.2.1 22 _ (zinr_not (by decide +kernel))
  have fr22_1 : ∀ j, η1 22 j = η 22 j := v18
  have v19 : ∀ j, η2 22 j = η 22 j := fun j => (k2.1.2.2.2.1 22 _ (zinr_not (by decide +kernel))).trans (v18 j)
  have fr22_2 : ∀ j, η2 22 j = η 22 j := v19
  have v20 : ∀ j, η3 22 j = η 22 j := fun j => (k4.1.2.2.2.1 22 _ (zinr_not (by decide +kernel))).trans (v19 j)
  have fr22_3 : ∀ j, η3 22 j = η 22 j := v20
  have fr22_4 : ∀ j, η4 22 j = η4 22 j := fun _ => rfl
  have v22 : ∀ j, η5 22 j = η4 22 j := fun j => k6.1.2.2.2.1 22 _ (zinr_not (by decide +kernel))
  have fr22_5 : ∀ j, η5 22 j = η4 22 j := v22
  have fr22 : ∀ j, η5 22 j = η4 22 j := v22
  have v24 : zEq (η5 0 41) (η4 0 41) := (k6.1.2.2.2.1 0 41 (by decide +kernel)).trans rfl
  have f0_41 : η5 0 41 = η4 0 41 := v24
  have w0_0_43 : (0 : Int) ≤ η 0 43 ∧ η 0 43 ≤ 8 := wf_ok (a := 43) (b := 43) (z := (0, 8)) hp.1 (by decide +kernel) (Nat.le_refl _) (Nat.le_refl _)
  have v26 : zEq (η1 0 43) (η 0 43) := (k1.1.2.2.2.1 0 43 (by decide +kernel)).trans rfl
  have v27 : zEq (η2 0 43) (η 0 43) := (k2.1.2.2.2.1 0 43 (by decide +kernel)).trans v26
  have v28 : zEq (η3 0 43) (η 0 43) := (k4.1.2.2.2.1 0 43 (by decide +kernel)).trans v27
  have v29 : zEq (η4 0 43) (η 0 43) := (k5.1.2.2.2.1 0 43 (by decide +kernel)).trans v28
  have v30 : zEq (η5 0 43) (η 0 43) := (k6.1.2.2.2.1 0 43 (by decide +kernel)).trans v29
  have f0_43 : η5 0 43 = η 0 43 := v30
  have v32 : zEq (η1 0 42) (η 0 42) := (k1.1.2.2.2.1 0 42 (by decide +kernel)).trans rfl
  have v33 : zEq (η2 0 42) (η 0 42) := (k2.1.2.2.2.1 0 42 (by decide +kernel)).trans v32
  have v34 : zEq (η3 0 42) (η 0 42) := (k4.1.2.2.2.1 0 42 (by decide +kernel)).trans v33
  have v35 : zEq (η4 0 42) (η 0 42) := (k5.1.2.2.2.1 0 42 (by decide +kernel)).trans v34
  have v36 : zEq (η5 0 42) (η 0 42) := (k6.1.2.2.2.1 0 42 (by decide +kernel)).trans v35
  have f0_42 : η5 0 42 = η 0 42 := v36
  have v38 : zEq (η1 0 45) (η 0 45) := (k1.1.2.2.2.1 0 45 (by decide +kernel)).trans rfl
  have v39 : zEq (η2 0 45) (η 0 45) := (k2.1.2.2.2.1 0 45 (by decide +kernel)).trans v38
  have v40 : zEq (η3 0 45) (η 0 45) := (k4.1.2.2.2.1 0 45 (by decide +kernel)).trans v39
  have v41 : zEq (η4 0 45) (η 0 45) := (k5.1.2.2.2.1 0 45 (by decide +kernel)).trans v40
  have v42 : zEq (η5 0 45) (η 0 45) := (k6.1.2.2.2.1 0 45 (by decide +kernel)).trans v41
  have f0_45 : η5 0 45 = η 0 45 := v42
  have w0_0_19 : (0 : Int) ≤ η 0 19 ∧ η 0 19 ≤ 64 := wf_ok (a := 19) (b := 19) (z := (0, 64)) hp.1 (by decide +kernel) (Nat.le_refl _) (Nat.le_refl _)
  have v44 : zEq (η1 0 19) (η 0 19) := (k1.1.2.2.2.1 0 19 (by decide +kernel)).trans rfl
  have v45 : zEq (η2 0 19) (η 0 19) := (k2.1.2.2.2.1 0 19 (by decide +kernel)).trans v44
  have v46 : zEq (η3 0 19) (η 0 19) := (k4.1.2.2.2.1 0 19 (by decide +kernel)).trans v45
  have v47 : zEq (η4 0 19) (η 0 19) := (k5.1.2.2.2.1 0 19 (by decide +kernel)).trans v46
  have v48 : zEq (η5 0 19) (η 0 19) := (k6.1.2.2.2.1 0 19 (by decide +kernel)).trans v47
  have f0_19 : η5 0 19 = η 0 19 := v48
  have w3_0_44 : (0 : Int) ≤ η3 0 44 ∧ η3 0 44 ≤ 64 := wf_ok (a := 44) (b := 44) (z := (0, 64)) k4.1.1 (by decide +kernel) (Nat.le_refl _) (Nat.le_refl _)
  have v50 : zEq (η4 0 44) (η3 0 44) := (k5.1.2.2.2.1 0 44 (by decide +kernel)).trans rfl
  have v51 : zEq (η5 0 44) (η3 0 44) := (k6.1.2.2.2.1 0 44 (by decide +kernel)).trans v50
  have f0_44 : η5 0 44 = η3 0 44 := v51
  have w5_0_7 : (0 : Int) ≤ η5 0 7 ∧ η5 0 7 ≤ 700 := wf_ok (a := 7) (b := 7) (z := (0, 700)) k6.1.1 (by decide +kernel) (Nat.le_refl _) (Nat.le_refl _)
  have f0_7 : η5 0 7 = η5 0 7 := rfl
  have v53 : zEq (η5 0 6) (η 0 6) := (k6.1.2.2.2.1 0 6 (by decide +kernel)).trans v16
  have f0_6 : η5 0 6 = η 0 6 := v53
  have w5_0_8 : (0 : Int) ≤ η5 0 8 ∧ η5 0 8 ≤ 6 := wf_ok (a := 8) (b := 8) (z := (0, 6)) k6.1.1 (by decide +kernel) (Nat.le_refl _) (Nat.le_refl _)
  have f0_8 : η5 0 8 = η5 0 8 := rfl
  have wbE : wB wl_l zTr η5 := wb5
  
  have I0 : H_l 0 0 0 η := hpp.1
  have I1 : H_l 0 0 0 η1 := k1.2.1
  have I2 : H_l 0 0 0 η2 := k2.2.1
  have qk2 : η1 0 8 = 1 := k2.2.2 c2
  have I3 : H_l 1 0 0 η3 := k4.2.1 c4
  have I4 : H_l 0 0 0 η4 := k5.2
  have I5 : H_l 0 0 0 η5 := k6.2.1
  have qt6 : ¬ η4 0 8 = 0 → 10 * (η5 0 6 - η5 0 7) + η5 0 8 < 10 * (η4 0 6 - η4 0 7) + η4 0 8 := k6.2.2
  refine ⟨I5.1, fun _ => ⟨I5, show 10 * (η5 0 6 - η5 0 7) + η5 0 8 < 10 * (η 0 6 - η 0 7) + η 0 8 by omega, fun w => ?_⟩⟩
  have w : η5 0 45 = 0 := w
  omega
set_option maxHeartbeats 8000000 in
theorem zl_leafRead_o36 {ro : Nat → List Int32} (η : zE) (hp : sP wl_l zTr zPl_leafRead [] η) (hpp : pPl_leafRead [] η) : ∀ (x1 : Int) (η1 : zE), ((gC2 wl_l [(nat_lit 0, zPl_isSign, zOl_isSign, zMl_isSign), (nat_lit 1, zPl_wrong, zOl_wrong, zMl_wrong), (nat_lit 2, zPl_waitsFor0, zOl_waitsFor0, zMl_waitsFor0), (nat_lit 3, zPl_token, zOl_token, zMl_token), (nat_lit 4, zPl_isKey, zOl_isKey, zMl_isKey), (nat_lit 5, zPl_isCounted, zOl_isCounted, zMl_isCounted), (nat_lit 6, zPl_waitsFor2, zOl_waitsFor2, zMl_waitsFor2), (nat_lit 7, zPl_nameMet, zOl_nameMet, zMl_nameMet), (nat_lit 8, zPl_grown, zOl_grown, zMl_grown)] pCl_leafRead qCl_leafRead) 0).2 [40] η x1 η1 → (x1 = 0) → ∀ (x2 : Int) (η2 : zE), ((gC2 wl_l [(nat_lit 0, zPl_isSign, zOl_isSign, zMl_isSign), (nat_lit 1, zPl_wrong, zOl_wrong, zMl_wrong), (nat_lit 2, zPl_waitsFor0, zOl_waitsFor0, zMl_waitsFor0), (nat_lit 3, zPl_token, zOl_token, zMl_token), (nat_lit 4, zPl_isKey, zOl_isKey, zMl_isKey), (nat_lit 5, zPl_isCounted, zOl_isCounted, zMl_isCounted), (nat_lit 6, zPl_waitsFor2, zOl_waitsFor2, zMl_waitsFor2), (nat_lit 7, zPl_nameMet, zOl_nameMet, zMl_nameMet), (nat_lit 8, zPl_grown, zOl_grown, zMl_grown)] pCl_leafRead qCl_leafRead) 4).2 [12] η1 x2 η2 → (¬ x2 = 0) → ∀ x3 : Int, x3 = η2 0 (Int.toNat 46) → zok 1 x3 → (¬ x3 = 0) → ∀ (x4 : Int) (η3 : zE), ((gC2 wl_l [(nat_lit 0, zPl_isSign, zOl_isSign, zMl_isSign), (nat_lit 1, zPl_wrong, zOl_wrong, zMl_wrong), (nat_lit 2, zPl_waitsFor0, zOl_waitsFor0, zMl_waitsFor0), (nat_lit 3, zPl_token, zOl_token, zMl_token), (nat_lit 4, zPl_isKey, zOl_isKey, zMl_isKey), (nat_lit 5, zPl_isCounted, zOl_isCounted, zMl_isCounted), (nat_lit 6, zPl_waitsFor2, zOl_waitsFor2, zMl_waitsFor2), (nat_lit 7, zPl_nameMet, zOl_nameMet, zMl_nameMet), (nat_lit 8, zPl_grown, zOl_grown, zMl_grown)] pCl_leafRead qCl_leafRead) 5).2 [] η2 x4 η3 → (x4 = 0) → (fun (_ : Nat) (y : Int) (η' : zE) => pQl_leafRead [] η y η') 0 0 η3 := by
  have hw : η 0 45 = 1 := hpp.2
  have hs : η 0 7 ≤ η 0 6 := hpp.1.1.1.1
  have bd43 : (0 : Int) ≤ η 0 43 ∧ η 0 43 ≤ 8 := wf_ok (a := 43) (b := 43) (z := (0, 8)) hp.1 (by decide +kernel) (Nat.le_refl _) (Nat.le_refl _)
  have bd44 : (0 : Int) ≤ η 0 44 ∧ η 0 44 ≤ 64 := wf_ok (a := 44) (b := 44) (z := (0, 64)) hp.1 (by decide +kernel) (Nat.le_refl _) (Nat.le_refl _)
  have bd19 : (0 : Int) ≤ η 0 19 ∧ η 0 19 ≤ 64 := wf_ok (a := 19) (b := 19) (z := (0, 64)) hp.1 (by decide +kernel) (Nat.le_refl _) (Nat.le_refl _)
  intro x1 η1 h1 c1 x2 η2 h2 c2 x3 e3 r3 c3 x4 η3 h4 c4
  have k1 : sQ wl_l zTr zOl_isSign zMl_isSign [40] η x1 η1 ∧ pQl_isSign [40] η x1 η1 := h1
  have k2 : sQ wl_l zTr zOl_isKey zMl_isKey [12] η1 x2 η2 ∧ pQl_isKey [12] η1 x2 η2 := h2
  have k4 : sQ wl_l zTr zOl_isCounted zMl_isCounted [] η2 x4 η3 ∧ pQl_isCounted [] η2 x4 η3 := h4
  have w0_0_8 : (0 : Int) ≤ η 0 8 ∧ η 0 8 ≤ 6 := wf_ok (a := 8) (b := 8) (z := (0, 6)) hp.1 (by decide +kernel) (Nat.le_refl _) (Nat.le_refl _)
  have c0_0_8 : η 0 8 = η 0 8 := rfl
  have wb1 : wB wl_l zTr η1 := k1.1.1
  have bx1 : (0 : Int) ≤ x1 ∧ x1 ≤ 1 := k1.1.2.1
  have v1 : zEq (η1 0 8) (η 0 8) := (k1.1.2.2.2.1 0 8 (by decide +kernel)).trans rfl
  have c1_0_8 : η1 0 8 = η 0 8 := v1
  have wb2 : wB wl_l zTr η2 := k2.1.1
  have bx2 : (0 : Int) ≤ x2 ∧ x2 ≤ 1 := k2.1.2.1
  have v3 : zEq (η1 0 46) (η 0 46) := (k1.1.2.2.2.1 0 46 (by decide +kernel)).trans rfl
  have v4 : zEq (η2 0 46) (η 0 46) := (k2.1.2.2.2.1 0 46 (by decide +kernel)).trans v3
  replace e3 : x3 = η 0 46 := e3.trans v4
  replace r3 : 0 ≤ x3 ∧ x3 ≤ 1 := r3
  have v5 : zEq (η2 0 8) (η 0 8) := (k2.1.2.2.2.1 0 8 (by decide +kernel)).trans v1
  have c2_0_8 : η2 0 8 = η 0 8 := v5
  have wb3 : wB wl_l zTr η3 := k4.1.1
  have bx4 : (0 : Int) ≤ x4 ∧ x4 ≤ 1 := k4.1.2.1
  have fm1 : zFm zMl_leafRead η η1 := zFm_tr2 zFm_rf k1.1.2.2.2.1 (by decide +kernel)
  have fm2 : zFm zMl_leafRead η η2 := zFm_tr2 fm1 k2.1.2.2.2.1 (by decide +kernel)
  have fm3 : zFm zMl_leafRead η η3 := zFm_tr2 fm2 k4.1.2.2.2.1 (by decide +kernel)
  have fmE : zFm zMl_leafRead η η3 := fm3
  have fr22_0 : ∀ j, η 22 j = η 22 j := fun _ => rfl
  have v6 : ∀ j, η1 22 j = η 22 j := fun j => k1.1.2.2.2.1 22 _ (zinr_not (by decide +kernel))
  have fr22_1 : ∀ j, η1 22 j = η 22 j := v6
  have v7 : ∀ j, η2 22 j = η 22 j := fun j => (k2.1.2.2.2.1 22 _ (zinr_not (by decide +kernel))).trans (v6 j)
  have fr22_2 : ∀ j, η2 22 j = η 22 j := v7
  have v8 : ∀ j, η3 22 j = η 22 j := fun j => (k4.1.2.2.2.1 22 _ (zinr_not (by decide +kernel))).trans (v7 j)
  have fr22_3 : ∀ j, η3 22 j = η 22 j := v8
  have fr22 : ∀ j, η3 22 j = η 22 j := v8
  have v10 : zEq (η1 0 41) (η 0 41) := (k1.1.2.2.2.1 0 41 (by decide +kernel)).trans rfl
  have v11 : zEq (η2 0 41) (η 0 41) := (k2.1.2.2.2.1 0 41 (by decide +kernel)).trans v10
  have v12 : zEq (η3 0 41) (η 0 41) := (k4.1.2.2.2.1 0 41 (by decide +kernel)).trans v11
  have f0_41 : η3 0 41 = η 0 41 := v12
  have w0_0_43 : (0 : Int) ≤ η 0 43 ∧ η 0 43 ≤ 8 := wf_ok (a := 43) (b := 43) (z := (0, 8)) hp.1 (by decide +kernel) (Nat.le_refl _) (Nat.le_refl _)
  have v14 : zEq (η1 0 43) (η 0 43) := (k1.1.2.2.2.1 0 43 (by decide +kernel)).trans rfl
  have v15 : zEq (η2 0 43) (η 0 43) := (k2.1.2.2.2.1 0 43 (by decide +kernel)).trans v14
  have v16 : zEq (η3 0 43) (η 0 43) := (k4.1.2.2.2.1 0 43 (by decide +kernel)).trans v15
  have f0_43 : η3 0 43 = η 0 43 := v16
  have v18 : zEq (η1 0 42) (η 0 42) := (k1.1.2.2.2.1 0 42 (by decide +kernel)).trans rfl
  have v19 : zEq (η2 0 42) (η 0 42) := (k2.1.2.2.2.1 0 42 (by decide +kernel)).trans v18
  have v20 : zEq (η3 0 42) (η 0 42) := (k4.1.2.2.2.1 0 42 (by decide +kernel)).trans v19
  have f0_42 : η3 0 42 = η 0 42 := v20
  have v22 : zEq (η1 0 45) (η 0 45) := (k1.1.2.2.2.1 0 45 (by decide +kernel)).trans rfl
  have v23 : zEq (η2 0 45) (η 0 45) := (k2.1.2.2.2.1 0 45 (by decide +kernel)).trans v22
  have v24 : zEq (η3 0 45) (η 0 45) := (k4.1.2.2.2.1 0 45 (by decide +kernel)).trans v23
  have f0_45 : η3 0 45 = η 0 45 := v24
  have w0_0_19 : (0 : Int) ≤ η 0 19 ∧ η 0 19 ≤ 64 := wf_ok (a := 19) (b := 19) (z := (0, 64)) hp.1 (by decide +kernel) (Nat.le_refl _) (Nat.le_refl _)
  have v26 : zEq (η1 0 19) (η 0 19) := (k1.1.2.2.2.1 0 19 (by decide +kernel)).trans rfl
  have v27 : zEq (η2 0 19) (η 0 19) := (k2.1.2.2.2.1 0 19 (by decide +kernel)).trans v26
  have v28 : zEq (η3 0 19) (η 0 19) := (k4.1.2.2.2.1 0 19 (by decide +kernel)).trans v27
  have f0_19 : η3 0 19 = η 0 19 := v28
  have w3_0_44 : (0 : Int) ≤ η3 0 44 ∧ η3 0 44 ≤ 64 := wf_ok (a := 44) (b := 44) (z := (0, 64)) k4.1.1 (by decide +kernel) (Nat.le_refl _) (Nat.le_refl _)
  have f0_44 : η3 0 44 = η3 0 44 := rfl
  have w0_0_7 : (0 : Int) ≤ η 0 7 ∧ η 0 7 ≤ 700 := wf_ok (a := 7) (b := 7) (z := (0, 700)) hp.1 (by decide +kernel) (Nat.le_refl _) (Nat.le_refl _)
  have v31 : zEq (η1 0 7) (η 0 7) := (k1.1.2.2.2.1 0 7 (by decide +kernel)).trans rfl
  have v32 : zEq (η2 0 7) (η 0 7) := (k2.1.2.2.2.1 0 7 (by decide +kernel)).trans v31
  have v33 : zEq (η3 0 7) (η 0 7) := (k4.1.2.2.2.1 0 7 (by decide +kernel)).trans v32
  have f0_7 : η3 0 7 = η 0 7 := v33
  have w0_0_6 : (0 : Int) ≤ η 0 6 ∧ η 0 6 ≤ 700 := wf_ok (a := 6) (b := 6) (z := (0, 700)) hp.1 (by decide +kernel) (Nat.le_refl _) (Nat.le_refl _)
  have v35 : zEq (η1 0 6) (η 0 6) := (k1.1.2.2.2.1 0 6 (by decide +kernel)).trans rfl
  have v36 : zEq (η2 0 6) (η 0 6) := (k2.1.2.2.2.1 0 6 (by decide +kernel)).trans v35
  have v37 : zEq (η3 0 6) (η 0 6) := (k4.1.2.2.2.1 0 6 (by decide +kernel)).trans v36
  have f0_6 : η3 0 6 = η 0 6 := v37
  have v38 : zEq (η3 0 8) (η 0 8) := (k4.1.2.2.2.1 0 8 (by decide +kernel)).trans v5
  have f0_8 : η3 0 8 = η 0 8 := v38
  have wbE : wB wl_l zTr η3 := wb3
  
  have I0 : H_l 0 0 0 η := hpp.1
  have I1 : H_l 0 0 0 η1 := k1.2.1
  have I2 : H_l 0 0 0 η2 := k2.2.1
  have qk2 : η1 0 8 = 1 := k2.2.2 c2
  have I3 : H_l 0 0 0 η3 := k4.2.2 c4
  exact ⟨I3.1, fun w => absurd (show (0 : Int) = 0 by apply Int.le_antisymm <;> omega) w⟩
set_option maxHeartbeats 8000000 in
theorem zl_leafRead_o37 {ro : Nat → List Int32} (η : zE) (hp : sP wl_l zTr zPl_leafRead [] η) (hpp : pPl_leafRead [] η) : ∀ (x1 : Int) (η1 : zE), ((gC2 wl_l [(nat_lit 0, zPl_isSign, zOl_isSign, zMl_isSign), (nat_lit 1, zPl_wrong, zOl_wrong, zMl_wrong), (nat_lit 2, zPl_waitsFor0, zOl_waitsFor0, zMl_waitsFor0), (nat_lit 3, zPl_token, zOl_token, zMl_token), (nat_lit 4, zPl_isKey, zOl_isKey, zMl_isKey), (nat_lit 5, zPl_isCounted, zOl_isCounted, zMl_isCounted), (nat_lit 6, zPl_waitsFor2, zOl_waitsFor2, zMl_waitsFor2), (nat_lit 7, zPl_nameMet, zOl_nameMet, zMl_nameMet), (nat_lit 8, zPl_grown, zOl_grown, zMl_grown)] pCl_leafRead qCl_leafRead) 0).2 [40] η x1 η1 → (¬ x1 = 0) → ∀ x2 : Int, x2 = η1 0 (Int.toNat 43) → zok 0 x2 → (¬ x2 = 8) → ∀ x3 : Int, x3 = η1 0 (Int.toNat 43) → zok 0 x3 → ∀ x4 : Int, x4 = zd 0 1 x3 1 → ∀ η2 : zE, η2 = zup η1 0 (Int.toNat 43) x4 → ((gC2 wl_l [(nat_lit 0, zPl_isSign, zOl_isSign, zMl_isSign), (nat_lit 1, zPl_wrong, zOl_wrong, zMl_wrong), (nat_lit 2, zPl_waitsFor0, zOl_waitsFor0, zMl_waitsFor0), (nat_lit 3, zPl_token, zOl_token, zMl_token), (nat_lit 4, zPl_isKey, zOl_isKey, zMl_isKey), (nat_lit 5, zPl_isCounted, zOl_isCounted, zMl_isCounted), (nat_lit 6, zPl_waitsFor2, zOl_waitsFor2, zMl_waitsFor2), (nat_lit 7, zPl_nameMet, zOl_nameMet, zMl_nameMet), (nat_lit 8, zPl_grown, zOl_grown, zMl_grown)] pCl_leafRead qCl_leafRead) 2).1 [] η2 := by
  have hw : η 0 45 = 1 := hpp.2
  have hs : η 0 7 ≤ η 0 6 := hpp.1.1.1.1
  have bd43 : (0 : Int) ≤ η 0 43 ∧ η 0 43 ≤ 8 := wf_ok (a := 43) (b := 43) (z := (0, 8)) hp.1 (by decide +kernel) (Nat.le_refl _) (Nat.le_refl _)
  have bd44 : (0 : Int) ≤ η 0 44 ∧ η 0 44 ≤ 64 := wf_ok (a := 44) (b := 44) (z := (0, 64)) hp.1 (by decide +kernel) (Nat.le_refl _) (Nat.le_refl _)
  have bd19 : (0 : Int) ≤ η 0 19 ∧ η 0 19 ≤ 64 := wf_ok (a := 19) (b := 19) (z := (0, 64)) hp.1 (by decide +kernel) (Nat.le_refl _) (Nat.le_refl _)
  intro x1 η1 h1 c1 x2 e2 r2 c2 x3 e3 r3 x4 e4 η2 eη2
  replace e4 := zEq_i e4
  have k1 : sQ wl_l zTr zOl_isSign zMl_isSign [40] η x1 η1 ∧ pQl_isSign [40] η x1 η1 := h1
  have w0_0_8 : (0 : Int) ≤ η 0 8 ∧ η 0 8 ≤ 6 := wf_ok (a := 8) (b := 8) (z := (0, 6)) hp.1 (by decide +kernel) (Nat.le_refl _) (Nat.le_refl _)
  have c0_0_8 : η 0 8 = η 0 8 := rfl
  have wb1 : wB wl_l zTr η1 := k1.1.1
  have bx1 : (0 : Int) ≤ x1 ∧ x1 ≤ 1 := k1.1.2.1
  have w0_0_43 : (0 : Int) ≤ η 0 43 ∧ η 0 43 ≤ 8 := wf_ok (a := 43) (b := 43) (z := (0, 8)) hp.1 (by decide +kernel) (Nat.le_refl _) (Nat.le_refl _)
  have v2 : zEq (η1 0 43) (η 0 43) := (k1.1.2.2.2.1 0 43 (by decide +kernel)).trans rfl
  replace e2 : x2 = η 0 43 := e2.trans v2
  replace e3 : x3 = η 0 43 := e3.trans v2
  first
  | replace e4 : x4 = x3 + 1 := zd_a2 (zEq_o e4) (by clear e4; exact ⟨by omega, by omega⟩)
  | clear e4
  have c1_0_43 : η1 0 43 = η 0 43 := v2
  have wb2 : wB wl_l zTr η2 := by rw [eη2]; exact wk_ok (a := 43) (b := 43) (z := (0, 8)) zTr_k (GR := []) wb1 (by decide +kernel) (by decide) (by decide) (show (0 : Int) ≤ x4 by omega) (show x4 ≤ (8 : Int) by omega)
  have fm1 : zFm zMl_leafRead η η1 := zFm_tr2 zFm_rf k1.1.2.2.2.1 (by decide +kernel)
  have fm2 : zFm zMl_leafRead η η2 := by rw [eη2]; exact zFm_up fm1 rfl
  have fmE : zFm zMl_leafRead η η2 := fm2
  have fr22_0 : ∀ j, η 22 j = η 22 j := fun _ => rfl
  have v3 : ∀ j, η1 22 j = η 22 j := fun j => k1.1.2.2.2.1 22 _ (zinr_not (by decide +kernel))
  have fr22_1 : ∀ j, η1 22 j = η 22 j := v3
  have v4 : ∀ j, η2 22 j = η 22 j := fun j => by rw [eη2]; exact (zup_ne (fun e _ => absurd e (by decide))).trans (v3 j)
  have fr22_2 : ∀ j, η2 22 j = η 22 j := v4
  have fr22 : ∀ j, η2 22 j = η 22 j := v4
  have v6 : zEq (η1 0 41) (η 0 41) := (k1.1.2.2.2.1 0 41 (by decide +kernel)).trans rfl
  have v7 : zEq (η2 0 41) (η 0 41) := by rw [eη2]; exact (zup_ne (fun _ e => absurd e (by decide))).trans v6
  have f0_41 : η2 0 41 = η 0 41 := v7
  have v8 : zEq (η2 0 43) (x4) := by rw [eη2]; exact zup_eq
  have f0_43 : η2 0 43 = x4 := v8
  have v10 : zEq (η1 0 42) (η 0 42) := (k1.1.2.2.2.1 0 42 (by decide +kernel)).trans rfl
  have v11 : zEq (η2 0 42) (η 0 42) := by rw [eη2]; exact (zup_ne (fun _ e => absurd e (by decide))).trans v10
  have f0_42 : η2 0 42 = η 0 42 := v11
  have v13 : zEq (η1 0 45) (η 0 45) := (k1.1.2.2.2.1 0 45 (by decide +kernel)).trans rfl
  have v14 : zEq (η2 0 45) (η 0 45) := by rw [eη2]; exact (zup_ne (fun _ e => absurd e (by decide))).trans v13
  have f0_45 : η2 0 45 = η 0 45 := v14
  have w0_0_19 : (0 : Int) ≤ η 0 19 ∧ η 0 19 ≤ 64 := wf_ok (a := 19) (b := 19) (z := (0, 64)) hp.1 (by decide +kernel) (Nat.le_refl _) (Nat.le_refl _)
  have v16 : zEq (η1 0 19) (η 0 19) := (k1.1.2.2.2.1 0 19 (by decide +kernel)).trans rfl
  have v17 : zEq (η2 0 19) (η 0 19) := by rw [eη2]; exact (zup_ne (fun _ e => absurd e (by decide))).trans v16
  have f0_19 : η2 0 19 = η 0 19 := v17
  have w0_0_44 : (0 : Int) ≤ η 0 44 ∧ η 0 44 ≤ 64 := wf_ok (a := 44) (b := 44) (z := (0, 64)) hp.1 (by decide +kernel) (Nat.le_refl _) (Nat.le_refl _)
  have v19 : zEq (η1 0 44) (η 0 44) := (k1.1.2.2.2.1 0 44 (by decide +kernel)).trans rfl
  have v20 : zEq (η2 0 44) (η 0 44) := by rw [eη2]; exact (zup_ne (fun _ e => absurd e (by decide))).trans v19
  have f0_44 : η2 0 44 = η 0 44 := v20
  have w0_0_7 : (0 : Int) ≤ η 0 7 ∧ η 0 7 ≤ 700 := wf_ok (a := 7) (b := 7) (z := (0, 700)) hp.1 (by decide +kernel) (Nat.le_refl _) (Nat.le_refl _)
  have v22 : zEq (η1 0 7) (η 0 7) := (k1.1.2.2.2.1 0 7 (by decide +kernel)).trans rfl
  have v23 : zEq (η2 0 7) (η 0 7) := by rw [eη2]; exact (zup_ne (fun _ e => absurd e (by decide))).trans v22
  have f0_7 : η2 0 7 = η 0 7 := v23
  have w0_0_6 : (0 : Int) ≤ η 0 6 ∧ η 0 6 ≤ 700 := wf_ok (a := 6) (b := 6) (z := (0, 700)) hp.1 (by decide +kernel) (Nat.le_refl _) (Nat.le_refl _)
  have v25 : zEq (η1 0 6) (η 0 6) := (k1.1.2.2.2.1 0 6 (by decide +kernel)).trans rfl
  have v26 : zEq (η2 0 6) (η 0 6) := by rw [eη2]; exact (zup_ne (fun _ e => absurd e (by decide))).trans v25
  have f0_6 : η2 0 6 = η 0 6 := v26
  have v27 : zEq (η1 0 8) (η 0 8) := (k1.1.2.2.2.1 0 8 (by decide +kernel)).trans rfl
  have v28 : zEq (η2 0 8) (η 0 8) := by rw [eη2]; exact (zup_ne (fun _ e => absurd e (by decide))).trans v27
  have f0_8 : η2 0 8 = η 0 8 := v28
  have wbE : wB wl_l zTr η2 := wb2
  
  have I0 : H_l 0 0 0 η := hpp.1
  have I1 : H_l 0 0 0 η1 := k1.2.1
  have qk1 : η 0 8 = 4 := k1.2.2 c1
  have I2 : H_l 0 1 0 η2 := by rw [eη2]; exact h_eq (br_up I1 (by apply Int.le_antisymm <;> omega)) rfl (by apply Int.le_antisymm <;> omega) rfl
  exact I2
set_option maxHeartbeats 8000000 in
theorem zl_leafRead_o38 {ro : Nat → List Int32} (η : zE) (hp : sP wl_l zTr zPl_leafRead [] η) (hpp : pPl_leafRead [] η) : ∀ (x1 : Int) (η1 : zE), ((gC2 wl_l [(nat_lit 0, zPl_isSign, zOl_isSign, zMl_isSign), (nat_lit 1, zPl_wrong, zOl_wrong, zMl_wrong), (nat_lit 2, zPl_waitsFor0, zOl_waitsFor0, zMl_waitsFor0), (nat_lit 3, zPl_token, zOl_token, zMl_token), (nat_lit 4, zPl_isKey, zOl_isKey, zMl_isKey), (nat_lit 5, zPl_isCounted, zOl_isCounted, zMl_isCounted), (nat_lit 6, zPl_waitsFor2, zOl_waitsFor2, zMl_waitsFor2), (nat_lit 7, zPl_nameMet, zOl_nameMet, zMl_nameMet), (nat_lit 8, zPl_grown, zOl_grown, zMl_grown)] pCl_leafRead qCl_leafRead) 0).2 [40] η x1 η1 → (¬ x1 = 0) → ∀ x2 : Int, x2 = η1 0 (Int.toNat 43) → zok 0 x2 → (¬ x2 = 8) → ∀ x3 : Int, x3 = η1 0 (Int.toNat 43) → zok 0 x3 → ∀ x4 : Int, x4 = zd 0 1 x3 1 → ∀ η2 : zE, η2 = zup η1 0 (Int.toNat 43) x4 → ∀ (x5 : Int) (η3 : zE), ((gC2 wl_l [(nat_lit 0, zPl_isSign, zOl_isSign, zMl_isSign), (nat_lit 1, zPl_wrong, zOl_wrong, zMl_wrong), (nat_lit 2, zPl_waitsFor0, zOl_waitsFor0, zMl_waitsFor0), (nat_lit 3, zPl_token, zOl_token, zMl_token), (nat_lit 4, zPl_isKey, zOl_isKey, zMl_isKey), (nat_lit 5, zPl_isCounted, zOl_isCounted, zMl_isCounted), (nat_lit 6, zPl_waitsFor2, zOl_waitsFor2, zMl_waitsFor2), (nat_lit 7, zPl_nameMet, zOl_nameMet, zMl_nameMet), (nat_lit 8, zPl_grown, zOl_grown, zMl_grown)] pCl_leafRead qCl_leafRead) 2).2 [] η2 x5 η3 → ∀ η4 : zE, η4 = zup η3 0 (Int.toNat 46) 1 → ((gC2 wl_l [(nat_lit 0, zPl_isSign, zOl_isSign, zMl_isSign), (nat_lit 1, zPl_wrong, zOl_wrong, zMl_wrong), (nat_lit 2, zPl_waitsFor0, zOl_waitsFor0, zMl_waitsFor0), (nat_lit 3, zPl_token, zOl_token, zMl_token), (nat_lit 4, zPl_isKey, zOl_isKey, zMl_isKey), (nat_lit 5, zPl_isCounted, zOl_isCounted, zMl_isCounted), (nat_lit 6, zPl_waitsFor2, zOl_waitsFor2, zMl_waitsFor2), (nat_lit 7, zPl_nameMet, zOl_nameMet, zMl_nameMet), (nat_lit 8, zPl_grown, zOl_grown, zMl_grown)] pCl_leafRead qCl_leafRead) 3).1 [] η4 := by
  intro x1 η1 h1 c1 x2 e2 r2 c2 x3 e3 r3 x4 e4 η2 eη2 x5 η3 h5 η4 eη4
  have k1 : sQ wl_l zTr zOl_isSign zMl_isSign [40] η x1 η1 ∧ pQl_isSign [40] η x1 η1 := h1
  have k5 : sQ wl_l zTr zOl_waitsFor0 zMl_waitsFor0 [] η2 x5 η3 ∧ pQl_waitsFor0 [] η2 x5 η3 := h5
  have g1 : G_l η4 := by rw [eη4]; exact zGk_upc gk_l k5.2 (by decide +kernel)
  exact g1
set_option maxHeartbeats 8000000 in
theorem zl_leafRead_o39 {ro : Nat → List Int32} (η : zE) (hp : sP wl_l zTr zPl_leafRead [] η) (hpp : pPl_leafRead [] η) : ∀ (x1 : Int) (η1 : zE), ((gC2 wl_l [(nat_lit 0, zPl_isSign, zOl_isSign, zMl_isSign), (nat_lit 1, zPl_wrong, zOl_wrong, zMl_wrong), (nat_lit 2, zPl_waitsFor0, zOl_waitsFor0, zMl_waitsFor0), (nat_lit 3, zPl_token, zOl_token, zMl_token), (nat_lit 4, zPl_isKey, zOl_isKey, zMl_isKey), (nat_lit 5, zPl_isCounted, zOl_isCounted, zMl_isCounted), (nat_lit 6, zPl_waitsFor2, zOl_waitsFor2, zMl_waitsFor2), (nat_lit 7, zPl_nameMet, zOl_nameMet, zMl_nameMet), (nat_lit 8, zPl_grown, zOl_grown, zMl_grown)] pCl_leafRead qCl_leafRead) 0).2 [40] η x1 η1 → (¬ x1 = 0) → ∀ x2 : Int, x2 = η1 0 (Int.toNat 43) → zok 0 x2 → (¬ x2 = 8) → ∀ x3 : Int, x3 = η1 0 (Int.toNat 43) → zok 0 x3 → ∀ x4 : Int, x4 = zd 0 1 x3 1 → ∀ η2 : zE, η2 = zup η1 0 (Int.toNat 43) x4 → ∀ (x5 : Int) (η3 : zE), ((gC2 wl_l [(nat_lit 0, zPl_isSign, zOl_isSign, zMl_isSign), (nat_lit 1, zPl_wrong, zOl_wrong, zMl_wrong), (nat_lit 2, zPl_waitsFor0, zOl_waitsFor0, zMl_waitsFor0), (nat_lit 3, zPl_token, zOl_token, zMl_token), (nat_lit 4, zPl_isKey, zOl_isKey, zMl_isKey), (nat_lit 5, zPl_isCounted, zOl_isCounted, zMl_isCounted), (nat_lit 6, zPl_waitsFor2, zOl_waitsFor2, zMl_waitsFor2), (nat_lit 7, zPl_nameMet, zOl_nameMet, zMl_nameMet), (nat_lit 8, zPl_grown, zOl_grown, zMl_grown)] pCl_leafRead qCl_leafRead) 2).2 [] η2 x5 η3 → ∀ η4 : zE, η4 = zup η3 0 (Int.toNat 46) 1 → ∀ (x6 : Int) (η5 : zE), ((gC2 wl_l [(nat_lit 0, zPl_isSign, zOl_isSign, zMl_isSign), (nat_lit 1, zPl_wrong, zOl_wrong, zMl_wrong), (nat_lit 2, zPl_waitsFor0, zOl_waitsFor0, zMl_waitsFor0), (nat_lit 3, zPl_token, zOl_token, zMl_token), (nat_lit 4, zPl_isKey, zOl_isKey, zMl_isKey), (nat_lit 5, zPl_isCounted, zOl_isCounted, zMl_isCounted), (nat_lit 6, zPl_waitsFor2, zOl_waitsFor2, zMl_waitsFor2), (nat_lit 7, zPl_nameMet, zOl_nameMet, zMl_nameMet), (nat_lit 8, zPl_grown, zOl_grown, zMl_grown)] pCl_leafRead qCl_leafRead) 3).2 [] η4 x6 η5 → (fun (_ : Nat) (y : Int) (η' : zE) => pQl_leafRead [] η y η') 0 1 η5 := by
  have hw : η 0 45 = 1 := hpp.2
  have hs : η 0 7 ≤ η 0 6 := hpp.1.1.1.1
  have bd43 : (0 : Int) ≤ η 0 43 ∧ η 0 43 ≤ 8 := wf_ok (a := 43) (b := 43) (z := (0, 8)) hp.1 (by decide +kernel) (Nat.le_refl _) (Nat.le_refl _)
  have bd44 : (0 : Int) ≤ η 0 44 ∧ η 0 44 ≤ 64 := wf_ok (a := 44) (b := 44) (z := (0, 64)) hp.1 (by decide +kernel) (Nat.le_refl _) (Nat.le_refl _)
  have bd19 : (0 : Int) ≤ η 0 19 ∧ η 0 19 ≤ 64 := wf_ok (a := 19) (b := 19) (z := (0, 64)) hp.1 (by decide +kernel) (Nat.le_refl _) (Nat.le_refl _)
  intro x1 η1 h1 c1 x2 e2 r2 c2 x3 e3 r3 x4 e4 η2 eη2 x5 η3 h5 η4 eη4 x6 η5 h6
  replace e4 := zEq_i e4
  have k1 : sQ wl_l zTr zOl_isSign zMl_isSign [40] η x1 η1 ∧ pQl_isSign [40] η x1 η1 := h1
  have k5 : sQ wl_l zTr zOl_waitsFor0 zMl_waitsFor0 [] η2 x5 η3 ∧ pQl_waitsFor0 [] η2 x5 η3 := h5
  have k6 : sQ wl_l zTr zOl_token zMl_token [] η4 x6 η5 ∧ pQl_token [] η4 x6 η5 := h6
  have w0_0_8 : (0 : Int) ≤ η 0 8 ∧ η 0 8 ≤ 6 := wf_ok (a := 8) (b := 8) (z := (0, 6)) hp.1 (by decide +kernel) (Nat.le_refl _) (Nat.le_refl _)
  have c0_0_8 : η 0 8 = η 0 8 := rfl
  have wb1 : wB wl_l zTr η1 := k1.1.1
  have bx1 : (0 : Int) ≤ x1 ∧ x1 ≤ 1 := k1.1.2.1
  have w0_0_43 : (0 : Int) ≤ η 0 43 ∧ η 0 43 ≤ 8 := wf_ok (a := 43) (b := 43) (z := (0, 8)) hp.1 (by decide +kernel) (Nat.le_refl _) (Nat.le_refl _)
  have v2 : zEq (η1 0 43) (η 0 43) := (k1.1.2.2.2.1 0 43 (by decide +kernel)).trans rfl
  replace e2 : x2 = η 0 43 := e2.trans v2
  replace e3 : x3 = η 0 43 := e3.trans v2
  first
  | replace e4 : x4 = x3 + 1 := zd_a2 (zEq_o e4) (by clear e4; exact ⟨by omega, by omega⟩)
  | clear e4
  have c1_0_43 : η1 0 43 = η 0 43 := v2
  have wb2 : wB wl_l zTr η2 := by rw [eη2]; exact wk_ok (a := 43) (b := 43) (z := (0, 8)) zTr_k (GR := []) wb1 (by decide +kernel) (by decide) (by decide) (show (0 : Int) ≤ x4 by omega) (show x4 ≤ (8 : Int) by omega)
  have v3 : zEq (η1 0 8) (η 0 8) := (k1.1.2.2.2.1 0 8 (by decide +kernel)).trans rfl
  have v4 : zEq (η2 0 8) (η 0 8) := by rw [eη2]; exact (zup_ne (fun _ e => absurd e (by decide))).trans v3
  have c2_0_8 : η2 0 8 = η 0 8 := v4
  have wb3 : wB wl_l zTr η3 := k5.1.1
  have bx5 : (0 : Int) ≤ x5 ∧ x5 ≤ 0 := k5.1.2.1
  have wb4 : wB wl_l zTr η4 := by rw [eη4]; exact wk_ok (a := 46) (b := 46) (z := ((-2147483648), 2147483647)) zTr_k (GR := []) wb3 (by decide +kernel) (by decide) (by decide) (show ((-2147483648) : Int) ≤ 1 by omega) (show 1 ≤ (2147483647 : Int) by omega)
  have w0_0_7 : (0 : Int) ≤ η 0 7 ∧ η 0 7 ≤ 700 := wf_ok (a := 7) (b := 7) (z := (0, 700)) hp.1 (by decide +kernel) (Nat.le_refl _) (Nat.le_refl _)
  have v6 : zEq (η1 0 7) (η 0 7) := (k1.1.2.2.2.1 0 7 (by decide +kernel)).trans rfl
  have v7 : zEq (η2 0 7) (η 0 7) := by rw [eη2]; exact (zup_ne (fun _ e => absurd e (by decide))).trans v6
  have v8 : zEq (η3 0 7) (η 0 7) := (k5.1.2.2.2.1 0 7 (by decide +kernel)).trans v7
  have v9 : zEq (η4 0 7) (η 0 7) := by rw [eη4]; exact (zup_ne (fun _ e => absurd e (by decide))).trans v8
  have c4_0_7 : η4 0 7 = η 0 7 := v9
  have w0_0_6 : (0 : Int) ≤ η 0 6 ∧ η 0 6 ≤ 700 := wf_ok (a := 6) (b := 6) (z := (0, 700)) hp.1 (by decide +kernel) (Nat.le_refl _) (Nat.le_refl _)
  have v11 : zEq (η1 0 6) (η 0 6) := (k1.1.2.2.2.1 0 6 (by decide +kernel)).trans rfl
  have v12 : zEq (η2 0 6) (η 0 6) := by rw [eη2]; exact (zup_ne (fun _ e => absurd e (by decide))).trans v11
  have v13 : zEq (η3 0 6) (η 0 6) := (k5.1.2.2.2.1 0 6 (by decide +kernel)).trans v12
  have v14 : zEq (η4 0 6) (η 0 6) := by rw [eη4]; exact (zup_ne (fun _ e => absurd e (by decide))).trans v13
  have c4_0_6 : η4 0 6 = η 0 6 := v14
  have v15 : zEq (η3 0 8) (η 0 8) := (k5.1.2.2.2.1 0 8 (by decide +kernel)).trans v4
  have v16 : zEq (η4 0 8) (η 0 8) := by rw [eη4]; exact (zup_ne (fun _ e => absurd e (by decide))).trans v15
  have c4_0_8 : η4 0 8 = η 0 8 := v16
  have wb5 : wB wl_l zTr η5 := k6.1.1
  have bx6 : (0 : Int) ≤ x6 ∧ x6 ≤ 0 := k6.1.2.1
  have fm1 : zFm zMl_leafRead η η1 := zFm_tr2 zFm_rf k1.1.2.2.2.1 (by decide +kernel)
  have fm2 : zFm zMl_leafRead η η2 := by rw [eη2]; exact zFm_up fm1 rfl
  have fm3 : zFm zMl_leafRead η η3 := zFm_tr2 fm2 k5.1.2.2.2.1 (by decide +kernel)
  have fm4 : zFm zMl_leafRead η η4 := by rw [eη4]; exact zFm_up fm3 rfl
  have fm5 : zFm zMl_leafRead η η5 := zFm_tr2 fm4 k6.1.2.2.2.1 (by decide +kernel)
  have fmE : zFm zMl_leafRead η η5 := fm5
  have fr22_0 : ∀ j, η 22 j = η 22 j := fun _ => rfl
  have v17 : ∀ j, η1 22 j = η 22 j := fun j => k1.1.2.2.2.1 22 _ (zinr_not (by decide +kernel))
  have fr22_1 : ∀ j, η1 22 j = η 22 j := v17
  have v18 : ∀ j, η2 22 j = η 22 j := fun j => by rw [eη2]; exact (zup_ne (fun e _ => absurd e (by decide))).trans (v17 j)
  have fr22_2 : ∀ j, η2 22 j = η 22 j := v18
  have fr22_3 : ∀ j, η3 22 j = η3 22 j := fun _ => rfl
  have v20 : ∀ j, η4 22 j = η3 22 j := fun j => by rw [eη4]; exact zup_ne (fun e _ => absurd e (by decide))
  have fr22_4 : ∀ j, η4 22 j = η3 22 j := v20
  have v21 : ∀ j, η5 22 j = η3 22 j := fun j => (k6.1.2.2.2.1 22 _ (zinr_not (by decide +kernel))).trans (v20 j)
  have fr22_5 : ∀ j, η5 22 j = η3 22 j := v21
  have fr22 : ∀ j, η5 22 j = η3 22 j := v21
  have v23 : zEq (η4 0 41) (η3 0 41) := by rw [eη4]; exact (zup_ne (fun _ e => absurd e (by decide))).trans rfl
  have v24 : zEq (η5 0 41) (η3 0 41) := (k6.1.2.2.2.1 0 41 (by decide +kernel)).trans v23
  have f0_41 : η5 0 41 = η3 0 41 := v24
  have v25 : zEq (η2 0 43) (x4) := by rw [eη2]; exact zup_eq
  have v26 : zEq (η3 0 43) (x4) := (k5.1.2.2.2.1 0 43 (by decide +kernel)).trans v25
  have v27 : zEq (η4 0 43) (x4) := by rw [eη4]; exact (zup_ne (fun _ e => absurd e (by decide))).trans v26
  have v28 : zEq (η5 0 43) (x4) := (k6.1.2.2.2.1 0 43 (by decide +kernel)).trans v27
  have f0_43 : η5 0 43 = x4 := v28
  have v30 : zEq (η1 0 42) (η 0 42) := (k1.1.2.2.2.1 0 42 (by decide +kernel)).trans rfl
  have v31 : zEq (η2 0 42) (η 0 42) := by rw [eη2]; exact (zup_ne (fun _ e => absurd e (by decide))).trans v30
  have v32 : zEq (η3 0 42) (η 0 42) := (k5.1.2.2.2.1 0 42 (by decide +kernel)).trans v31
  have v33 : zEq (η4 0 42) (η 0 42) := by rw [eη4]; exact (zup_ne (fun _ e => absurd e (by decide))).trans v32
  have v34 : zEq (η5 0 42) (η 0 42) := (k6.1.2.2.2.1 0 42 (by decide +kernel)).trans v33
  have f0_42 : η5 0 42 = η 0 42 := v34
  have v36 : zEq (η1 0 45) (η 0 45) := (k1.1.2.2.2.1 0 45 (by decide +kernel)).trans rfl
  have v37 : zEq (η2 0 45) (η 0 45) := by rw [eη2]; exact (zup_ne (fun _ e => absurd e (by decide))).trans v36
  have v38 : zEq (η3 0 45) (η 0 45) := (k5.1.2.2.2.1 0 45 (by decide +kernel)).trans v37
  have v39 : zEq (η4 0 45) (η 0 45) := by rw [eη4]; exact (zup_ne (fun _ e => absurd e (by decide))).trans v38
  have v40 : zEq (η5 0 45) (η 0 45) := (k6.1.2.2.2.1 0 45 (by decide +kernel)).trans v39
  have f0_45 : η5 0 45 = η 0 45 := v40
  have w0_0_19 : (0 : Int) ≤ η 0 19 ∧ η 0 19 ≤ 64 := wf_ok (a := 19) (b := 19) (z := (0, 64)) hp.1 (by decide +kernel) (Nat.le_refl _) (Nat.le_refl _)
  have v42 : zEq (η1 0 19) (η 0 19) := (k1.1.2.2.2.1 0 19 (by decide +kernel)).trans rfl
  have v43 : zEq (η2 0 19) (η 0 19) := by rw [eη2]; exact (zup_ne (fun _ e => absurd e (by decide))).trans v42
  have v44 : zEq (η3 0 19) (η 0 19) := (k5.1.2.2.2.1 0 19 (by decide +kernel)).trans v43
  have v45 : zEq (η4 0 19) (η 0 19) := by rw [eη4]; exact (zup_ne (fun _ e => absurd e (by decide))).trans v44
  have v46 : zEq (η5 0 19) (η 0 19) := (k6.1.2.2.2.1 0 19 (by decide +kernel)).trans v45
  have f0_19 : η5 0 19 = η 0 19 := v46
  have w0_0_44 : (0 : Int) ≤ η 0 44 ∧ η 0 44 ≤ 64 := wf_ok (a := 44) (b := 44) (z := (0, 64)) hp.1 (by decide +kernel) (Nat.le_refl _) (Nat.le_refl _)
  have v48 : zEq (η1 0 44) (η 0 44) := (k1.1.2.2.2.1 0 44 (by decide +kernel)).trans rfl
  have v49 : zEq (η2 0 44) (η 0 44) := by rw [eη2]; exact (zup_ne (fun _ e => absurd e (by decide))).trans v48
  have v50 : zEq (η3 0 44) (η 0 44) := (k5.1.2.2.2.1 0 44 (by decide +kernel)).trans v49
  have v51 : zEq (η4 0 44) (η 0 44) := by rw [eη4]; exact (zup_ne (fun _ e => absurd e (by decide))).trans v50
  have v52 : zEq (η5 0 44) (η 0 44) := (k6.1.2.2.2.1 0 44 (by decide +kernel)).trans v51
  have f0_44 : η5 0 44 = η 0 44 := v52
  have w5_0_7 : (0 : Int) ≤ η5 0 7 ∧ η5 0 7 ≤ 700 := wf_ok (a := 7) (b := 7) (z := (0, 700)) k6.1.1 (by decide +kernel) (Nat.le_refl _) (Nat.le_refl _)
  have f0_7 : η5 0 7 = η5 0 7 := rfl
  have v54 : zEq (η5 0 6) (η 0 6) := (k6.1.2.2.2.1 0 6 (by decide +kernel)).trans v14
  have f0_6 : η5 0 6 = η 0 6 := v54
  have w5_0_8 : (0 : Int) ≤ η5 0 8 ∧ η5 0 8 ≤ 6 := wf_ok (a := 8) (b := 8) (z := (0, 6)) k6.1.1 (by decide +kernel) (Nat.le_refl _) (Nat.le_refl _)
  have f0_8 : η5 0 8 = η5 0 8 := rfl
  have wbE : wB wl_l zTr η5 := wb5
  
  have I0 : H_l 0 0 0 η := hpp.1
  have I1 : H_l 0 0 0 η1 := k1.2.1
  have qk1 : η 0 8 = 4 := k1.2.2 c1
  have I2 : H_l 0 1 0 η2 := by rw [eη2]; exact h_eq (br_up I1 (by apply Int.le_antisymm <;> omega)) rfl (by apply Int.le_antisymm <;> omega) rfl
  have I3 : H_l 0 0 0 η3 := k5.2
  have I4 : H_l 0 0 0 η4 := by rw [eη4]; exact zGk_upc hk_l I3 (by decide +kernel)
  have I5 : H_l 0 0 0 η5 := k6.2.1
  have qt6 : ¬ η4 0 8 = 0 → 10 * (η5 0 6 - η5 0 7) + η5 0 8 < 10 * (η4 0 6 - η4 0 7) + η4 0 8 := k6.2.2
  refine ⟨I5.1, fun _ => ⟨I5, show 10 * (η5 0 6 - η5 0 7) + η5 0 8 < 10 * (η 0 6 - η 0 7) + η 0 8 by omega, fun w => ?_⟩⟩
  have w : η5 0 45 = 0 := w
  omega
set_option maxHeartbeats 8000000 in
theorem zl_leafRead_o40 {ro : Nat → List Int32} (η : zE) (hp : sP wl_l zTr zPl_leafRead [] η) (hpp : pPl_leafRead [] η) : ∀ (x1 : Int) (η1 : zE), ((gC2 wl_l [(nat_lit 0, zPl_isSign, zOl_isSign, zMl_isSign), (nat_lit 1, zPl_wrong, zOl_wrong, zMl_wrong), (nat_lit 2, zPl_waitsFor0, zOl_waitsFor0, zMl_waitsFor0), (nat_lit 3, zPl_token, zOl_token, zMl_token), (nat_lit 4, zPl_isKey, zOl_isKey, zMl_isKey), (nat_lit 5, zPl_isCounted, zOl_isCounted, zMl_isCounted), (nat_lit 6, zPl_waitsFor2, zOl_waitsFor2, zMl_waitsFor2), (nat_lit 7, zPl_nameMet, zOl_nameMet, zMl_nameMet), (nat_lit 8, zPl_grown, zOl_grown, zMl_grown)] pCl_leafRead qCl_leafRead) 0).2 [40] η x1 η1 → (¬ x1 = 0) → ∀ x2 : Int, x2 = η1 0 (Int.toNat 43) → zok 0 x2 → (x2 = 8) → ((gC2 wl_l [(nat_lit 0, zPl_isSign, zOl_isSign, zMl_isSign), (nat_lit 1, zPl_wrong, zOl_wrong, zMl_wrong), (nat_lit 2, zPl_waitsFor0, zOl_waitsFor0, zMl_waitsFor0), (nat_lit 3, zPl_token, zOl_token, zMl_token), (nat_lit 4, zPl_isKey, zOl_isKey, zMl_isKey), (nat_lit 5, zPl_isCounted, zOl_isCounted, zMl_isCounted), (nat_lit 6, zPl_waitsFor2, zOl_waitsFor2, zMl_waitsFor2), (nat_lit 7, zPl_nameMet, zOl_nameMet, zMl_nameMet), (nat_lit 8, zPl_grown, zOl_grown, zMl_grown)] pCl_leafRead qCl_leafRead) 1).1 [2] η1 := by
  have hw : η 0 45 = 1 := hpp.2
  have hs : η 0 7 ≤ η 0 6 := hpp.1.1.1.1
  have bd43 : (0 : Int) ≤ η 0 43 ∧ η 0 43 ≤ 8 := wf_ok (a := 43) (b := 43) (z := (0, 8)) hp.1 (by decide +kernel) (Nat.le_refl _) (Nat.le_refl _)
  have bd44 : (0 : Int) ≤ η 0 44 ∧ η 0 44 ≤ 64 := wf_ok (a := 44) (b := 44) (z := (0, 64)) hp.1 (by decide +kernel) (Nat.le_refl _) (Nat.le_refl _)
  have bd19 : (0 : Int) ≤ η 0 19 ∧ η 0 19 ≤ 64 := wf_ok (a := 19) (b := 19) (z := (0, 64)) hp.1 (by decide +kernel) (Nat.le_refl _) (Nat.le_refl _)
  intro x1 η1 h1 c1 x2 e2 r2 c2
  have k1 : sQ wl_l zTr zOl_isSign zMl_isSign [40] η x1 η1 ∧ pQl_isSign [40] η x1 η1 := h1
  have w0_0_8 : (0 : Int) ≤ η 0 8 ∧ η 0 8 ≤ 6 := wf_ok (a := 8) (b := 8) (z := (0, 6)) hp.1 (by decide +kernel) (Nat.le_refl _) (Nat.le_refl _)
  have c0_0_8 : η 0 8 = η 0 8 := rfl
  have wb1 : wB wl_l zTr η1 := k1.1.1
  have bx1 : (0 : Int) ≤ x1 ∧ x1 ≤ 1 := k1.1.2.1
  have w0_0_43 : (0 : Int) ≤ η 0 43 ∧ η 0 43 ≤ 8 := wf_ok (a := 43) (b := 43) (z := (0, 8)) hp.1 (by decide +kernel) (Nat.le_refl _) (Nat.le_refl _)
  have v2 : zEq (η1 0 43) (η 0 43) := (k1.1.2.2.2.1 0 43 (by decide +kernel)).trans rfl
  replace e2 : x2 = η 0 43 := e2.trans v2
  have fm1 : zFm zMl_leafRead η η1 := zFm_tr2 zFm_rf k1.1.2.2.2.1 (by decide +kernel)
  have fmE : zFm zMl_leafRead η η1 := fm1
  have fr22_0 : ∀ j, η 22 j = η 22 j := fun _ => rfl
  have v3 : ∀ j, η1 22 j = η 22 j := fun j => k1.1.2.2.2.1 22 _ (zinr_not (by decide +kernel))
  have fr22_1 : ∀ j, η1 22 j = η 22 j := v3
  have fr22 : ∀ j, η1 22 j = η 22 j := v3
  have v5 : zEq (η1 0 41) (η 0 41) := (k1.1.2.2.2.1 0 41 (by decide +kernel)).trans rfl
  have f0_41 : η1 0 41 = η 0 41 := v5
  have f0_43 : η1 0 43 = η 0 43 := v2
  have v7 : zEq (η1 0 42) (η 0 42) := (k1.1.2.2.2.1 0 42 (by decide +kernel)).trans rfl
  have f0_42 : η1 0 42 = η 0 42 := v7
  have v9 : zEq (η1 0 45) (η 0 45) := (k1.1.2.2.2.1 0 45 (by decide +kernel)).trans rfl
  have f0_45 : η1 0 45 = η 0 45 := v9
  have w0_0_19 : (0 : Int) ≤ η 0 19 ∧ η 0 19 ≤ 64 := wf_ok (a := 19) (b := 19) (z := (0, 64)) hp.1 (by decide +kernel) (Nat.le_refl _) (Nat.le_refl _)
  have v11 : zEq (η1 0 19) (η 0 19) := (k1.1.2.2.2.1 0 19 (by decide +kernel)).trans rfl
  have f0_19 : η1 0 19 = η 0 19 := v11
  have w0_0_44 : (0 : Int) ≤ η 0 44 ∧ η 0 44 ≤ 64 := wf_ok (a := 44) (b := 44) (z := (0, 64)) hp.1 (by decide +kernel) (Nat.le_refl _) (Nat.le_refl _)
  have v13 : zEq (η1 0 44) (η 0 44) := (k1.1.2.2.2.1 0 44 (by decide +kernel)).trans rfl
  have f0_44 : η1 0 44 = η 0 44 := v13
  have w0_0_7 : (0 : Int) ≤ η 0 7 ∧ η 0 7 ≤ 700 := wf_ok (a := 7) (b := 7) (z := (0, 700)) hp.1 (by decide +kernel) (Nat.le_refl _) (Nat.le_refl _)
  have v15 : zEq (η1 0 7) (η 0 7) := (k1.1.2.2.2.1 0 7 (by decide +kernel)).trans rfl
  have f0_7 : η1 0 7 = η 0 7 := v15
  have w0_0_6 : (0 : Int) ≤ η 0 6 ∧ η 0 6 ≤ 700 := wf_ok (a := 6) (b := 6) (z := (0, 700)) hp.1 (by decide +kernel) (Nat.le_refl _) (Nat.le_refl _)
  have v17 : zEq (η1 0 6) (η 0 6) := (k1.1.2.2.2.1 0 6 (by decide +kernel)).trans rfl
  have f0_6 : η1 0 6 = η 0 6 := v17
  have v18 : zEq (η1 0 8) (η 0 8) := (k1.1.2.2.2.1 0 8 (by decide +kernel)).trans rfl
  have f0_8 : η1 0 8 = η 0 8 := v18
  have wbE : wB wl_l zTr η1 := wb1
  
  have I0 : H_l 0 0 0 η := hpp.1
  have I1 : H_l 0 0 0 η1 := k1.2.1
  have qk1 : η 0 8 = 4 := k1.2.2 c1
  exact I1
set_option maxHeartbeats 8000000 in
theorem zl_leafRead_o41 {ro : Nat → List Int32} (η : zE) (hp : sP wl_l zTr zPl_leafRead [] η) (hpp : pPl_leafRead [] η) : ∀ (x1 : Int) (η1 : zE), ((gC2 wl_l [(nat_lit 0, zPl_isSign, zOl_isSign, zMl_isSign), (nat_lit 1, zPl_wrong, zOl_wrong, zMl_wrong), (nat_lit 2, zPl_waitsFor0, zOl_waitsFor0, zMl_waitsFor0), (nat_lit 3, zPl_token, zOl_token, zMl_token), (nat_lit 4, zPl_isKey, zOl_isKey, zMl_isKey), (nat_lit 5, zPl_isCounted, zOl_isCounted, zMl_isCounted), (nat_lit 6, zPl_waitsFor2, zOl_waitsFor2, zMl_waitsFor2), (nat_lit 7, zPl_nameMet, zOl_nameMet, zMl_nameMet), (nat_lit 8, zPl_grown, zOl_grown, zMl_grown)] pCl_leafRead qCl_leafRead) 0).2 [40] η x1 η1 → (¬ x1 = 0) → ∀ x2 : Int, x2 = η1 0 (Int.toNat 43) → zok 0 x2 → (x2 = 8) → ∀ (x3 : Int) (η2 : zE), ((gC2 wl_l [(nat_lit 0, zPl_isSign, zOl_isSign, zMl_isSign), (nat_lit 1, zPl_wrong, zOl_wrong, zMl_wrong), (nat_lit 2, zPl_waitsFor0, zOl_waitsFor0, zMl_waitsFor0), (nat_lit 3, zPl_token, zOl_token, zMl_token), (nat_lit 4, zPl_isKey, zOl_isKey, zMl_isKey), (nat_lit 5, zPl_isCounted, zOl_isCounted, zMl_isCounted), (nat_lit 6, zPl_waitsFor2, zOl_waitsFor2, zMl_waitsFor2), (nat_lit 7, zPl_nameMet, zOl_nameMet, zMl_nameMet), (nat_lit 8, zPl_grown, zOl_grown, zMl_grown)] pCl_leafRead qCl_leafRead) 1).2 [2] η1 x3 η2 → (fun (_ : Nat) (y : Int) (η' : zE) => pQl_leafRead [] η y η') 0 x3 η2 := by
  have hw : η 0 45 = 1 := hpp.2
  have hs : η 0 7 ≤ η 0 6 := hpp.1.1.1.1
  have bd43 : (0 : Int) ≤ η 0 43 ∧ η 0 43 ≤ 8 := wf_ok (a := 43) (b := 43) (z := (0, 8)) hp.1 (by decide +kernel) (Nat.le_refl _) (Nat.le_refl _)
  have bd44 : (0 : Int) ≤ η 0 44 ∧ η 0 44 ≤ 64 := wf_ok (a := 44) (b := 44) (z := (0, 64)) hp.1 (by decide +kernel) (Nat.le_refl _) (Nat.le_refl _)
  have bd19 : (0 : Int) ≤ η 0 19 ∧ η 0 19 ≤ 64 := wf_ok (a := 19) (b := 19) (z := (0, 64)) hp.1 (by decide +kernel) (Nat.le_refl _) (Nat.le_refl _)
  intro x1 η1 h1 c1 x2 e2 r2 c2 x3 η2 h3
  have k1 : sQ wl_l zTr zOl_isSign zMl_isSign [40] η x1 η1 ∧ pQl_isSign [40] η x1 η1 := h1
  have k3 : sQ wl_l zTr zOl_wrong zMl_wrong [2] η1 x3 η2 ∧ pQl_wrong [2] η1 x3 η2 := h3
  have w0_0_8 : (0 : Int) ≤ η 0 8 ∧ η 0 8 ≤ 6 := wf_ok (a := 8) (b := 8) (z := (0, 6)) hp.1 (by decide +kernel) (Nat.le_refl _) (Nat.le_refl _)
  have c0_0_8 : η 0 8 = η 0 8 := rfl
  have wb1 : wB wl_l zTr η1 := k1.1.1
  have bx1 : (0 : Int) ≤ x1 ∧ x1 ≤ 1 := k1.1.2.1
  have w0_0_43 : (0 : Int) ≤ η 0 43 ∧ η 0 43 ≤ 8 := wf_ok (a := 43) (b := 43) (z := (0, 8)) hp.1 (by decide +kernel) (Nat.le_refl _) (Nat.le_refl _)
  have v2 : zEq (η1 0 43) (η 0 43) := (k1.1.2.2.2.1 0 43 (by decide +kernel)).trans rfl
  replace e2 : x2 = η 0 43 := e2.trans v2
  have v3 : zEq (η1 0 8) (η 0 8) := (k1.1.2.2.2.1 0 8 (by decide +kernel)).trans rfl
  have c1_0_8 : η1 0 8 = η 0 8 := v3
  have wb2 : wB wl_l zTr η2 := k3.1.1
  have bx3 : (0 : Int) ≤ x3 ∧ x3 ≤ 0 := k3.1.2.1
  have fm1 : zFm zMl_leafRead η η1 := zFm_tr2 zFm_rf k1.1.2.2.2.1 (by decide +kernel)
  have fm2 : zFm zMl_leafRead η η2 := zFm_tr2 fm1 k3.1.2.2.2.1 (by decide +kernel)
  have fmE : zFm zMl_leafRead η η2 := fm2
  have fr22_0 : ∀ j, η 22 j = η 22 j := fun _ => rfl
  have v4 : ∀ j, η1 22 j = η 22 j := fun j => k1.1.2.2.2.1 22 _ (zinr_not (by decide +kernel))
  have fr22_1 : ∀ j, η1 22 j = η 22 j := v4
  have v5 : ∀ j, η2 22 j = η 22 j := fun j => (k3.1.2.2.2.1 22 _ (zinr_not (by decide +kernel))).trans (v4 j)
  have fr22_2 : ∀ j, η2 22 j = η 22 j := v5
  have fr22 : ∀ j, η2 22 j = η 22 j := v5
  have v7 : zEq (η1 0 41) (η 0 41) := (k1.1.2.2.2.1 0 41 (by decide +kernel)).trans rfl
  have v8 : zEq (η2 0 41) (η 0 41) := (k3.1.2.2.2.1 0 41 (by decide +kernel)).trans v7
  have f0_41 : η2 0 41 = η 0 41 := v8
  have v9 : zEq (η2 0 43) (η 0 43) := (k3.1.2.2.2.1 0 43 (by decide +kernel)).trans v2
  have f0_43 : η2 0 43 = η 0 43 := v9
  have v11 : zEq (η1 0 42) (η 0 42) := (k1.1.2.2.2.1 0 42 (by decide +kernel)).trans rfl
  have v12 : zEq (η2 0 42) (η 0 42) := (k3.1.2.2.2.1 0 42 (by decide +kernel)).trans v11
  have f0_42 : η2 0 42 = η 0 42 := v12
  have v14 : zEq (η1 0 45) (η 0 45) := (k1.1.2.2.2.1 0 45 (by decide +kernel)).trans rfl
  have v15 : zEq (η2 0 45) (η 0 45) := (k3.1.2.2.2.1 0 45 (by decide +kernel)).trans v14
  have f0_45 : η2 0 45 = η 0 45 := v15
  have w0_0_19 : (0 : Int) ≤ η 0 19 ∧ η 0 19 ≤ 64 := wf_ok (a := 19) (b := 19) (z := (0, 64)) hp.1 (by decide +kernel) (Nat.le_refl _) (Nat.le_refl _)
  have v17 : zEq (η1 0 19) (η 0 19) := (k1.1.2.2.2.1 0 19 (by decide +kernel)).trans rfl
  have v18 : zEq (η2 0 19) (η 0 19) := (k3.1.2.2.2.1 0 19 (by decide +kernel)).trans v17
  have f0_19 : η2 0 19 = η 0 19 := v18
  have w0_0_44 : (0 : Int) ≤ η 0 44 ∧ η 0 44 ≤ 64 := wf_ok (a := 44) (b := 44) (z := (0, 64)) hp.1 (by decide +kernel) (Nat.le_refl _) (Nat.le_refl _)
  have v20 : zEq (η1 0 44) (η 0 44) := (k1.1.2.2.2.1 0 44 (by decide +kernel)).trans rfl
  have v21 : zEq (η2 0 44) (η 0 44) := (k3.1.2.2.2.1 0 44 (by decide +kernel)).trans v20
  have f0_44 : η2 0 44 = η 0 44 := v21
  have w0_0_7 : (0 : Int) ≤ η 0 7 ∧ η 0 7 ≤ 700 := wf_ok (a := 7) (b := 7) (z := (0, 700)) hp.1 (by decide +kernel) (Nat.le_refl _) (Nat.le_refl _)
  have v23 : zEq (η1 0 7) (η 0 7) := (k1.1.2.2.2.1 0 7 (by decide +kernel)).trans rfl
  have v24 : zEq (η2 0 7) (η 0 7) := (k3.1.2.2.2.1 0 7 (by decide +kernel)).trans v23
  have f0_7 : η2 0 7 = η 0 7 := v24
  have w0_0_6 : (0 : Int) ≤ η 0 6 ∧ η 0 6 ≤ 700 := wf_ok (a := 6) (b := 6) (z := (0, 700)) hp.1 (by decide +kernel) (Nat.le_refl _) (Nat.le_refl _)
  have v26 : zEq (η1 0 6) (η 0 6) := (k1.1.2.2.2.1 0 6 (by decide +kernel)).trans rfl
  have v27 : zEq (η2 0 6) (η 0 6) := (k3.1.2.2.2.1 0 6 (by decide +kernel)).trans v26
  have f0_6 : η2 0 6 = η 0 6 := v27
  have v28 : zEq (η2 0 8) (η 0 8) := (k3.1.2.2.2.1 0 8 (by decide +kernel)).trans v3
  have f0_8 : η2 0 8 = η 0 8 := v28
  have wbE : wB wl_l zTr η2 := wb2
  
  have I0 : H_l 0 0 0 η := hpp.1
  have I1 : H_l 0 0 0 η1 := k1.2.1
  have qk1 : η 0 8 = 4 := k1.2.2 c1
  have I2 : H_l 0 0 0 η2 := k3.2
  exact ⟨I2.1, fun w => absurd (show (x3 : Int) = 0 by apply Int.le_antisymm <;> omega) w⟩
set_option maxHeartbeats 8000000 in
theorem zl_leafRead {ro : Nat → List Int32} : zMet pr_P pr_K pr_df ro (sm_X0 1 6) 2 147 tm_l [(.inr (.inr (.inl (nat_lit 0))))] 2 [(nat_lit 0, nat_lit 0, nat_lit 1), (nat_lit 0, nat_lit 3, nat_lit 2), (nat_lit 0, nat_lit 20, nat_lit 3), (nat_lit 0, nat_lit 21, nat_lit 4), (nat_lit 0, nat_lit 22, nat_lit 5), (nat_lit 0, nat_lit 23, nat_lit 6), (nat_lit 0, nat_lit 24, nat_lit 7), (nat_lit 0, nat_lit 25, nat_lit 8), (nat_lit 0, nat_lit 26, nat_lit 9), (nat_lit 0, nat_lit 27, nat_lit 10), (nat_lit 0, nat_lit 28, nat_lit 11), (nat_lit 0, nat_lit 29, nat_lit 12), (nat_lit 0, nat_lit 30, nat_lit 13), (nat_lit 0, nat_lit 31, nat_lit 14), (nat_lit 0, nat_lit 32, nat_lit 15), (nat_lit 0, nat_lit 33, nat_lit 16), (nat_lit 0, nat_lit 34, nat_lit 17), (nat_lit 0, nat_lit 35, nat_lit 18), (nat_lit 0, nat_lit 36, nat_lit 19), (nat_lit 0, nat_lit 37, nat_lit 20), (nat_lit 0, nat_lit 38, nat_lit 21), (nat_lit 0, nat_lit 39, nat_lit 22), (nat_lit 0, nat_lit 40, nat_lit 23), (nat_lit 0, nat_lit 47, nat_lit 24), (nat_lit 0, nat_lit 48, nat_lit 25), (nat_lit 0, nat_lit 50, nat_lit 26), (nat_lit 0, nat_lit 51, nat_lit 27), (nat_lit 0, nat_lit 52, nat_lit 28), (nat_lit 0, nat_lit 53, nat_lit 29), (nat_lit 0, nat_lit 54, nat_lit 30), (nat_lit 0, nat_lit 55, nat_lit 31), (nat_lit 0, nat_lit 56, nat_lit 32), (nat_lit 0, nat_lit 57, nat_lit 33), (nat_lit 0, nat_lit 58, nat_lit 34), (nat_lit 0, nat_lit 59, nat_lit 35), (nat_lit 0, nat_lit 72, nat_lit 36), (nat_lit 0, nat_lit 73, nat_lit 37), (nat_lit 0, nat_lit 76, nat_lit 38), (nat_lit 0, nat_lit 77, nat_lit 39), (nat_lit 0, nat_lit 79, nat_lit 40), (nat_lit 0, nat_lit 81, nat_lit 41), (nat_lit 0, nat_lit 82, nat_lit 42)] [] (fun xs η => sP wl_l zTr zPl_leafRead xs η ∧ pPl_leafRead xs η) (fun xs η y η' => sQ wl_l zTr zOl_leafRead zMl_leafRead xs η y η' ∧ pQl_leafRead xs η y η') :=
  zmet_alt (zmea_gen (mi := (nat_lit 0, nat_lit 1, nat_lit 8, nat_lit 2, nat_lit 2, tX8_leafRead)) (cd := [(nat_lit 126, nat_lit 0, nat_lit 0, [(.inr (.inr (.inl (nat_lit 0)))), (.inl (nat_lit 1, (.ofNat (nat_lit 0))))], nat_lit 2, [(nat_lit 0, nat_lit 0, nat_lit 1), (nat_lit 0, nat_lit 3, nat_lit 2), (nat_lit 0, nat_lit 20, nat_lit 3), (nat_lit 0, nat_lit 21, nat_lit 4), (nat_lit 0, nat_lit 22, nat_lit 5), (nat_lit 0, nat_lit 23, nat_lit 6), (nat_lit 0, nat_lit 24, nat_lit 7), (nat_lit 0, nat_lit 25, nat_lit 8), (nat_lit 0, nat_lit 26, nat_lit 9), (nat_lit 0, nat_lit 27, nat_lit 10), (nat_lit 0, nat_lit 28, nat_lit 11), (nat_lit 0, nat_lit 29, nat_lit 12), (nat_lit 0, nat_lit 30, nat_lit 13), (nat_lit 0, nat_lit 31, nat_lit 14), (nat_lit 0, nat_lit 32, nat_lit 15), (nat_lit 0, nat_lit 33, nat_lit 16), (nat_lit 0, nat_lit 34, nat_lit 17), (nat_lit 0, nat_lit 35, nat_lit 18), (nat_lit 0, nat_lit 36, nat_lit 19), (nat_lit 0, nat_lit 37, nat_lit 20), (nat_lit 0, nat_lit 38, nat_lit 21), (nat_lit 0, nat_lit 39, nat_lit 22), (nat_lit 0, nat_lit 40, nat_lit 23), (nat_lit 0, nat_lit 47, nat_lit 24), (nat_lit 0, nat_lit 48, nat_lit 25), (nat_lit 0, nat_lit 50, nat_lit 26), (nat_lit 0, nat_lit 51, nat_lit 27), (nat_lit 0, nat_lit 52, nat_lit 28), (nat_lit 0, nat_lit 53, nat_lit 29), (nat_lit 0, nat_lit 54, nat_lit 30), (nat_lit 0, nat_lit 55, nat_lit 31), (nat_lit 0, nat_lit 56, nat_lit 32), (nat_lit 0, nat_lit 57, nat_lit 33), (nat_lit 0, nat_lit 58, nat_lit 34), (nat_lit 0, nat_lit 59, nat_lit 35), (nat_lit 0, nat_lit 72, nat_lit 36), (nat_lit 0, nat_lit 73, nat_lit 37), (nat_lit 0, nat_lit 76, nat_lit 38), (nat_lit 0, nat_lit 77, nat_lit 39), (nat_lit 0, nat_lit 79, nat_lit 40), (nat_lit 0, nat_lit 81, nat_lit 41), (nat_lit 0, nat_lit 82, nat_lit 42)], []), (nat_lit 118, nat_lit 1, nat_lit 0, [(.inr (.inr (.inl (nat_lit 0)))), (.inl (nat_lit 1, (.ofNat (nat_lit 0))))], nat_lit 2, [(nat_lit 0, nat_lit 0, nat_lit 1), (nat_lit 0, nat_lit 3, nat_lit 2), (nat_lit 0, nat_lit 20, nat_lit 3), (nat_lit 0, nat_lit 21, nat_lit 4), (nat_lit 0, nat_lit 22, nat_lit 5), (nat_lit 0, nat_lit 23, nat_lit 6), (nat_lit 0, nat_lit 24, nat_lit 7), (nat_lit 0, nat_lit 25, nat_lit 8), (nat_lit 0, nat_lit 26, nat_lit 9), (nat_lit 0, nat_lit 27, nat_lit 10), (nat_lit 0, nat_lit 28, nat_lit 11), (nat_lit 0, nat_lit 29, nat_lit 12), (nat_lit 0, nat_lit 30, nat_lit 13), (nat_lit 0, nat_lit 31, nat_lit 14), (nat_lit 0, nat_lit 32, nat_lit 15), (nat_lit 0, nat_lit 33, nat_lit 16), (nat_lit 0, nat_lit 34, nat_lit 17), (nat_lit 0, nat_lit 35, nat_lit 18), (nat_lit 0, nat_lit 36, nat_lit 19), (nat_lit 0, nat_lit 37, nat_lit 20), (nat_lit 0, nat_lit 38, nat_lit 21), (nat_lit 0, nat_lit 39, nat_lit 22), (nat_lit 0, nat_lit 40, nat_lit 23), (nat_lit 0, nat_lit 47, nat_lit 24), (nat_lit 0, nat_lit 48, nat_lit 25), (nat_lit 0, nat_lit 50, nat_lit 26), (nat_lit 0, nat_lit 51, nat_lit 27), (nat_lit 0, nat_lit 52, nat_lit 28), (nat_lit 0, nat_lit 53, nat_lit 29), (nat_lit 0, nat_lit 54, nat_lit 30), (nat_lit 0, nat_lit 55, nat_lit 31), (nat_lit 0, nat_lit 56, nat_lit 32), (nat_lit 0, nat_lit 57, nat_lit 33), (nat_lit 0, nat_lit 58, nat_lit 34), (nat_lit 0, nat_lit 59, nat_lit 35), (nat_lit 0, nat_lit 72, nat_lit 36), (nat_lit 0, nat_lit 73, nat_lit 37), (nat_lit 0, nat_lit 76, nat_lit 38), (nat_lit 0, nat_lit 77, nat_lit 39), (nat_lit 0, nat_lit 79, nat_lit 40), (nat_lit 0, nat_lit 81, nat_lit 41), (nat_lit 0, nat_lit 82, nat_lit 42)], []), (nat_lit 145, nat_lit 2, nat_lit 0, [(.inr (.inr (.inl (nat_lit 0)))), (.inl (nat_lit 0, (.ofNat (nat_lit 0))))], nat_lit 0, [(nat_lit 0, nat_lit 0, nat_lit 1), (nat_lit 0, nat_lit 3, nat_lit 2), (nat_lit 0, nat_lit 20, nat_lit 3), (nat_lit 0, nat_lit 21, nat_lit 4), (nat_lit 0, nat_lit 22, nat_lit 5), (nat_lit 0, nat_lit 23, nat_lit 6), (nat_lit 0, nat_lit 24, nat_lit 7), (nat_lit 0, nat_lit 25, nat_lit 8), (nat_lit 0, nat_lit 26, nat_lit 9), (nat_lit 0, nat_lit 27, nat_lit 10), (nat_lit 0, nat_lit 28, nat_lit 11), (nat_lit 0, nat_lit 29, nat_lit 12), (nat_lit 0, nat_lit 30, nat_lit 13), (nat_lit 0, nat_lit 31, nat_lit 14), (nat_lit 0, nat_lit 32, nat_lit 15), (nat_lit 0, nat_lit 33, nat_lit 16), (nat_lit 0, nat_lit 34, nat_lit 17), (nat_lit 0, nat_lit 35, nat_lit 18), (nat_lit 0, nat_lit 36, nat_lit 19), (nat_lit 0, nat_lit 37, nat_lit 20), (nat_lit 0, nat_lit 38, nat_lit 21), (nat_lit 0, nat_lit 39, nat_lit 22), (nat_lit 0, nat_lit 40, nat_lit 23), (nat_lit 0, nat_lit 47, nat_lit 24), (nat_lit 0, nat_lit 48, nat_lit 25), (nat_lit 0, nat_lit 50, nat_lit 26), (nat_lit 0, nat_lit 51, nat_lit 27), (nat_lit 0, nat_lit 52, nat_lit 28), (nat_lit 0, nat_lit 53, nat_lit 29), (nat_lit 0, nat_lit 54, nat_lit 30), (nat_lit 0, nat_lit 55, nat_lit 31), (nat_lit 0, nat_lit 56, nat_lit 32), (nat_lit 0, nat_lit 57, nat_lit 33), (nat_lit 0, nat_lit 58, nat_lit 34), (nat_lit 0, nat_lit 59, nat_lit 35), (nat_lit 0, nat_lit 72, nat_lit 36), (nat_lit 0, nat_lit 73, nat_lit 37), (nat_lit 0, nat_lit 76, nat_lit 38), (nat_lit 0, nat_lit 77, nat_lit 39), (nat_lit 0, nat_lit 79, nat_lit 40), (nat_lit 0, nat_lit 81, nat_lit 41), (nat_lit 0, nat_lit 82, nat_lit 42)], []), (nat_lit 122, nat_lit 3, nat_lit 1, [(.inr (.inr (.inl (nat_lit 0))))], nat_lit 0, [(nat_lit 0, nat_lit 0, nat_lit 1), (nat_lit 0, nat_lit 3, nat_lit 2), (nat_lit 0, nat_lit 20, nat_lit 3), (nat_lit 0, nat_lit 21, nat_lit 4), (nat_lit 0, nat_lit 22, nat_lit 5), (nat_lit 0, nat_lit 23, nat_lit 6), (nat_lit 0, nat_lit 24, nat_lit 7), (nat_lit 0, nat_lit 25, nat_lit 8), (nat_lit 0, nat_lit 26, nat_lit 9), (nat_lit 0, nat_lit 27, nat_lit 10), (nat_lit 0, nat_lit 28, nat_lit 11), (nat_lit 0, nat_lit 29, nat_lit 12), (nat_lit 0, nat_lit 30, nat_lit 13), (nat_lit 0, nat_lit 31, nat_lit 14), (nat_lit 0, nat_lit 32, nat_lit 15), (nat_lit 0, nat_lit 33, nat_lit 16), (nat_lit 0, nat_lit 34, nat_lit 17), (nat_lit 0, nat_lit 35, nat_lit 18), (nat_lit 0, nat_lit 36, nat_lit 19), (nat_lit 0, nat_lit 37, nat_lit 20), (nat_lit 0, nat_lit 38, nat_lit 21), (nat_lit 0, nat_lit 39, nat_lit 22), (nat_lit 0, nat_lit 40, nat_lit 23), (nat_lit 0, nat_lit 47, nat_lit 24), (nat_lit 0, nat_lit 48, nat_lit 25), (nat_lit 0, nat_lit 50, nat_lit 26), (nat_lit 0, nat_lit 51, nat_lit 27), (nat_lit 0, nat_lit 52, nat_lit 28), (nat_lit 0, nat_lit 53, nat_lit 29), (nat_lit 0, nat_lit 54, nat_lit 30), (nat_lit 0, nat_lit 55, nat_lit 31), (nat_lit 0, nat_lit 56, nat_lit 32), (nat_lit 0, nat_lit 57, nat_lit 33), (nat_lit 0, nat_lit 58, nat_lit 34), (nat_lit 0, nat_lit 59, nat_lit 35), (nat_lit 0, nat_lit 72, nat_lit 36), (nat_lit 0, nat_lit 73, nat_lit 37), (nat_lit 0, nat_lit 76, nat_lit 38), (nat_lit 0, nat_lit 77, nat_lit 39), (nat_lit 0, nat_lit 79, nat_lit 40), (nat_lit 0, nat_lit 81, nat_lit 41), (nat_lit 0, nat_lit 82, nat_lit 42)], []), (nat_lit 125, nat_lit 4, nat_lit 0, [(.inr (.inr (.inl (nat_lit 0)))), (.inl (nat_lit 1, (.ofNat (nat_lit 0))))], nat_lit 2, [(nat_lit 0, nat_lit 0, nat_lit 1), (nat_lit 0, nat_lit 3, nat_lit 2), (nat_lit 0, nat_lit 20, nat_lit 3), (nat_lit 0, nat_lit 21, nat_lit 4), (nat_lit 0, nat_lit 22, nat_lit 5), (nat_lit 0, nat_lit 23, nat_lit 6), (nat_lit 0, nat_lit 24, nat_lit 7), (nat_lit 0, nat_lit 25, nat_lit 8), (nat_lit 0, nat_lit 26, nat_lit 9), (nat_lit 0, nat_lit 27, nat_lit 10), (nat_lit 0, nat_lit 28, nat_lit 11), (nat_lit 0, nat_lit 29, nat_lit 12), (nat_lit 0, nat_lit 30, nat_lit 13), (nat_lit 0, nat_lit 31, nat_lit 14), (nat_lit 0, nat_lit 32, nat_lit 15), (nat_lit 0, nat_lit 33, nat_lit 16), (nat_lit 0, nat_lit 34, nat_lit 17), (nat_lit 0, nat_lit 35, nat_lit 18), (nat_lit 0, nat_lit 36, nat_lit 19), (nat_lit 0, nat_lit 37, nat_lit 20), (nat_lit 0, nat_lit 38, nat_lit 21), (nat_lit 0, nat_lit 39, nat_lit 22), (nat_lit 0, nat_lit 40, nat_lit 23), (nat_lit 0, nat_lit 47, nat_lit 24), (nat_lit 0, nat_lit 48, nat_lit 25), (nat_lit 0, nat_lit 50, nat_lit 26), (nat_lit 0, nat_lit 51, nat_lit 27), (nat_lit 0, nat_lit 52, nat_lit 28), (nat_lit 0, nat_lit 53, nat_lit 29), (nat_lit 0, nat_lit 54, nat_lit 30), (nat_lit 0, nat_lit 55, nat_lit 31), (nat_lit 0, nat_lit 56, nat_lit 32), (nat_lit 0, nat_lit 57, nat_lit 33), (nat_lit 0, nat_lit 58, nat_lit 34), (nat_lit 0, nat_lit 59, nat_lit 35), (nat_lit 0, nat_lit 72, nat_lit 36), (nat_lit 0, nat_lit 73, nat_lit 37), (nat_lit 0, nat_lit 76, nat_lit 38), (nat_lit 0, nat_lit 77, nat_lit 39), (nat_lit 0, nat_lit 79, nat_lit 40), (nat_lit 0, nat_lit 81, nat_lit 41), (nat_lit 0, nat_lit 82, nat_lit 42)], []), (nat_lit 144, nat_lit 5, nat_lit 1, [(.inr (.inr (.inl (nat_lit 0))))], nat_lit 2, [(nat_lit 0, nat_lit 0, nat_lit 1), (nat_lit 0, nat_lit 3, nat_lit 2), (nat_lit 0, nat_lit 20, nat_lit 3), (nat_lit 0, nat_lit 21, nat_lit 4), (nat_lit 0, nat_lit 22, nat_lit 5), (nat_lit 0, nat_lit 23, nat_lit 6), (nat_lit 0, nat_lit 24, nat_lit 7), (nat_lit 0, nat_lit 25, nat_lit 8), (nat_lit 0, nat_lit 26, nat_lit 9), (nat_lit 0, nat_lit 27, nat_lit 10), (nat_lit 0, nat_lit 28, nat_lit 11), (nat_lit 0, nat_lit 29, nat_lit 12), (nat_lit 0, nat_lit 30, nat_lit 13), (nat_lit 0, nat_lit 31, nat_lit 14), (nat_lit 0, nat_lit 32, nat_lit 15), (nat_lit 0, nat_lit 33, nat_lit 16), (nat_lit 0, nat_lit 34, nat_lit 17), (nat_lit 0, nat_lit 35, nat_lit 18), (nat_lit 0, nat_lit 36, nat_lit 19), (nat_lit 0, nat_lit 37, nat_lit 20), (nat_lit 0, nat_lit 38, nat_lit 21), (nat_lit 0, nat_lit 39, nat_lit 22), (nat_lit 0, nat_lit 40, nat_lit 23), (nat_lit 0, nat_lit 47, nat_lit 24), (nat_lit 0, nat_lit 48, nat_lit 25), (nat_lit 0, nat_lit 50, nat_lit 26), (nat_lit 0, nat_lit 51, nat_lit 27), (nat_lit 0, nat_lit 52, nat_lit 28), (nat_lit 0, nat_lit 53, nat_lit 29), (nat_lit 0, nat_lit 54, nat_lit 30), (nat_lit 0, nat_lit 55, nat_lit 31), (nat_lit 0, nat_lit 56, nat_lit 32), (nat_lit 0, nat_lit 57, nat_lit 33), (nat_lit 0, nat_lit 58, nat_lit 34), (nat_lit 0, nat_lit 59, nat_lit 35), (nat_lit 0, nat_lit 72, nat_lit 36), (nat_lit 0, nat_lit 73, nat_lit 37), (nat_lit 0, nat_lit 76, nat_lit 38), (nat_lit 0, nat_lit 77, nat_lit 39), (nat_lit 0, nat_lit 79, nat_lit 40), (nat_lit 0, nat_lit 81, nat_lit 41), (nat_lit 0, nat_lit 82, nat_lit 42)], []), (nat_lit 145, nat_lit 6, nat_lit 0, [(.inr (.inr (.inl (nat_lit 0)))), (.inl (nat_lit 0, (.ofNat (nat_lit 2))))], nat_lit 0, [(nat_lit 0, nat_lit 0, nat_lit 1), (nat_lit 0, nat_lit 3, nat_lit 2), (nat_lit 0, nat_lit 20, nat_lit 3), (nat_lit 0, nat_lit 21, nat_lit 4), (nat_lit 0, nat_lit 22, nat_lit 5), (nat_lit 0, nat_lit 23, nat_lit 6), (nat_lit 0, nat_lit 24, nat_lit 7), (nat_lit 0, nat_lit 25, nat_lit 8), (nat_lit 0, nat_lit 26, nat_lit 9), (nat_lit 0, nat_lit 27, nat_lit 10), (nat_lit 0, nat_lit 28, nat_lit 11), (nat_lit 0, nat_lit 29, nat_lit 12), (nat_lit 0, nat_lit 30, nat_lit 13), (nat_lit 0, nat_lit 31, nat_lit 14), (nat_lit 0, nat_lit 32, nat_lit 15), (nat_lit 0, nat_lit 33, nat_lit 16), (nat_lit 0, nat_lit 34, nat_lit 17), (nat_lit 0, nat_lit 35, nat_lit 18), (nat_lit 0, nat_lit 36, nat_lit 19), (nat_lit 0, nat_lit 37, nat_lit 20), (nat_lit 0, nat_lit 38, nat_lit 21), (nat_lit 0, nat_lit 39, nat_lit 22), (nat_lit 0, nat_lit 40, nat_lit 23), (nat_lit 0, nat_lit 47, nat_lit 24), (nat_lit 0, nat_lit 48, nat_lit 25), (nat_lit 0, nat_lit 50, nat_lit 26), (nat_lit 0, nat_lit 51, nat_lit 27), (nat_lit 0, nat_lit 52, nat_lit 28), (nat_lit 0, nat_lit 53, nat_lit 29), (nat_lit 0, nat_lit 54, nat_lit 30), (nat_lit 0, nat_lit 55, nat_lit 31), (nat_lit 0, nat_lit 56, nat_lit 32), (nat_lit 0, nat_lit 57, nat_lit 33), (nat_lit 0, nat_lit 58, nat_lit 34), (nat_lit 0, nat_lit 59, nat_lit 35), (nat_lit 0, nat_lit 72, nat_lit 36), (nat_lit 0, nat_lit 73, nat_lit 37), (nat_lit 0, nat_lit 76, nat_lit 38), (nat_lit 0, nat_lit 77, nat_lit 39), (nat_lit 0, nat_lit 79, nat_lit 40), (nat_lit 0, nat_lit 81, nat_lit 41), (nat_lit 0, nat_lit 82, nat_lit 42)], []), (nat_lit 146, nat_lit 7, nat_lit 0, [(.inr (.inr (.inl (nat_lit 0))))], nat_lit 1, [(nat_lit 0, nat_lit 0, nat_lit 1), (nat_lit 0, nat_lit 3, nat_lit 2), (nat_lit 0, nat_lit 20, nat_lit 3), (nat_lit 0, nat_lit 21, nat_lit 4), (nat_lit 0, nat_lit 22, nat_lit 5), (nat_lit 0, nat_lit 23, nat_lit 6), (nat_lit 0, nat_lit 24, nat_lit 7), (nat_lit 0, nat_lit 25, nat_lit 8), (nat_lit 0, nat_lit 26, nat_lit 9), (nat_lit 0, nat_lit 27, nat_lit 10), (nat_lit 0, nat_lit 28, nat_lit 11), (nat_lit 0, nat_lit 29, nat_lit 12), (nat_lit 0, nat_lit 30, nat_lit 13), (nat_lit 0, nat_lit 31, nat_lit 14), (nat_lit 0, nat_lit 32, nat_lit 15), (nat_lit 0, nat_lit 33, nat_lit 16), (nat_lit 0, nat_lit 34, nat_lit 17), (nat_lit 0, nat_lit 35, nat_lit 18), (nat_lit 0, nat_lit 36, nat_lit 19), (nat_lit 0, nat_lit 37, nat_lit 20), (nat_lit 0, nat_lit 38, nat_lit 21), (nat_lit 0, nat_lit 39, nat_lit 22), (nat_lit 0, nat_lit 40, nat_lit 23), (nat_lit 0, nat_lit 47, nat_lit 24), (nat_lit 0, nat_lit 48, nat_lit 25), (nat_lit 0, nat_lit 50, nat_lit 26), (nat_lit 0, nat_lit 51, nat_lit 27), (nat_lit 0, nat_lit 52, nat_lit 28), (nat_lit 0, nat_lit 53, nat_lit 29), (nat_lit 0, nat_lit 54, nat_lit 30), (nat_lit 0, nat_lit 55, nat_lit 31), (nat_lit 0, nat_lit 56, nat_lit 32), (nat_lit 0, nat_lit 57, nat_lit 33), (nat_lit 0, nat_lit 58, nat_lit 34), (nat_lit 0, nat_lit 59, nat_lit 35), (nat_lit 0, nat_lit 72, nat_lit 36), (nat_lit 0, nat_lit 73, nat_lit 37), (nat_lit 0, nat_lit 76, nat_lit 38), (nat_lit 0, nat_lit 77, nat_lit 39), (nat_lit 0, nat_lit 79, nat_lit 40), (nat_lit 0, nat_lit 81, nat_lit 41), (nat_lit 0, nat_lit 82, nat_lit 42)], []), (nat_lit 141, nat_lit 8, nat_lit 0, [(.inr (.inr (.inl (nat_lit 0)))), (.inl (nat_lit 1, (.ofNat (nat_lit 0)))), (.inl (nat_lit 2, (.ofNat (nat_lit 0)))), (.inl (nat_lit 3, (.ofNat (nat_lit 0))))], nat_lit 0, [(nat_lit 0, nat_lit 0, nat_lit 1), (nat_lit 0, nat_lit 3, nat_lit 2), (nat_lit 0, nat_lit 20, nat_lit 3), (nat_lit 0, nat_lit 21, nat_lit 4), (nat_lit 0, nat_lit 22, nat_lit 5), (nat_lit 0, nat_lit 23, nat_lit 6), (nat_lit 0, nat_lit 24, nat_lit 7), (nat_lit 0, nat_lit 25, nat_lit 8), (nat_lit 0, nat_lit 26, nat_lit 9), (nat_lit 0, nat_lit 27, nat_lit 10), (nat_lit 0, nat_lit 28, nat_lit 11), (nat_lit 0, nat_lit 29, nat_lit 12), (nat_lit 0, nat_lit 30, nat_lit 13), (nat_lit 0, nat_lit 31, nat_lit 14), (nat_lit 0, nat_lit 32, nat_lit 15), (nat_lit 0, nat_lit 33, nat_lit 16), (nat_lit 0, nat_lit 34, nat_lit 17), (nat_lit 0, nat_lit 35, nat_lit 18), (nat_lit 0, nat_lit 36, nat_lit 19), (nat_lit 0, nat_lit 37, nat_lit 20), (nat_lit 0, nat_lit 38, nat_lit 21), (nat_lit 0, nat_lit 39, nat_lit 22), (nat_lit 0, nat_lit 40, nat_lit 23), (nat_lit 0, nat_lit 47, nat_lit 24), (nat_lit 0, nat_lit 48, nat_lit 25), (nat_lit 0, nat_lit 50, nat_lit 26), (nat_lit 0, nat_lit 51, nat_lit 27), (nat_lit 0, nat_lit 52, nat_lit 28), (nat_lit 0, nat_lit 53, nat_lit 29), (nat_lit 0, nat_lit 54, nat_lit 30), (nat_lit 0, nat_lit 55, nat_lit 31), (nat_lit 0, nat_lit 56, nat_lit 32), (nat_lit 0, nat_lit 57, nat_lit 33), (nat_lit 0, nat_lit 58, nat_lit 34), (nat_lit 0, nat_lit 59, nat_lit 35), (nat_lit 0, nat_lit 72, nat_lit 36), (nat_lit 0, nat_lit 73, nat_lit 37), (nat_lit 0, nat_lit 76, nat_lit 38), (nat_lit 0, nat_lit 77, nat_lit 39), (nat_lit 0, nat_lit 79, nat_lit 40), (nat_lit 0, nat_lit 81, nat_lit 41), (nat_lit 0, nat_lit 82, nat_lit 42)], [])]) (cu := []) (cs := [(nat_lit 0, zPl_isSign, zOl_isSign, zMl_isSign), (nat_lit 1, zPl_wrong, zOl_wrong, zMl_wrong), (nat_lit 2, zPl_waitsFor0, zOl_waitsFor0, zMl_waitsFor0), (nat_lit 3, zPl_token, zOl_token, zMl_token), (nat_lit 4, zPl_isKey, zOl_isKey, zMl_isKey), (nat_lit 5, zPl_isCounted, zOl_isCounted, zMl_isCounted), (nat_lit 6, zPl_waitsFor2, zOl_waitsFor2, zMl_waitsFor2), (nat_lit 7, zPl_nameMet, zOl_nameMet, zMl_nameMet), (nat_lit 8, zPl_grown, zOl_grown, zMl_grown)]) (iv := zVl_leafRead) (po := [zOl_leafRead]) (pr := zPl_leafRead) (mods := zMl_leafRead) (D7 := zDl_leafRead) (D0 := zEl_leafRead) (Dm := zFl_leafRead) (f0 := 50) pCl_leafRead qCl_leafRead iCl_leafRead pPl_leafRead (fun xs η _ y η' => pQl_leafRead xs η y η') zX_low pr_mtR rfl (List.forall_mem_cons.mpr ⟨zl_isSign, List.forall_mem_cons.mpr ⟨zl_wrong, List.forall_mem_cons.mpr ⟨zl_waitsFor0, List.forall_mem_cons.mpr ⟨zl_token, List.forall_mem_cons.mpr ⟨zl_isKey, List.forall_mem_cons.mpr ⟨zl_isCounted, List.forall_mem_cons.mpr ⟨zl_waitsFor2, List.forall_mem_cons.mpr ⟨zl_nameMet, List.forall_mem_cons.mpr ⟨zl_grown, fun _ h => nomatch h⟩⟩⟩⟩⟩⟩⟩⟩⟩) (by decide +kernel) (by decide +kernel) (by decide +kernel)
    (by
      intro xs η hr hl hp hpp
      match xs, hl, hp, hpp with
      | [], _, hp, hpp =>
        refine List.forall_mem_cons.mpr ⟨?_, List.forall_mem_cons.mpr ⟨?_, List.forall_mem_cons.mpr ⟨?_, List.forall_mem_cons.mpr ⟨?_, List.forall_mem_cons.mpr ⟨?_, List.forall_mem_cons.mpr ⟨?_, List.forall_mem_cons.mpr ⟨?_, List.forall_mem_cons.mpr ⟨?_, List.forall_mem_cons.mpr ⟨?_, List.forall_mem_cons.mpr ⟨?_, List.forall_mem_cons.mpr ⟨?_, List.forall_mem_cons.mpr ⟨?_, List.forall_mem_cons.mpr ⟨?_, List.forall_mem_cons.mpr ⟨?_, List.forall_mem_cons.mpr ⟨?_, List.forall_mem_cons.mpr ⟨?_, List.forall_mem_cons.mpr ⟨?_, List.forall_mem_cons.mpr ⟨?_, List.forall_mem_cons.mpr ⟨?_, List.forall_mem_cons.mpr ⟨?_, List.forall_mem_cons.mpr ⟨?_, List.forall_mem_cons.mpr ⟨?_, List.forall_mem_cons.mpr ⟨?_, List.forall_mem_cons.mpr ⟨?_, List.forall_mem_cons.mpr ⟨?_, List.forall_mem_cons.mpr ⟨?_, List.forall_mem_cons.mpr ⟨?_, List.forall_mem_cons.mpr ⟨?_, List.forall_mem_cons.mpr ⟨?_, List.forall_mem_cons.mpr ⟨?_, List.forall_mem_cons.mpr ⟨?_, List.forall_mem_cons.mpr ⟨?_, List.forall_mem_cons.mpr ⟨?_, List.forall_mem_cons.mpr ⟨?_, List.forall_mem_cons.mpr ⟨?_, List.forall_mem_cons.mpr ⟨?_, List.forall_mem_cons.mpr ⟨?_, List.forall_mem_cons.mpr ⟨?_, List.forall_mem_cons.mpr ⟨?_, List.forall_mem_cons.mpr ⟨?_, List.forall_mem_cons.mpr ⟨?_, List.forall_mem_cons.mpr ⟨?_, fun _ h => nomatch h⟩⟩⟩⟩⟩⟩⟩⟩⟩⟩⟩⟩⟩⟩⟩⟩⟩⟩⟩⟩⟩⟩⟩⟩⟩⟩⟩⟩⟩⟩⟩⟩⟩⟩⟩⟩⟩⟩⟩⟩⟩⟩
        · exact zl_leafRead_o0 (ro := ro)  η hp hpp
        · exact zl_leafRead_o1 (ro := ro)  η hp hpp
        · exact zl_leafRead_o2 (ro := ro)  η hp hpp
        · exact zl_leafRead_o3 (ro := ro)  η hp hpp
        · exact zl_leafRead_o4 (ro := ro)  η hp hpp
        · exact zl_leafRead_o5 (ro := ro)  η hp hpp
        · exact zl_leafRead_o6 (ro := ro)  η hp hpp
        · exact zl_leafRead_o7 (ro := ro)  η hp hpp
        · exact zl_leafRead_o8 (ro := ro)  η hp hpp
        · exact zl_leafRead_o9 (ro := ro)  η hp hpp
        · exact zl_leafRead_o10 (ro := ro)  η hp hpp
        · exact zl_leafRead_o11 (ro := ro)  η hp hpp
        · exact zl_leafRead_o12 (ro := ro)  η hp hpp
        · exact zl_leafRead_o13 (ro := ro)  η hp hpp
        · exact zl_leafRead_o14 (ro := ro)  η hp hpp
        · exact zl_leafRead_o15 (ro := ro)  η hp hpp
        · exact zl_leafRead_o16 (ro := ro)  η hp hpp
        · exact zl_leafRead_o17 (ro := ro)  η hp hpp
        · exact zl_leafRead_o18 (ro := ro)  η hp hpp
        · exact zl_leafRead_o19 (ro := ro)  η hp hpp
        · exact zl_leafRead_o20 (ro := ro)  η hp hpp
        · exact zl_leafRead_o21 (ro := ro)  η hp hpp
        · exact zl_leafRead_o22 (ro := ro)  η hp hpp
        · exact zl_leafRead_o23 (ro := ro)  η hp hpp
        · exact zl_leafRead_o24 (ro := ro)  η hp hpp
        · exact zl_leafRead_o25 (ro := ro)  η hp hpp
        · exact zl_leafRead_o26 (ro := ro)  η hp hpp
        · exact zl_leafRead_o27 (ro := ro)  η hp hpp
        · exact zl_leafRead_o28 (ro := ro)  η hp hpp
        · exact zl_leafRead_o29 (ro := ro)  η hp hpp
        · exact zl_leafRead_o30 (ro := ro)  η hp hpp
        · exact zl_leafRead_o31 (ro := ro)  η hp hpp
        · exact zl_leafRead_o32 (ro := ro)  η hp hpp
        · exact zl_leafRead_o33 (ro := ro)  η hp hpp
        · exact zl_leafRead_o34 (ro := ro)  η hp hpp
        · exact zl_leafRead_o35 (ro := ro)  η hp hpp
        · exact zl_leafRead_o36 (ro := ro)  η hp hpp
        · exact zl_leafRead_o37 (ro := ro)  η hp hpp
        · exact zl_leafRead_o38 (ro := ro)  η hp hpp
        · exact zl_leafRead_o39 (ro := ro)  η hp hpp
        · exact zl_leafRead_o40 (ro := ro)  η hp hpp
        · exact zl_leafRead_o41 (ro := ro)  η hp hpp
      )
    (fun _ _ _ _ _ _ _ h => nomatch h)
    (fun _ h => nomatch h))
