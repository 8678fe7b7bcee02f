set_option maxHeartbeats 8000000 in
theorem zle_leafRead_o17 {ro : Nat → List Int32} (η : zE) (hp : sP wl_le zTr zPle_leafRead [] η) (hpp : pPle_leafRead [] η) : ∀ (x1 : Int) (η1 : zE), ((gC2 wl_le [(nat_lit 0, zPle_isSign, zOle_isSign, zMle_isSign), (nat_lit 1, zPle_wrong, zOle_wrong, zMle_wrong), (nat_lit 2, zPle_waitsFor0, zOle_waitsFor0, zMle_waitsFor0), (nat_lit 3, zPle_token, zOle_token, zMle_token), (nat_lit 4, zPle_isKey, zOle_isKey, zMle_isKey), (nat_lit 5, zPle_isCounted, zOle_isCounted, zMle_isCounted), (nat_lit 6, zPle_waitsFor2, zOle_waitsFor2, zMle_waitsFor2), (nat_lit 7, zPle_nameMet, zOle_nameMet, zMle_nameMet), (nat_lit 8, zPle_grown, zOle_grown, zMle_grown)] pCle_leafRead qCle_leafRead) 0).2 [40] η x1 η1 → (x1 = 0) → ∀ (x2 : Int) (η2 : zE), ((gC2 wl_le [(nat_lit 0, zPle_isSign, zOle_isSign, zMle_isSign), (nat_lit 1, zPle_wrong, zOle_wrong, zMle_wrong), (nat_lit 2, zPle_waitsFor0, zOle_waitsFor0, zMle_waitsFor0), (nat_lit 3, zPle_token, zOle_token, zMle_token), (nat_lit 4, zPle_isKey, zOle_isKey, zMle_isKey), (nat_lit 5, zPle_isCounted, zOle_isCounted, zMle_isCounted), (nat_lit 6, zPle_waitsFor2, zOle_waitsFor2, zMle_waitsFor2), (nat_lit 7, zPle_nameMet, zOle_nameMet, zMle_nameMet), (nat_lit 8, zPle_grown, zOle_grown, zMle_grown)] pCle_leafRead qCle_leafRead) 4).2 [12] η1 x2 η2 → (¬ x2 = 0) → ∀ x3 : Int, x3 = η2 0 (Int.toNat 46) → zok 1 x3 → (x3 = 0) → ((gC2 wl_le [(nat_lit 0, zPle_isSign, zOle_isSign, zMle_isSign), (nat_lit 1, zPle_wrong, zOle_wrong, zMle_wrong), (nat_lit 2, zPle_waitsFor0, zOle_waitsFor0, zMle_waitsFor0), (nat_lit 3, zPle_token, zOle_token, zMle_token), (nat_lit 4, zPle_isKey, zOle_isKey, zMle_isKey), (nat_lit 5, zPle_isCounted, zOle_isCounted, zMle_isCounted), (nat_lit 6, zPle_waitsFor2, zOle_waitsFor2, zMle_waitsFor2), (nat_lit 7, zPle_nameMet, zOle_nameMet, zMle_nameMet), (nat_lit 8, zPle_grown, zOle_grown, zMle_grown)] pCle_leafRead qCle_leafRead) 7).1 [] η2 := by
  have hw : η 0 45 = 1 := hpp.2
  have hs : η 0 7 ≤ η 0 6 := hpp.1.1.1.1
  have bd43 : (0 : Int) ≤ η 0 43 ∧ η 0 43 ≤ 8 := wf_ok (a := 43) (b := 43) (z := (0, 8)) hp.1 (by decide +kernel) (Nat.le_refl _) (Nat.le_refl _)
  have bd44 : (0 : Int) ≤ η 0 44 ∧ η 0 44 ≤ 64 := wf_ok (a := 44) (b := 44) (z := (0, 64)) hp.1 (by decide +kernel) (Nat.le_refl _) (Nat.le_refl _)
  have bd19 : (0 : Int) ≤ η 0 19 ∧ η 0 19 ≤ 64 := wf_ok (a := 19) (b := 19) (z := (0, 64)) hp.1 (by decide +kernel) (Nat.le_refl _) (Nat.le_refl _)
  intro x1 η1 h1 c1 x2 η2 h2 c2 x3 e3 r3 c3
  have y1 : fQle_isSign [40] η x1 η1 := h1.2.2
  have k1 : sQ wl_le zTr zOle_isSign zMle_isSign [40] η x1 η1 ∧ oQle_isSign [40] η x1 η1 := ⟨h1.1, h1.2.1⟩
  have y2 : fQle_isKey [12] η1 x2 η2 := h2.2.2
  have k2 : sQ wl_le zTr zOle_isKey zMle_isKey [12] η1 x2 η2 ∧ oQle_isKey [12] η1 x2 η2 := ⟨h2.1, h2.2.1⟩
  have w0_0_8 : (0 : Int) ≤ η 0 8 ∧ η 0 8 ≤ 6 := wf_ok (a := 8) (b := 8) (z := (0, 6)) hp.1 (by decide +kernel) (Nat.le_refl _) (Nat.le_refl _)
  have c0_0_8 : η 0 8 = η 0 8 := rfl
  have wb1 : wB wl_le zTr η1 := k1.1.1
  have bx1 : (0 : Int) ≤ x1 ∧ x1 ≤ 1 := k1.1.2.1
  have v1 : zEq (η1 0 8) (η 0 8) := (k1.1.2.2.2.1 0 8 (by decide +kernel)).trans rfl
  have c1_0_8 : η1 0 8 = η 0 8 := v1
  have wb2 : wB wl_le zTr η2 := k2.1.1
  have bx2 : (0 : Int) ≤ x2 ∧ x2 ≤ 1 := k2.1.2.1
  have v3 : zEq (η1 0 46) (η 0 46) := (k1.1.2.2.2.1 0 46 (by decide +kernel)).trans rfl
  have v4 : zEq (η2 0 46) (η 0 46) := (k2.1.2.2.2.1 0 46 (by decide +kernel)).trans v3
  replace e3 : x3 = η 0 46 := e3.trans v4
  replace r3 : 0 ≤ x3 ∧ x3 ≤ 1 := r3
  have fm1 : zFm zMle_leafRead η η1 := zFm_tr2 zFm_rf k1.1.2.2.2.1 (by decide +kernel)
  have fm2 : zFm zMle_leafRead η η2 := zFm_tr2 fm1 k2.1.2.2.2.1 (by decide +kernel)
  have fmE : zFm zMle_leafRead η η2 := fm2
  have fr22_0 : ∀ j, η 22 j = η 22 j := fun _ => rfl
  have v5 : ∀ j, η1 22 j = η 22 j := fun j => k1.1.2.2.2.1 22 _ (zinr_not (by decide +kernel))
  have fr22_1 : ∀ j, η1 22 j = η 22 j := v5
  have v6 : ∀ j, η2 22 j = η 22 j := fun j => (k2.1.2.2.2.1 22 _ (zinr_not (by decide +kernel))).trans (v5 j)
  have fr22_2 : ∀ j, η2 22 j = η 22 j := v6
  have fr22 : ∀ j, η2 22 j = η 22 j := v6
  have v8 : zEq (η1 0 41) (η 0 41) := (k1.1.2.2.2.1 0 41 (by decide +kernel)).trans rfl
  have v9 : zEq (η2 0 41) (η 0 41) := (k2.1.2.2.2.1 0 41 (by decide +kernel)).trans v8
  have f0_41 : η2 0 41 = η 0 41 := v9
  have w0_0_43 : (0 : Int) ≤ η 0 43 ∧ η 0 43 ≤ 8 := wf_ok (a := 43) (b := 43) (z := (0, 8)) hp.1 (by decide +kernel) (Nat.le_refl _) (Nat.le_refl _)
  have v11 : zEq (η1 0 43) (η 0 43) := (k1.1.2.2.2.1 0 43 (by decide +kernel)).trans rfl
  have v12 : zEq (η2 0 43) (η 0 43) := (k2.1.2.2.2.1 0 43 (by decide +kernel)).trans v11
  have f0_43 : η2 0 43 = η 0 43 := v12
  have v14 : zEq (η1 0 42) (η 0 42) := (k1.1.2.2.2.1 0 42 (by decide +kernel)).trans rfl
  have v15 : zEq (η2 0 42) (η 0 42) := (k2.1.2.2.2.1 0 42 (by decide +kernel)).trans v14
  have f0_42 : η2 0 42 = η 0 42 := v15
  have v17 : zEq (η1 0 45) (η 0 45) := (k1.1.2.2.2.1 0 45 (by decide +kernel)).trans rfl
  have v18 : zEq (η2 0 45) (η 0 45) := (k2.1.2.2.2.1 0 45 (by decide +kernel)).trans v17
  have f0_45 : η2 0 45 = η 0 45 := v18
  have w0_0_19 : (0 : Int) ≤ η 0 19 ∧ η 0 19 ≤ 64 := wf_ok (a := 19) (b := 19) (z := (0, 64)) hp.1 (by decide +kernel) (Nat.le_refl _) (Nat.le_refl _)
  have v20 : zEq (η1 0 19) (η 0 19) := (k1.1.2.2.2.1 0 19 (by decide +kernel)).trans rfl
  have v21 : zEq (η2 0 19) (η 0 19) := (k2.1.2.2.2.1 0 19 (by decide +kernel)).trans v20
  have f0_19 : η2 0 19 = η 0 19 := v21
  have w0_0_44 : (0 : Int) ≤ η 0 44 ∧ η 0 44 ≤ 64 := wf_ok (a := 44) (b := 44) (z := (0, 64)) hp.1 (by decide +kernel) (Nat.le_refl _) (Nat.le_refl _)
  have v23 : zEq (η1 0 44) (η 0 44) := (k1.1.2.2.2.1 0 44 (by decide +kernel)).trans rfl
  have v24 : zEq (η2 0 44) (η 0 44) := (k2.1.2.2.2.1 0 44 (by decide +kernel)).trans v23
  have f0_44 : η2 0 44 = η 0 44 := v24
  have w0_0_7 : (0 : Int) ≤ η 0 7 ∧ η 0 7 ≤ 700 := wf_ok (a := 7) (b := 7) (z := (0, 700)) hp.1 (by decide +kernel) (Nat.le_refl _) (Nat.le_refl _)
  have v26 : zEq (η1 0 7) (η 0 7) := (k1.1.2.2.2.1 0 7 (by decide +kernel)).trans rfl
  have v27 : zEq (η2 0 7) (η 0 7) := (k2.1.2.2.2.1 0 7 (by decide +kernel)).trans v26
  have f0_7 : η2 0 7 = η 0 7 := v27
  have w0_0_6 : (0 : Int) ≤ η 0 6 ∧ η 0 6 ≤ 700 := wf_ok (a := 6) (b := 6) (z := (0, 700)) hp.1 (by decide +kernel) (Nat.le_refl _) (Nat.le_refl _)
  have v29 : zEq (η1 0 6) (η 0 6) := (k1.1.2.2.2.1 0 6 (by decide +kernel)).trans rfl
  have v30 : zEq (η2 0 6) (η 0 6) := (k2.1.2.2.2.1 0 6 (by decide +kernel)).trans v29
  have f0_6 : η2 0 6 = η 0 6 := v30
  have v31 : zEq (η2 0 8) (η 0 8) := (k2.1.2.2.2.1 0 8 (by decide +kernel)).trans v1
  have f0_8 : η2 0 8 = η 0 8 := v31
  have wbE : wB wl_le zTr η2 := wb2
  
  have I0 : H_l 0 0 0 η := hpp.1
  have I1 : H_l 0 0 0 η1 := k1.2.1
  have I2 : H_l 0 0 0 η2 := k2.2.1
  have qk2 : η1 0 8 = 1 := k2.2.2 c2
  exact I2
set_option maxHeartbeats 8000000 in
theorem zle_leafRead_o18 {ro : Nat → List Int32} (η : zE) (hp : sP wl_le zTr zPle_leafRead [] η) (hpp : pPle_leafRead [] η) : ∀ (x1 : Int) (η1 : zE), ((gC2 wl_le [(nat_lit 0, zPle_isSign, zOle_isSign, zMle_isSign), (nat_lit 1, zPle_wrong, zOle_wrong, zMle_wrong), (nat_lit 2, zPle_waitsFor0, zOle_waitsFor0, zMle_waitsFor0), (nat_lit 3, zPle_token, zOle_token, zMle_token), (nat_lit 4, zPle_isKey, zOle_isKey, zMle_isKey), (nat_lit 5, zPle_isCounted, zOle_isCounted, zMle_isCounted), (nat_lit 6, zPle_waitsFor2, zOle_waitsFor2, zMle_waitsFor2), (nat_lit 7, zPle_nameMet, zOle_nameMet, zMle_nameMet), (nat_lit 8, zPle_grown, zOle_grown, zMle_grown)] pCle_leafRead qCle_leafRead) 0).2 [40] η x1 η1 → (x1 = 0) → ∀ (x2 : Int) (η2 : zE), ((gC2 wl_le [(nat_lit 0, zPle_isSign, zOle_isSign, zMle_isSign), (nat_lit 1, zPle_wrong, zOle_wrong, zMle_wrong), (nat_lit 2, zPle_waitsFor0, zOle_waitsFor0, zMle_waitsFor0), (nat_lit 3, zPle_token, zOle_token, zMle_token), (nat_lit 4, zPle_isKey, zOle_isKey, zMle_isKey), (nat_lit 5, zPle_isCounted, zOle_isCounted, zMle_isCounted), (nat_lit 6, zPle_waitsFor2, zOle_waitsFor2, zMle_waitsFor2), (nat_lit 7, zPle_nameMet, zOle_nameMet, zMle_nameMet), (nat_lit 8, zPle_grown, zOle_grown, zMle_grown)] pCle_leafRead qCle_leafRead) 4).2 [12] η1 x2 η2 → (¬ x2 = 0) → ∀ x3 : Int, x3 = η2 0 (Int.toNat 46) → zok 1 x3 → (x3 = 0) → ∀ (x4 : Int) (η3 : zE), ((gC2 wl_le [(nat_lit 0, zPle_isSign, zOle_isSign, zMle_isSign), (nat_lit 1, zPle_wrong, zOle_wrong, zMle_wrong), (nat_lit 2, zPle_waitsFor0, zOle_waitsFor0, zMle_waitsFor0), (nat_lit 3, zPle_token, zOle_token, zMle_token), (nat_lit 4, zPle_isKey, zOle_isKey, zMle_isKey), (nat_lit 5, zPle_isCounted, zOle_isCounted, zMle_isCounted), (nat_lit 6, zPle_waitsFor2, zOle_waitsFor2, zMle_waitsFor2), (nat_lit 7, zPle_nameMet, zOle_nameMet, zMle_nameMet), (nat_lit 8, zPle_grown, zOle_grown, zMle_grown)] pCle_leafRead qCle_leafRead) 7).2 [] η2 x4 η3 → (0 ≤ x4) → (0 ≤ x4) → ((gC2 wl_le [(nat_lit 0, zPle_isSign, zOle_isSign, zMle_isSign), (nat_lit 1, zPle_wrong, zOle_wrong, zMle_wrong), (nat_lit 2, zPle_waitsFor0, zOle_waitsFor0, zMle_waitsFor0), (nat_lit 3, zPle_token, zOle_token, zMle_token), (nat_lit 4, zPle_isKey, zOle_isKey, zMle_isKey), (nat_lit 5, zPle_isCounted, zOle_isCounted, zMle_isCounted), (nat_lit 6, zPle_waitsFor2, zOle_waitsFor2, zMle_waitsFor2), (nat_lit 7, zPle_nameMet, zOle_nameMet, zMle_nameMet), (nat_lit 8, zPle_grown, zOle_grown, zMle_grown)] pCle_leafRead qCle_leafRead) 5).1 [] η3 := by
  have hw : η 0 45 = 1 := hpp.2
  have hs : η 0 7 ≤ η 0 6 := hpp.1.1.1.1
  have bd43 : (0 : Int) ≤ η 0 43 ∧ η 0 43 ≤ 8 := wf_ok (a := 43) (b := 43) (z := (0, 8)) hp.1 (by decide +kernel) (Nat.le_refl _) (Nat.le_refl _)
  have bd44 : (0 : Int) ≤ η 0 44 ∧ η 0 44 ≤ 64 := wf_ok (a := 44) (b := 44) (z := (0, 64)) hp.1 (by decide +kernel) (Nat.le_refl _) (Nat.le_refl _)
  have bd19 : (0 : Int) ≤ η 0 19 ∧ η 0 19 ≤ 64 := wf_ok (a := 19) (b := 19) (z := (0, 64)) hp.1 (by decide +kernel) (Nat.le_refl _) (Nat.le_refl _)
  intro x1 η1 h1 c1 x2 η2 h2 c2 x3 e3 r3 c3 x4 η3 h4 c4 c5
  have y1 : fQle_isSign [40] η x1 η1 := h1.2.2
  have k1 : sQ wl_le zTr zOle_isSign zMle_isSign [40] η x1 η1 ∧ oQle_isSign [40] η x1 η1 := ⟨h1.1, h1.2.1⟩
  have y2 : fQle_isKey [12] η1 x2 η2 := h2.2.2
  have k2 : sQ wl_le zTr zOle_isKey zMle_isKey [12] η1 x2 η2 ∧ oQle_isKey [12] η1 x2 η2 := ⟨h2.1, h2.2.1⟩
  have y4 : fQle_nameMet [] η2 x4 η3 := h4.2.2
  have k4 : sQ wl_le zTr zOle_nameMet zMle_nameMet [] η2 x4 η3 ∧ oQle_nameMet [] η2 x4 η3 := ⟨h4.1, h4.2.1⟩
  have w0_0_8 : (0 : Int) ≤ η 0 8 ∧ η 0 8 ≤ 6 := wf_ok (a := 8) (b := 8) (z := (0, 6)) hp.1 (by decide +kernel) (Nat.le_refl _) (Nat.le_refl _)
  have c0_0_8 : η 0 8 = η 0 8 := rfl
  have wb1 : wB wl_le zTr η1 := k1.1.1
  have bx1 : (0 : Int) ≤ x1 ∧ x1 ≤ 1 := k1.1.2.1
  have v1 : zEq (η1 0 8) (η 0 8) := (k1.1.2.2.2.1 0 8 (by decide +kernel)).trans rfl
  have c1_0_8 : η1 0 8 = η 0 8 := v1
  have wb2 : wB wl_le zTr η2 := k2.1.1
  have bx2 : (0 : Int) ≤ x2 ∧ x2 ≤ 1 := k2.1.2.1
  have v3 : zEq (η1 0 46) (η 0 46) := (k1.1.2.2.2.1 0 46 (by decide +kernel)).trans rfl
  have v4 : zEq (η2 0 46) (η 0 46) := (k2.1.2.2.2.1 0 46 (by decide +kernel)).trans v3
  replace e3 : x3 = η 0 46 := e3.trans v4
  replace r3 : 0 ≤ x3 ∧ x3 ≤ 1 := r3
  have v5 : zEq (η2 0 8) (η 0 8) := (k2.1.2.2.2.1 0 8 (by decide +kernel)).trans v1
  have c2_0_8 : η2 0 8 = η 0 8 := v5
  have wb3 : wB wl_le zTr η3 := k4.1.1
  have bx4 : ((-1) : Int) ≤ x4 ∧ x4 ≤ 6 := k4.1.2.1
  have fm1 : zFm zMle_leafRead η η1 := zFm_tr2 zFm_rf k1.1.2.2.2.1 (by decide +kernel)
  have fm2 : zFm zMle_leafRead η η2 := zFm_tr2 fm1 k2.1.2.2.2.1 (by decide +kernel)
  have fm3 : zFm zMle_leafRead η η3 := zFm_tr2 fm2 k4.1.2.2.2.1 (by decide +kernel)
  have fmE : zFm zMle_leafRead η η3 := fm3
  have fr22_0 : ∀ j, η 22 j = η 22 j := fun _ => rfl
  have v6 : ∀ j, η1 22 j = η 22 j := fun j => k1.1.2.2.2.1 22 _ (zinr_not (by decide +kernel))
  have fr22_1 : ∀ j, η1 22 j = η 22 j := v6
  have v7 : ∀ j, η2 22 j = η 22 j := fun j => (k2.1.2.2.2.1 22 _ (zinr_not (by decide +kernel))).trans (v6 j)
  have fr22_2 : ∀ j, η2 22 j = η 22 j := v7
  have v8 : ∀ j, η3 22 j = η 22 j := fun j => (k4.1.2.2.2.1 22 _ (zinr_not (by decide +kernel))).trans (v7 j)
  have fr22_3 : ∀ j, η3 22 j = η 22 j := v8
  have fr22 : ∀ j, η3 22 j = η 22 j := v8
  have v10 : zEq (η1 0 41) (η 0 41) := (k1.1.2.2.2.1 0 41 (by decide +kernel)).trans rfl
  have v11 : zEq (η2 0 41) (η 0 41) := (k2.1.2.2.2.1 0 41 (by decide +kernel)).trans v10
  have v12 : zEq (η3 0 41) (η 0 41) := (k4.1.2.2.2.1 0 41 (by decide +kernel)).trans v11
  have f0_41 : η3 0 41 = η 0 41 := v12
  have w0_0_43 : (0 : Int) ≤ η 0 43 ∧ η 0 43 ≤ 8 := wf_ok (a := 43) (b := 43) (z := (0, 8)) hp.1 (by decide +kernel) (Nat.le_refl _) (Nat.le_refl _)
  have v14 : zEq (η1 0 43) (η 0 43) := (k1.1.2.2.2.1 0 43 (by decide +kernel)).trans rfl
  have v15 : zEq (η2 0 43) (η 0 43) := (k2.1.2.2.2.1 0 43 (by decide +kernel)).trans v14
  have v16 : zEq (η3 0 43) (η 0 43) := (k4.1.2.2.2.1 0 43 (by decide +kernel)).trans v15
  have f0_43 : η3 0 43 = η 0 43 := v16
  have v18 : zEq (η1 0 42) (η 0 42) := (k1.1.2.2.2.1 0 42 (by decide +kernel)).trans rfl
  have v19 : zEq (η2 0 42) (η 0 42) := (k2.1.2.2.2.1 0 42 (by decide +kernel)).trans v18
  have v20 : zEq (η3 0 42) (η 0 42) := (k4.1.2.2.2.1 0 42 (by decide +kernel)).trans v19
  have f0_42 : η3 0 42 = η 0 42 := v20
  have v22 : zEq (η1 0 45) (η 0 45) := (k1.1.2.2.2.1 0 45 (by decide +kernel)).trans rfl
  have v23 : zEq (η2 0 45) (η 0 45) := (k2.1.2.2.2.1 0 45 (by decide +kernel)).trans v22
  have v24 : zEq (η3 0 45) (η 0 45) := (k4.1.2.2.2.1 0 45 (by decide +kernel)).trans v23
  have f0_45 : η3 0 45 = η 0 45 := v24
  have w0_0_19 : (0 : Int) ≤ η 0 19 ∧ η 0 19 ≤ 64 := wf_ok (a := 19) (b := 19) (z := (0, 64)) hp.1 (by decide +kernel) (Nat.le_refl _) (Nat.le_refl _)
  have v26 : zEq (η1 0 19) (η 0 19) := (k1.1.2.2.2.1 0 19 (by decide +kernel)).trans rfl
  have v27 : zEq (η2 0 19) (η 0 19) := (k2.1.2.2.2.1 0 19 (by decide +kernel)).trans v26
  have v28 : zEq (η3 0 19) (η 0 19) := (k4.1.2.2.2.1 0 19 (by decide +kernel)).trans v27
  have f0_19 : η3 0 19 = η 0 19 := v28
  have w0_0_44 : (0 : Int) ≤ η 0 44 ∧ η 0 44 ≤ 64 := wf_ok (a := 44) (b := 44) (z := (0, 64)) hp.1 (by decide +kernel) (Nat.le_refl _) (Nat.le_refl _)
  have v30 : zEq (η1 0 44) (η 0 44) := (k1.1.2.2.2.1 0 44 (by decide +kernel)).trans rfl
  have v31 : zEq (η2 0 44) (η 0 44) := (k2.1.2.2.2.1 0 44 (by decide +kernel)).trans v30
  have v32 : zEq (η3 0 44) (η 0 44) := (k4.1.2.2.2.1 0 44 (by decide +kernel)).trans v31
  have f0_44 : η3 0 44 = η 0 44 := v32
  have w0_0_7 : (0 : Int) ≤ η 0 7 ∧ η 0 7 ≤ 700 := wf_ok (a := 7) (b := 7) (z := (0, 700)) hp.1 (by decide +kernel) (Nat.le_refl _) (Nat.le_refl _)
  have v34 : zEq (η1 0 7) (η 0 7) := (k1.1.2.2.2.1 0 7 (by decide +kernel)).trans rfl
  have v35 : zEq (η2 0 7) (η 0 7) := (k2.1.2.2.2.1 0 7 (by decide +kernel)).trans v34
  have v36 : zEq (η3 0 7) (η 0 7) := (k4.1.2.2.2.1 0 7 (by decide +kernel)).trans v35
  have f0_7 : η3 0 7 = η 0 7 := v36
  have w0_0_6 : (0 : Int) ≤ η 0 6 ∧ η 0 6 ≤ 700 := wf_ok (a := 6) (b := 6) (z := (0, 700)) hp.1 (by decide +kernel) (Nat.le_refl _) (Nat.le_refl _)
  have v38 : zEq (η1 0 6) (η 0 6) := (k1.1.2.2.2.1 0 6 (by decide +kernel)).trans rfl
  have v39 : zEq (η2 0 6) (η 0 6) := (k2.1.2.2.2.1 0 6 (by decide +kernel)).trans v38
  have v40 : zEq (η3 0 6) (η 0 6) := (k4.1.2.2.2.1 0 6 (by decide +kernel)).trans v39
  have f0_6 : η3 0 6 = η 0 6 := v40
  have v41 : zEq (η3 0 8) (η 0 8) := (k4.1.2.2.2.1 0 8 (by decide +kernel)).trans v5
  have f0_8 : η3 0 8 = η 0 8 := v41
  have wbE : wB wl_le zTr η3 := wb3
  
  have I0 : H_l 0 0 0 η := hpp.1
  have I1 : H_l 0 0 0 η1 := k1.2.1
  have I2 : H_l 0 0 0 η2 := k2.2.1
  have qk2 : η1 0 8 = 1 := k2.2.2 c2
  have I3 : H_l 0 0 0 η3 := k4.2.1
  have qk4 : η2 0 8 = 1 := k4.2.2 c4
  exact I3
set_option maxHeartbeats 8000000 in
theorem zle_leafRead_o19 {ro : Nat → List Int32} (η : zE) (hp : sP wl_le zTr zPle_leafRead [] η) (hpp : pPle_leafRead [] η) : ∀ (x1 : Int) (η1 : zE), ((gC2 wl_le [(nat_lit 0, zPle_isSign, zOle_isSign, zMle_isSign), (nat_lit 1, zPle_wrong, zOle_wrong, zMle_wrong), (nat_lit 2, zPle_waitsFor0, zOle_waitsFor0, zMle_waitsFor0), (nat_lit 3, zPle_token, zOle_token, zMle_token), (nat_lit 4, zPle_isKey, zOle_isKey, zMle_isKey), (nat_lit 5, zPle_isCounted, zOle_isCounted, zMle_isCounted), (nat_lit 6, zPle_waitsFor2, zOle_waitsFor2, zMle_waitsFor2), (nat_lit 7, zPle_nameMet, zOle_nameMet, zMle_nameMet), (nat_lit 8, zPle_grown, zOle_grown, zMle_grown)] pCle_leafRead qCle_leafRead) 0).2 [40] η x1 η1 → (x1 = 0) → ∀ (x2 : Int) (η2 : zE), ((gC2 wl_le [(nat_lit 0, zPle_isSign, zOle_isSign, zMle_isSign), (nat_lit 1, zPle_wrong, zOle_wrong, zMle_wrong), (nat_lit 2, zPle_waitsFor0, zOle_waitsFor0, zMle_waitsFor0), (nat_lit 3, zPle_token, zOle_token, zMle_token), (nat_lit 4, zPle_isKey, zOle_isKey, zMle_isKey), (nat_lit 5, zPle_isCounted, zOle_isCounted, zMle_isCounted), (nat_lit 6, zPle_waitsFor2, zOle_waitsFor2, zMle_waitsFor2), (nat_lit 7, zPle_nameMet, zOle_nameMet, zMle_nameMet), (nat_lit 8, zPle_grown, zOle_grown, zMle_grown)] pCle_leafRead qCle_leafRead) 4).2 [12] η1 x2 η2 → (¬ x2 = 0) → ∀ x3 : Int, x3 = η2 0 (Int.toNat 46) → zok 1 x3 → (x3 = 0) → ∀ (x4 : Int) (η3 : zE), ((gC2 wl_le [(nat_lit 0, zPle_isSign, zOle_isSign, zMle_isSign), (nat_lit 1, zPle_wrong, zOle_wrong, zMle_wrong), (nat_lit 2, zPle_waitsFor0, zOle_waitsFor0, zMle_waitsFor0), (nat_lit 3, zPle_token, zOle_token, zMle_token), (nat_lit 4, zPle_isKey, zOle_isKey, zMle_isKey), (nat_lit 5, zPle_isCounted, zOle_isCounted, zMle_isCounted), (nat_lit 6, zPle_waitsFor2, zOle_waitsFor2, zMle_waitsFor2), (nat_lit 7, zPle_nameMet, zOle_nameMet, zMle_nameMet), (nat_lit 8, zPle_grown, zOle_grown, zMle_grown)] pCle_leafRead qCle_leafRead) 7).2 [] η2 x4 η3 → (0 ≤ x4) → (0 ≤ x4) → ∀ (x5 : Int) (η4 : zE), ((gC2 wl_le [(nat_lit 0, zPle_isSign, zOle_isSign, zMle_isSign), (nat_lit 1, zPle_wrong, zOle_wrong, zMle_wrong), (nat_lit 2, zPle_waitsFor0, zOle_waitsFor0, zMle_waitsFor0), (nat_lit 3, zPle_token, zOle_token, zMle_token), (nat_lit 4, zPle_isKey, zOle_isKey, zMle_isKey), (nat_lit 5, zPle_isCounted, zOle_isCounted, zMle_isCounted), (nat_lit 6, zPle_waitsFor2, zOle_waitsFor2, zMle_waitsFor2), (nat_lit 7, zPle_nameMet, zOle_nameMet, zMle_nameMet), (nat_lit 8, zPle_grown, zOle_grown, zMle_grown)] pCle_leafRead qCle_leafRead) 5).2 [] η3 x5 η4 → (¬ x5 = 0) → (0 ≤ x4) → (0 ≤ x4) → ((gC2 wl_le [(nat_lit 0, zPle_isSign, zOle_isSign, zMle_isSign), (nat_lit 1, zPle_wrong, zOle_wrong, zMle_wrong), (nat_lit 2, zPle_waitsFor0, zOle_waitsFor0, zMle_waitsFor0), (nat_lit 3, zPle_token, zOle_token, zMle_token), (nat_lit 4, zPle_isKey, zOle_isKey, zMle_isKey), (nat_lit 5, zPle_isCounted, zOle_isCounted, zMle_isCounted), (nat_lit 6, zPle_waitsFor2, zOle_waitsFor2, zMle_waitsFor2), (nat_lit 7, zPle_nameMet, zOle_nameMet, zMle_nameMet), (nat_lit 8, zPle_grown, zOle_grown, zMle_grown)] pCle_leafRead qCle_leafRead) 8).1 [1, x4, 0] η4 := by
  have hw : η 0 45 = 1 := hpp.2
  have hs : η 0 7 ≤ η 0 6 := hpp.1.1.1.1
  have bd43 : (0 : Int) ≤ η 0 43 ∧ η 0 43 ≤ 8 := wf_ok (a := 43) (b := 43) (z := (0, 8)) hp.1 (by decide +kernel) (Nat.le_refl _) (Nat.le_refl _)
  have bd44 : (0 : Int) ≤ η 0 44 ∧ η 0 44 ≤ 64 := wf_ok (a := 44) (b := 44) (z := (0, 64)) hp.1 (by decide +kernel) (Nat.le_refl _) (Nat.le_refl _)
  have bd19 : (0 : Int) ≤ η 0 19 ∧ η 0 19 ≤ 64 := wf_ok (a := 19) (b := 19) (z := (0, 64)) hp.1 (by decide +kernel) (Nat.le_refl _) (Nat.le_refl _)
  intro x1 η1 h1 c1 x2 η2 h2 c2 x3 e3 r3 c3 x4 η3 h4 c4 c5 x5 η4 h5 c6 c7 c8
  have y1 : fQle_isSign [40] η x1 η1 := h1.2.2
  have k1 : sQ wl_le zTr zOle_isSign zMle_isSign [40] η x1 η1 ∧ oQle_isSign [40] η x1 η1 := ⟨h1.1, h1.2.1⟩
  have y2 : fQle_isKey [12] η1 x2 η2 := h2.2.2
  have k2 : sQ wl_le zTr zOle_isKey zMle_isKey [12] η1 x2 η2 ∧ oQle_isKey [12] η1 x2 η2 := ⟨h2.1, h2.2.1⟩
  have y4 : fQle_nameMet [] η2 x4 η3 := h4.2.2
  have k4 : sQ wl_le zTr zOle_nameMet zMle_nameMet [] η2 x4 η3 ∧ oQle_nameMet [] η2 x4 η3 := ⟨h4.1, h4.2.1⟩
  have y5 : fQle_isCounted [] η3 x5 η4 := h5.2.2
  have k5 : sQ wl_le zTr zOle_isCounted zMle_isCounted [] η3 x5 η4 ∧ oQle_isCounted [] η3 x5 η4 := ⟨h5.1, h5.2.1⟩
  have w0_0_8 : (0 : Int) ≤ η 0 8 ∧ η 0 8 ≤ 6 := wf_ok (a := 8) (b := 8) (z := (0, 6)) hp.1 (by decide +kernel) (Nat.le_refl _) (Nat.le_refl _)
  have c0_0_8 : η 0 8 = η 0 8 := rfl
  have wb1 : wB wl_le zTr η1 := k1.1.1
  have bx1 : (0 : Int) ≤ x1 ∧ x1 ≤ 1 := k1.1.2.1
  have v1 : zEq (η1 0 8) (η 0 8) := (k1.1.2.2.2.1 0 8 (by decide +kernel)).trans rfl
  have c1_0_8 : η1 0 8 = η 0 8 := v1
  have wb2 : wB wl_le zTr η2 := k2.1.1
  have bx2 : (0 : Int) ≤ x2 ∧ x2 ≤ 1 := k2.1.2.1
  have v3 : zEq (η1 0 46) (η 0 46) := (k1.1.2.2.2.1 0 46 (by decide +kernel)).trans rfl
  have v4 : zEq (η2 0 46) (η 0 46) := (k2.1.2.2.2.1 0 46 (by decide +kernel)).trans v3
  replace e3 : x3 = η 0 46 := e3.trans v4
  replace r3 : 0 ≤ x3 ∧ x3 ≤ 1 := r3
  have v5 : zEq (η2 0 8) (η 0 8) := (k2.1.2.2.2.1 0 8 (by decide +kernel)).trans v1
  have c2_0_8 : η2 0 8 = η 0 8 := v5
  have wb3 : wB wl_le zTr η3 := k4.1.1
  have bx4 : ((-1) : Int) ≤ x4 ∧ x4 ≤ 6 := k4.1.2.1
  have v6 : zEq (η3 0 8) (η 0 8) := (k4.1.2.2.2.1 0 8 (by decide +kernel)).trans v5
  have c3_0_8 : η3 0 8 = η 0 8 := v6
  have wb4 : wB wl_le zTr η4 := k5.1.1
  have bx5 : (0 : Int) ≤ x5 ∧ x5 ≤ 1 := k5.1.2.1
  have fm1 : zFm zMle_leafRead η η1 := zFm_tr2 zFm_rf k1.1.2.2.2.1 (by decide +kernel)
  have fm2 : zFm zMle_leafRead η η2 := zFm_tr2 fm1 k2.1.2.2.2.1 (by decide +kernel)
  have fm3 : zFm zMle_leafRead η η3 := zFm_tr2 fm2 k4.1.2.2.2.1 (by decide +kernel)
  have fm4 : zFm zMle_leafRead η η4 := zFm_tr2 fm3 k5.1.2.2.2.1 (by decide +kernel)
  have fmE : zFm zMle_leafRead η η4 := fm4
  have fr22_0 : ∀ j, η 22 j = η 22 j := fun _ => rfl
  have v7 : ∀ j, η1 22 j = η 22 j := fun j => k1.1.2.2.2.1 22 _ (zinr_not (by decide +kernel))
  have fr22_1 : ∀ j, η1 22 j = η 22 j := v7
  have v8 : ∀ j, η2 22 j = η 22 j := fun j => (k2.1.2.2.2.1 22 _ (zinr_not (by decide +kernel))).trans (v7 j)
  have fr22_2 : ∀ j, η2 22 j = η 22 j := v8
  have v9 : ∀ j, η3 22 j = η 22 j := fun j => (k4.1.2.2.2.1 22 _ (zinr_not (by decide +kernel))).trans (v8 j)
  have fr22_3 : ∀ j, η3 22 j = η 22 j := v9
  have v10 : ∀ j, η4 22 j = η 22 j := fun j => (k5.1.2.2.2.1 22 _ (zinr_not (by decide +kernel))).trans (v9 j)
  have fr22_4 : ∀ j, η4 22 j = η 22 j := v10
  have fr22 : ∀ j, η4 22 j = η 22 j := v10
  have v12 : zEq (η1 0 41) (η 0 41) := (k1.1.2.2.2.1 0 41 (by decide +kernel)).trans rfl
  have v13 : zEq (η2 0 41) (η 0 41) := (k2.1.2.2.2.1 0 41 (by decide +kernel)).trans v12
  have v14 : zEq (η3 0 41) (η 0 41) := (k4.1.2.2.2.1 0 41 (by decide +kernel)).trans v13
  have v15 : zEq (η4 0 41) (η 0 41) := (k5.1.2.2.2.1 0 41 (by decide +kernel)).trans v14
  have f0_41 : η4 0 41 = η 0 41 := v15
  have w0_0_43 : (0 : Int) ≤ η 0 43 ∧ η 0 43 ≤ 8 := wf_ok (a := 43) (b := 43) (z := (0, 8)) hp.1 (by decide +kernel) (Nat.le_refl _) (Nat.le_refl _)
  have v17 : zEq (η1 0 43) (η 0 43) := (k1.1.2.2.2.1 0 43 (by decide +kernel)).trans rfl
  have v18 : zEq (η2 0 43) (η 0 43) := (k2.1.2.2.2.1 0 43 (by decide +kernel)).trans v17
  have v19 : zEq (η3 0 43) (η 0 43) := (k4.1.2.2.2.1 0 43 (by decide +kernel)).trans v18
  have v20 : zEq (η4 0 43) (η 0 43) := (k5.1.2.2.2.1 0 43 (by decide +kernel)).trans v19
  have f0_43 : η4 0 43 = η 0 43 := v20
  have v22 : zEq (η1 0 42) (η 0 42) := (k1.1.2.2.2.1 0 42 (by decide +kernel)).trans rfl
  have v23 : zEq (η2 0 42) (η 0 42) := (k2.1.2.2.2.1 0 42 (by decide +kernel)).trans v22
  have v24 : zEq (η3 0 42) (η 0 42) := (k4.1.2.2.2.1 0 42 (by decide +kernel)).trans v23
  have v25 : zEq (η4 0 42) (η 0 42) := (k5.1.2.2.2.1 0 42 (by decide +kernel)).trans v24
  have f0_42 : η4 0 42 = η 0 42 := v25
  have v27 : zEq (η1 0 45) (η 0 45) := (k1.1.2.2.2.1 0 45 (by decide +kernel)).trans rfl
  have v28 : zEq (η2 0 45) (η 0 45) := (k2.1.2.2.2.1 0 45 (by decide +kernel)).trans v27
  have v29 : zEq (η3 0 45) (η 0 45) := (k4.1.2.2.2.1 0 45 (by decide +kernel)).trans v28
  have v30 : zEq (η4 0 45) (η 0 45) := (k5.1.2.2.2.1 0 45 (by decide +kernel)).trans v29
  have f0_45 : η4 0 45 = η 0 45 := v30
  have w0_0_19 : (0 : Int) ≤ η 0 19 ∧ η 0 19 ≤ 64 := wf_ok (a := 19) (b := 19) (z := (0, 64)) hp.1 (by decide +kernel) (Nat.le_refl _) (Nat.le_refl _)
  have v32 : zEq (η1 0 19) (η 0 19) := (k1.1.2.2.2.1 0 19 (by decide +kernel)).trans rfl
  have v33 : zEq (η2 0 19) (η 0 19) := (k2.1.2.2.2.1 0 19 (by decide +kernel)).trans v32
  have v34 : zEq (η3 0 19) (η 0 19) := (k4.1.2.2.2.1 0 19 (by decide +kernel)).trans v33
  have v35 : zEq (η4 0 19) (η 0 19) := (k5.1.2.2.2.1 0 19 (by decide +kernel)).trans v34
  have f0_19 : η4 0 19 = η 0 19 := v35
  have w4_0_44 : (0 : Int) ≤ η4 0 44 ∧ η4 0 44 ≤ 64 := wf_ok (a := 44) (b := 44) (z := (0, 64)) k5.1.1 (by decide +kernel) (Nat.le_refl _) (Nat.le_refl _)
  have f0_44 : η4 0 44 = η4 0 44 := rfl
  have w0_0_7 : (0 : Int) ≤ η 0 7 ∧ η 0 7 ≤ 700 := wf_ok (a := 7) (b := 7) (z := (0, 700)) hp.1 (by decide +kernel) (Nat.le_refl _) (Nat.le_refl _)
  have v38 : zEq (η1 0 7) (η 0 7) := (k1.1.2.2.2.1 0 7 (by decide +kernel)).trans rfl
  have v39 : zEq (η2 0 7) (η 0 7) := (k2.1.2.2.2.1 0 7 (by decide +kernel)).trans v38
  have v40 : zEq (η3 0 7) (η 0 7) := (k4.1.2.2.2.1 0 7 (by decide +kernel)).trans v39
  have v41 : zEq (η4 0 7) (η 0 7) := (k5.1.2.2.2.1 0 7 (by decide +kernel)).trans v40
  have f0_7 : η4 0 7 = η 0 7 := v41
  have w0_0_6 : (0 : Int) ≤ η 0 6 ∧ η 0 6 ≤ 700 := wf_ok (a := 6) (b := 6) (z := (0, 700)) hp.1 (by decide +kernel) (Nat.le_refl _) (Nat.le_refl _)
  have v43 : zEq (η1 0 6) (η 0 6) := (k1.1.2.2.2.1 0 6 (by decide +kernel)).trans rfl
  have v44 : zEq (η2 0 6) (η 0 6) := (k2.1.2.2.2.1 0 6 (by decide +kernel)).trans v43
  have v45 : zEq (η3 0 6) (η 0 6) := (k4.1.2.2.2.1 0 6 (by decide +kernel)).trans v44
  have v46 : zEq (η4 0 6) (η 0 6) := (k5.1.2.2.2.1 0 6 (by decide +kernel)).trans v45
  have f0_6 : η4 0 6 = η 0 6 := v46
  have v47 : zEq (η4 0 8) (η 0 8) := (k5.1.2.2.2.1 0 8 (by decide +kernel)).trans v6
  have f0_8 : η4 0 8 = η 0 8 := v47
  have wbE : wB wl_le zTr η4 := wb4
  
  have I0 : H_l 0 0 0 η := hpp.1
  have I1 : H_l 0 0 0 η1 := k1.2.1
  have I2 : H_l 0 0 0 η2 := k2.2.1
  have qk2 : η1 0 8 = 1 := k2.2.2 c2
  have I3 : H_l 0 0 0 η3 := k4.2.1
  have qk4 : η2 0 8 = 1 := k4.2.2 c4
  have I4 : H_l 1 0 0 η4 := k5.2.1 c6
  obtain ⟨j1, j2, j3, j4⟩ := I4.2
  have cn := cz_n (η := η4) (η4 0 41).toNat
  exact ⟨Or.inl I4, ⟨fun _ => ⟨show 0 ≤ x4 by omega, show x4 ≤ 6 by omega⟩, fun _ w => absurd rfl w, fun _ w => absurd rfl w⟩, show 0 ≤ η4 0 42 by omega, show η4 0 42 ≤ 95 by omega⟩
set_option maxHeartbeats 8000000 in
theorem zle_leafRead_o20 {ro : Nat → List Int32} (η : zE) (hp : sP wl_le zTr zPle_leafRead [] η) (hpp : pPle_leafRead [] η) : ∀ (x1 : Int) (η1 : zE), ((gC2 wl_le [(nat_lit 0, zPle_isSign, zOle_isSign, zMle_isSign), (nat_lit 1, zPle_wrong, zOle_wrong, zMle_wrong), (nat_lit 2, zPle_waitsFor0, zOle_waitsFor0, zMle_waitsFor0), (nat_lit 3, zPle_token, zOle_token, zMle_token), (nat_lit 4, zPle_isKey, zOle_isKey, zMle_isKey), (nat_lit 5, zPle_isCounted, zOle_isCounted, zMle_isCounted), (nat_lit 6, zPle_waitsFor2, zOle_waitsFor2, zMle_waitsFor2), (nat_lit 7, zPle_nameMet, zOle_nameMet, zMle_nameMet), (nat_lit 8, zPle_grown, zOle_grown, zMle_grown)] pCle_leafRead qCle_leafRead) 0).2 [40] η x1 η1 → (x1 = 0) → ∀ (x2 : Int) (η2 : zE), ((gC2 wl_le [(nat_lit 0, zPle_isSign, zOle_isSign, zMle_isSign), (nat_lit 1, zPle_wrong, zOle_wrong, zMle_wrong), (nat_lit 2, zPle_waitsFor0, zOle_waitsFor0, zMle_waitsFor0), (nat_lit 3, zPle_token, zOle_token, zMle_token), (nat_lit 4, zPle_isKey, zOle_isKey, zMle_isKey), (nat_lit 5, zPle_isCounted, zOle_isCounted, zMle_isCounted), (nat_lit 6, zPle_waitsFor2, zOle_waitsFor2, zMle_waitsFor2), (nat_lit 7, zPle_nameMet, zOle_nameMet, zMle_nameMet), (nat_lit 8, zPle_grown, zOle_grown, zMle_grown)] pCle_leafRead qCle_leafRead) 4).2 [12] η1 x2 η2 → (¬ x2 = 0) → ∀ x3 : Int, x3 = η2 0 (Int.toNat 46) → zok 1 x3 → (x3 = 0) → ∀ (x4 : Int) (η3 : zE), ((gC2 wl_le [(nat_lit 0, zPle_isSign, zOle_isSign, zMle_isSign), (nat_lit 1, zPle_wrong, zOle_wrong, zMle_wrong), (nat_lit 2, zPle_waitsFor0, zOle_waitsFor0, zMle_waitsFor0), (nat_lit 3, zPle_token, zOle_token, zMle_token), (nat_lit 4, zPle_isKey, zOle_isKey, zMle_isKey), (nat_lit 5, zPle_isCounted, zOle_isCounted, zMle_isCounted), (nat_lit 6, zPle_waitsFor2, zOle_waitsFor2, zMle_waitsFor2), (nat_lit 7, zPle_nameMet, zOle_nameMet, zMle_nameMet), (nat_lit 8, zPle_grown, zOle_grown, zMle_grown)] pCle_leafRead qCle_leafRead) 7).2 [] η2 x4 η3 → (0 ≤ x4) → (0 ≤ x4) → ∀ (x5 : Int) (η4 : zE), ((gC2 wl_le [(nat_lit 0, zPle_isSign, zOle_isSign, zMle_isSign), (nat_lit 1, zPle_wrong, zOle_wrong, zMle_wrong), (nat_lit 2, zPle_waitsFor0, zOle_waitsFor0, zMle_waitsFor0), (nat_lit 3, zPle_token, zOle_token, zMle_token), (nat_lit 4, zPle_isKey, zOle_isKey, zMle_isKey), (nat_lit 5, zPle_isCounted, zOle_isCounted, zMle_isCounted), (nat_lit 6, zPle_waitsFor2, zOle_waitsFor2, zMle_waitsFor2), (nat_lit 7, zPle_nameMet, zOle_nameMet, zMle_nameMet), (nat_lit 8, zPle_grown, zOle_grown, zMle_grown)] pCle_leafRead qCle_leafRead) 5).2 [] η3 x5 η4 → (¬ x5 = 0) → (0 ≤ x4) → (0 ≤ x4) → ∀ (x6 : Int) (η5 : zE), ((gC2 wl_le [(nat_lit 0, zPle_isSign, zOle_isSign, zMle_isSign), (nat_lit 1, zPle_wrong, zOle_wrong, zMle_wrong), (nat_lit 2, zPle_waitsFor0, zOle_waitsFor0, zMle_waitsFor0), (nat_lit 3, zPle_token, zOle_token, zMle_token), (nat_lit 4, zPle_isKey, zOle_isKey, zMle_isKey), (nat_lit 5, zPle_isCounted, zOle_isCounted, zMle_isCounted), (nat_lit 6, zPle_waitsFor2, zOle_waitsFor2, zMle_waitsFor2), (nat_lit 7, zPle_nameMet, zOle_nameMet, zMle_nameMet), (nat_lit 8, zPle_grown, zOle_grown, zMle_grown)] pCle_leafRead qCle_leafRead) 8).2 [1, x4, 0] η4 x6 η5 → ∀ η6 : zE, η6 = zup η5 0 (Int.toNat 45) 0 → ((gC2 wl_le [(nat_lit 0, zPle_isSign, zOle_isSign, zMle_isSign), (nat_lit 1, zPle_wrong, zOle_wrong, zMle_wrong), (nat_lit 2, zPle_waitsFor0, zOle_waitsFor0, zMle_waitsFor0), (nat_lit 3, zPle_token, zOle_token, zMle_token), (nat_lit 4, zPle_isKey, zOle_isKey, zMle_isKey), (nat_lit 5, zPle_isCounted, zOle_isCounted, zMle_isCounted), (nat_lit 6, zPle_waitsFor2, zOle_waitsFor2, zMle_waitsFor2), (nat_lit 7, zPle_nameMet, zOle_nameMet, zMle_nameMet), (nat_lit 8, zPle_grown, zOle_grown, zMle_grown)] pCle_leafRead qCle_leafRead) 3).1 [] η6 := by
  have hw : η 0 45 = 1 := hpp.2
  have hs : η 0 7 ≤ η 0 6 := hpp.1.1.1.1
  have bd43 : (0 : Int) ≤ η 0 43 ∧ η 0 43 ≤ 8 := wf_ok (a := 43) (b := 43) (z := (0, 8)) hp.1 (by decide +kernel) (Nat.le_refl _) (Nat.le_refl _)
  have bd44 : (0 : Int) ≤ η 0 44 ∧ η 0 44 ≤ 64 := wf_ok (a := 44) (b := 44) (z := (0, 64)) hp.1 (by decide +kernel) (Nat.le_refl _) (Nat.le_refl _)
  have bd19 : (0 : Int) ≤ η 0 19 ∧ η 0 19 ≤ 64 := wf_ok (a := 19) (b := 19) (z := (0, 64)) hp.1 (by decide +kernel) (Nat.le_refl _) (Nat.le_refl _)
  intro x1 η1 h1 c1 x2 η2 h2 c2 x3 e3 r3 c3 x4 η3 h4 c4 c5 x5 η4 h5 c6 c7 c8 x6 η5 h6 η6 eη6
  have y1 : fQle_isSign [40] η x1 η1 := h1.2.2
  have k1 : sQ wl_le zTr zOle_isSign zMle_isSign [40] η x1 η1 ∧ oQle_isSign [40] η x1 η1 := ⟨h1.1, h1.2.1⟩
  have y2 : fQle_isKey [12] η1 x2 η2 := h2.2.2
  have k2 : sQ wl_le zTr zOle_isKey zMle_isKey [12] η1 x2 η2 ∧ oQle_isKey [12] η1 x2 η2 := ⟨h2.1, h2.2.1⟩
  have y4 : fQle_nameMet [] η2 x4 η3 := h4.2.2
  have k4 : sQ wl_le zTr zOle_nameMet zMle_nameMet [] η2 x4 η3 ∧ oQle_nameMet [] η2 x4 η3 := ⟨h4.1, h4.2.1⟩
  have y5 : fQle_isCounted [] η3 x5 η4 := h5.2.2
  have k5 : sQ wl_le zTr zOle_isCounted zMle_isCounted [] η3 x5 η4 ∧ oQle_isCounted [] η3 x5 η4 := ⟨h5.1, h5.2.1⟩
  have y6 : fQle_grown [1, x4, 0] η4 x6 η5 := h6.2.2
  have k6 : sQ wl_le zTr zOle_grown zMle_grown [1, x4, 0] η4 x6 η5 ∧ oQle_grown [1, x4, 0] η4 x6 η5 := ⟨h6.1, h6.2.1⟩
  have w0_0_8 : (0 : Int) ≤ η 0 8 ∧ η 0 8 ≤ 6 := wf_ok (a := 8) (b := 8) (z := (0, 6)) hp.1 (by decide +kernel) (Nat.le_refl _) (Nat.le_refl _)
  have c0_0_8 : η 0 8 = η 0 8 := rfl
  have wb1 : wB wl_le zTr η1 := k1.1.1
  have bx1 : (0 : Int) ≤ x1 ∧ x1 ≤ 1 := k1.1.2.1
  have v1 : zEq (η1 0 8) (η 0 8) := (k1.1.2.2.2.1 0 8 (by decide +kernel)).trans rfl
  have c1_0_8 : η1 0 8 = η 0 8 := v1
  have wb2 : wB wl_le zTr η2 := k2.1.1
  have bx2 : (0 : Int) ≤ x2 ∧ x2 ≤ 1 := k2.1.2.1
  have v3 : zEq (η1 0 46) (η 0 46) := (k1.1.2.2.2.1 0 46 (by decide +kernel)).trans rfl
  have v4 : zEq (η2 0 46) (η 0 46) := (k2.1.2.2.2.1 0 46 (by decide +kernel)).trans v3
  replace e3 : x3 = η 0 46 := e3.trans v4
  replace r3 : 0 ≤ x3 ∧ x3 ≤ 1 := r3
  have v5 : zEq (η2 0 8) (η 0 8) := (k2.1.2.2.2.1 0 8 (by decide +kernel)).trans v1
  have c2_0_8 : η2 0 8 = η 0 8 := v5
  have wb3 : wB wl_le zTr η3 := k4.1.1
  have bx4 : ((-1) : Int) ≤ x4 ∧ x4 ≤ 6 := k4.1.2.1
  have v6 : zEq (η3 0 8) (η 0 8) := (k4.1.2.2.2.1 0 8 (by decide +kernel)).trans v5
  have c3_0_8 : η3 0 8 = η 0 8 := v6
  have wb4 : wB wl_le zTr η4 := k5.1.1
  have bx5 : (0 : Int) ≤ x5 ∧ x5 ≤ 1 := k5.1.2.1
  have v7 : zEq (η4 0 8) (η 0 8) := (k5.1.2.2.2.1 0 8 (by decide +kernel)).trans v6
  have c4_0_8 : η4 0 8 = η 0 8 := v7
  have w0_0_19 : (0 : Int) ≤ η 0 19 ∧ η 0 19 ≤ 64 := wf_ok (a := 19) (b := 19) (z := (0, 64)) hp.1 (by decide +kernel) (Nat.le_refl _) (Nat.le_refl _)
  have v9 : zEq (η1 0 19) (η 0 19) := (k1.1.2.2.2.1 0 19 (by decide +kernel)).trans rfl
  have v10 : zEq (η2 0 19) (η 0 19) := (k2.1.2.2.2.1 0 19 (by decide +kernel)).trans v9
  have v11 : zEq (η3 0 19) (η 0 19) := (k4.1.2.2.2.1 0 19 (by decide +kernel)).trans v10
  have v12 : zEq (η4 0 19) (η 0 19) := (k5.1.2.2.2.1 0 19 (by decide +kernel)).trans v11
  have c4_0_19 : η4 0 19 = η 0 19 := v12
  have wb5 : wB wl_le zTr η5 := k6.1.1
  have bx6 : (0 : Int) ≤ x6 ∧ x6 ≤ 0 := k6.1.2.1
  have v14 : zEq (η1 0 45) (η 0 45) := (k1.1.2.2.2.1 0 45 (by decide +kernel)).trans rfl
  have v15 : zEq (η2 0 45) (η 0 45) := (k2.1.2.2.2.1 0 45 (by decide +kernel)).trans v14
  have v16 : zEq (η3 0 45) (η 0 45) := (k4.1.2.2.2.1 0 45 (by decide +kernel)).trans v15
  have v17 : zEq (η4 0 45) (η 0 45) := (k5.1.2.2.2.1 0 45 (by decide +kernel)).trans v16
  have v18 : zEq (η5 0 45) (η 0 45) := (k6.1.2.2.2.1 0 45 (by decide +kernel)).trans v17
  have c5_0_45 : η5 0 45 = η 0 45 := v18
  have wb6 : wB wl_le zTr η6 := by rw [eη6]; exact wk_ok (a := 45) (b := 45) (z := ((-2147483648), 2147483647)) zTr_k (GR := []) wb5 (by decide +kernel) (by decide) (by decide) (show ((-2147483648) : Int) ≤ 0 by omega) (show 0 ≤ (2147483647 : Int) by omega)
  have fm1 : zFm zMle_leafRead η η1 := zFm_tr2 zFm_rf k1.1.2.2.2.1 (by decide +kernel)
  have fm2 : zFm zMle_leafRead η η2 := zFm_tr2 fm1 k2.1.2.2.2.1 (by decide +kernel)
  have fm3 : zFm zMle_leafRead η η3 := zFm_tr2 fm2 k4.1.2.2.2.1 (by decide +kernel)
  have fm4 : zFm zMle_leafRead η η4 := zFm_tr2 fm3 k5.1.2.2.2.1 (by decide +kernel)
  have fm5 : zFm zMle_leafRead η η5 := zFm_tr2 fm4 k6.1.2.2.2.1 (by decide +kernel)
  have fm6 : zFm zMle_leafRead η η6 := by rw [eη6]; exact zFm_up fm5 rfl
  have fmE : zFm zMle_leafRead η η6 := fm6
  have fr22_0 : ∀ j, η 22 j = η 22 j := fun _ => rfl
  have v19 : ∀ j, η1 22 j = η 22 j := fun j => k1.1.2.2.2.1 22 _ (zinr_not (by decide +kernel))
  have fr22_1 : ∀ j, η1 22 j = η 22 j := v19
  have v20 : ∀ j, η2 22 j = η 22 j := fun j => (k2.1.2.2.2.1 22 _ (zinr_not (by decide +kernel))).trans (v19 j)
  have fr22_2 : ∀ j, η2 22 j = η 22 j := v20
  have v21 : ∀ j, η3 22 j = η 22 j := fun j => (k4.1.2.2.2.1 22 _ (zinr_not (by decide +kernel))).trans (v20 j)
  have fr22_3 : ∀ j, η3 22 j = η 22 j := v21
  have v22 : ∀ j, η4 22 j = η 22 j := fun j => (k5.1.2.2.2.1 22 _ (zinr_not (by decide +kernel))).trans (v21 j)
  have fr22_4 : ∀ j, η4 22 j = η 22 j := v22
  have v23 : ∀ j, η5 22 j = η 22 j := fun j => (k6.1.2.2.2.1 22 _ (zinr_not (by decide +kernel))).trans (v22 j)
  have fr22_5 : ∀ j, η5 22 j = η 22 j := v23
  have v24 : ∀ j, η6 22 j = η 22 j := fun j => by rw [eη6]; exact (zup_ne (fun e _ => absurd e (by decide))).trans (v23 j)
  have fr22_6 : ∀ j, η6 22 j = η 22 j := v24
  have fr22 : ∀ j, η6 22 j = η 22 j := v24
  have v26 : zEq (η1 0 41) (η 0 41) := (k1.1.2.2.2.1 0 41 (by decide +kernel)).trans rfl
  have v27 : zEq (η2 0 41) (η 0 41) := (k2.1.2.2.2.1 0 41 (by decide +kernel)).trans v26
  have v28 : zEq (η3 0 41) (η 0 41) := (k4.1.2.2.2.1 0 41 (by decide +kernel)).trans v27
  have v29 : zEq (η4 0 41) (η 0 41) := (k5.1.2.2.2.1 0 41 (by decide +kernel)).trans v28
  have v30 : zEq (η5 0 41) (η 0 41) := (k6.1.2.2.2.1 0 41 (by decide +kernel)).trans v29
  have v31 : zEq (η6 0 41) (η 0 41) := by rw [eη6]; exact (zup_ne (fun _ e => absurd e (by decide))).trans v30
  have f0_41 : η6 0 41 = η 0 41 := v31
  have w0_0_43 : (0 : Int) ≤ η 0 43 ∧ η 0 43 ≤ 8 := wf_ok (a := 43) (b := 43) (z := (0, 8)) hp.1 (by decide +kernel) (Nat.le_refl _) (Nat.le_refl _)
  have v33 : zEq (η1 0 43) (η 0 43) := (k1.1.2.2.2.1 0 43 (by decide +kernel)).trans rfl
  have v34 : zEq (η2 0 43) (η 0 43) := (k2.1.2.2.2.1 0 43 (by decide +kernel)).trans v33
  have v35 : zEq (η3 0 43) (η 0 43) := (k4.1.2.2.2.1 0 43 (by decide +kernel)).trans v34
  have v36 : zEq (η4 0 43) (η 0 43) := (k5.1.2.2.2.1 0 43 (by decide +kernel)).trans v35
  have v37 : zEq (η5 0 43) (η 0 43) := (k6.1.2.2.2.1 0 43 (by decide +kernel)).trans v36
  have v38 : zEq (η6 0 43) (η 0 43) := by rw [eη6]; exact (zup_ne (fun _ e => absurd e (by decide))).trans v37
  have f0_43 : η6 0 43 = η 0 43 := v38
  have v40 : zEq (η6 0 42) (η5 0 42) := by rw [eη6]; exact (zup_ne (fun _ e => absurd e (by decide))).trans rfl
  have f0_42 : η6 0 42 = η5 0 42 := v40
  have v41 : zEq (η6 0 45) (0) := by rw [eη6]; exact zup_eq
  have f0_45 : η6 0 45 = 0 := v41
  have w5_0_19 : (0 : Int) ≤ η5 0 19 ∧ η5 0 19 ≤ 64 := wf_ok (a := 19) (b := 19) (z := (0, 64)) k6.1.1 (by decide +kernel) (Nat.le_refl _) (Nat.le_refl _)
  have v43 : zEq (η6 0 19) (η5 0 19) := by rw [eη6]; exact (zup_ne (fun _ e => absurd e (by decide))).trans rfl
  have f0_19 : η6 0 19 = η5 0 19 := v43
  have w4_0_44 : (0 : Int) ≤ η4 0 44 ∧ η4 0 44 ≤ 64 := wf_ok (a := 44) (b := 44) (z := (0, 64)) k5.1.1 (by decide +kernel) (Nat.le_refl _) (Nat.le_refl _)
  have v45 : zEq (η5 0 44) (η4 0 44) := (k6.1.2.2.2.1 0 44 (by decide +kernel)).trans rfl
  have v46 : zEq (η6 0 44) (η4 0 44) := by rw [eη6]; exact (zup_ne (fun _ e => absurd e (by decide))).trans v45
  have f0_44 : η6 0 44 = η4 0 44 := v46
  have w0_0_7 : (0 : Int) ≤ η 0 7 ∧ η 0 7 ≤ 700 := wf_ok (a := 7) (b := 7) (z := (0, 700)) hp.1 (by decide +kernel) (Nat.le_refl _) (Nat.le_refl _)
  have v48 : zEq (η1 0 7) (η 0 7) := (k1.1.2.2.2.1 0 7 (by decide +kernel)).trans rfl
  have v49 : zEq (η2 0 7) (η 0 7) := (k2.1.2.2.2.1 0 7 (by decide +kernel)).trans v48
  have v50 : zEq (η3 0 7) (η 0 7) := (k4.1.2.2.2.1 0 7 (by decide +kernel)).trans v49
  have v51 : zEq (η4 0 7) (η 0 7) := (k5.1.2.2.2.1 0 7 (by decide +kernel)).trans v50
  have v52 : zEq (η5 0 7) (η 0 7) := (k6.1.2.2.2.1 0 7 (by decide +kernel)).trans v51
  have v53 : zEq (η6 0 7) (η 0 7) := by rw [eη6]; exact (zup_ne (fun _ e => absurd e (by decide))).trans v52
  have f0_7 : η6 0 7 = η 0 7 := v53
  have w0_0_6 : (0 : Int) ≤ η 0 6 ∧ η 0 6 ≤ 700 := wf_ok (a := 6) (b := 6) (z := (0, 700)) hp.1 (by decide +kernel) (Nat.le_refl _) (Nat.le_refl _)
  have v55 : zEq (η1 0 6) (η 0 6) := (k1.1.2.2.2.1 0 6 (by decide +kernel)).trans rfl
  have v56 : zEq (η2 0 6) (η 0 6) := (k2.1.2.2.2.1 0 6 (by decide +kernel)).trans v55
  have v57 : zEq (η3 0 6) (η 0 6) := (k4.1.2.2.2.1 0 6 (by decide +kernel)).trans v56
  have v58 : zEq (η4 0 6) (η 0 6) := (k5.1.2.2.2.1 0 6 (by decide +kernel)).trans v57
  have v59 : zEq (η5 0 6) (η 0 6) := (k6.1.2.2.2.1 0 6 (by decide +kernel)).trans v58
  have v60 : zEq (η6 0 6) (η 0 6) := by rw [eη6]; exact (zup_ne (fun _ e => absurd e (by decide))).trans v59
  have f0_6 : η6 0 6 = η 0 6 := v60
  have v61 : zEq (η5 0 8) (η 0 8) := (k6.1.2.2.2.1 0 8 (by decide +kernel)).trans v7
  have v62 : zEq (η6 0 8) (η 0 8) := by rw [eη6]; exact (zup_ne (fun _ e => absurd e (by decide))).trans v61
  have f0_8 : η6 0 8 = η 0 8 := v62
  have wbE : wB wl_le zTr η6 := wb6
  
  have I0 : H_l 0 0 0 η := hpp.1
  have I1 : H_l 0 0 0 η1 := k1.2.1
  have I2 : H_l 0 0 0 η2 := k2.2.1
  have qk2 : η1 0 8 = 1 := k2.2.2 c2
  have I3 : H_l 0 0 0 η3 := k4.2.1
  have qk4 : η2 0 8 = 1 := k4.2.2 c4
  have I4 : H_l 1 0 0 η4 := k5.2.1 c6
  have I5 : H_l 0 0 1 η5 := k6.2.1 I4
  have qg6 : η5 0 19 = η4 0 19 + 1 := k6.2.2.2
  have I6 : H_l 0 0 0 η6 := by rw [eη6]; exact h_eq (wn_up I5) rfl rfl (by apply Int.le_antisymm <;> omega)
  exact I6
set_option maxHeartbeats 8000000 in
theorem zle_leafRead_o21 {ro : Nat → List Int32} (η : zE) (hp : sP wl_le zTr zPle_leafRead [] η) (hpp : pPle_leafRead [] η) : ∀ (x1 : Int) (η1 : zE), ((gC2 wl_le [(nat_lit 0, zPle_isSign, zOle_isSign, zMle_isSign), (nat_lit 1, zPle_wrong, zOle_wrong, zMle_wrong), (nat_lit 2, zPle_waitsFor0, zOle_waitsFor0, zMle_waitsFor0), (nat_lit 3, zPle_token, zOle_token, zMle_token), (nat_lit 4, zPle_isKey, zOle_isKey, zMle_isKey), (nat_lit 5, zPle_isCounted, zOle_isCounted, zMle_isCounted), (nat_lit 6, zPle_waitsFor2, zOle_waitsFor2, zMle_waitsFor2), (nat_lit 7, zPle_nameMet, zOle_nameMet, zMle_nameMet), (nat_lit 8, zPle_grown, zOle_grown, zMle_grown)] pCle_leafRead qCle_leafRead) 0).2 [40] η x1 η1 → (x1 = 0) → ∀ (x2 : Int) (η2 : zE), ((gC2 wl_le [(nat_lit 0, zPle_isSign, zOle_isSign, zMle_isSign), (nat_lit 1, zPle_wrong, zOle_wrong, zMle_wrong), (nat_lit 2, zPle_waitsFor0, zOle_waitsFor0, zMle_waitsFor0), (nat_lit 3, zPle_token, zOle_token, zMle_token), (nat_lit 4, zPle_isKey, zOle_isKey, zMle_isKey), (nat_lit 5, zPle_isCounted, zOle_isCounted, zMle_isCounted), (nat_lit 6, zPle_waitsFor2, zOle_waitsFor2, zMle_waitsFor2), (nat_lit 7, zPle_nameMet, zOle_nameMet, zMle_nameMet), (nat_lit 8, zPle_grown, zOle_grown, zMle_grown)] pCle_leafRead qCle_leafRead) 4).2 [12] η1 x2 η2 → (¬ x2 = 0) → ∀ x3 : Int, x3 = η2 0 (Int.toNat 46) → zok 1 x3 → (x3 = 0) → ∀ (x4 : Int) (η3 : zE), ((gC2 wl_le [(nat_lit 0, zPle_isSign, zOle_isSign, zMle_isSign), (nat_lit 1, zPle_wrong, zOle_wrong, zMle_wrong), (nat_lit 2, zPle_waitsFor0, zOle_waitsFor0, zMle_waitsFor0), (nat_lit 3, zPle_token, zOle_token, zMle_token), (nat_lit 4, zPle_isKey, zOle_isKey, zMle_isKey), (nat_lit 5, zPle_isCounted, zOle_isCounted, zMle_isCounted), (nat_lit 6, zPle_waitsFor2, zOle_waitsFor2, zMle_waitsFor2), (nat_lit 7, zPle_nameMet, zOle_nameMet, zMle_nameMet), (nat_lit 8, zPle_grown, zOle_grown, zMle_grown)] pCle_leafRead qCle_leafRead) 7).2 [] η2 x4 η3 → (0 ≤ x4) → (0 ≤ x4) → ∀ (x5 : Int) (η4 : zE), ((gC2 wl_le [(nat_lit 0, zPle_isSign, zOle_isSign, zMle_isSign), (nat_lit 1, zPle_wrong, zOle_wrong, zMle_wrong), (nat_lit 2, zPle_waitsFor0, zOle_waitsFor0, zMle_waitsFor0), (nat_lit 3, zPle_token, zOle_token, zMle_token), (nat_lit 4, zPle_isKey, zOle_isKey, zMle_isKey), (nat_lit 5, zPle_isCounted, zOle_isCounted, zMle_isCounted), (nat_lit 6, zPle_waitsFor2, zOle_waitsFor2, zMle_waitsFor2), (nat_lit 7, zPle_nameMet, zOle_nameMet, zMle_nameMet), (nat_lit 8, zPle_grown, zOle_grown, zMle_grown)] pCle_leafRead qCle_leafRead) 5).2 [] η3 x5 η4 → (¬ x5 = 0) → (0 ≤ x4) → (0 ≤ x4) → ∀ (x6 : Int) (η5 : zE), ((gC2 wl_le [(nat_lit 0, zPle_isSign, zOle_isSign, zMle_isSign), (nat_lit 1, zPle_wrong, zOle_wrong, zMle_wrong), (nat_lit 2, zPle_waitsFor0, zOle_waitsFor0, zMle_waitsFor0), (nat_lit 3, zPle_token, zOle_token, zMle_token), (nat_lit 4, zPle_isKey, zOle_isKey, zMle_isKey), (nat_lit 5, zPle_isCounted, zOle_isCounted, zMle_isCounted), (nat_lit 6, zPle_waitsFor2, zOle_waitsFor2, zMle_waitsFor2), (nat_lit 7, zPle_nameMet, zOle_nameMet, zMle_nameMet), (nat_lit 8, zPle_grown, zOle_grown, zMle_grown)] pCle_leafRead qCle_leafRead) 8).2 [1, x4, 0] η4 x6 η5 → ∀ η6 : zE, η6 = zup η5 0 (Int.toNat 45) 0 → ∀ (x7 : Int) (η7 : zE), ((gC2 wl_le [(nat_lit 0, zPle_isSign, zOle_isSign, zMle_isSign), (nat_lit 1, zPle_wrong, zOle_wrong, zMle_wrong), (nat_lit 2, zPle_waitsFor0, zOle_waitsFor0, zMle_waitsFor0), (nat_lit 3, zPle_token, zOle_token, zMle_token), (nat_lit 4, zPle_isKey, zOle_isKey, zMle_isKey), (nat_lit 5, zPle_isCounted, zOle_isCounted, zMle_isCounted), (nat_lit 6, zPle_waitsFor2, zOle_waitsFor2, zMle_waitsFor2), (nat_lit 7, zPle_nameMet, zOle_nameMet, zMle_nameMet), (nat_lit 8, zPle_grown, zOle_grown, zMle_grown)] pCle_leafRead qCle_leafRead) 3).2 [] η6 x7 η7 → (fun (_ : Nat) (y : Int) (η' : zE) => pQle_leafRead [] η y η') 0 1 η7 := by
  intro x1 η1 h1 c1 x2 η2 h2 c2 x3 e3 r3 c3 x4 η3 h4 c4 c5 x5 η4 h5 c6 c7 c8 x6 η5 h6 η6 eη6 x7 η7 h7
  have y1 : fQle_isSign [40] η x1 η1 := h1.2.2
  have k1 : sQ wl_le zTr zOle_isSign zMle_isSign [40] η x1 η1 ∧ oQle_isSign [40] η x1 η1 := ⟨h1.1, h1.2.1⟩
  have y2 : fQle_isKey [12] η1 x2 η2 := h2.2.2
  have k2 : sQ wl_le zTr zOle_isKey zMle_isKey [12] η1 x2 η2 ∧ oQle_isKey [12] η1 x2 η2 := ⟨h2.1, h2.2.1⟩
  have y4 : fQle_nameMet [] η2 x4 η3 := h4.2.2
  have k4 : sQ wl_le zTr zOle_nameMet zMle_nameMet [] η2 x4 η3 ∧ oQle_nameMet [] η2 x4 η3 := ⟨h4.1, h4.2.1⟩
  have y5 : fQle_isCounted [] η3 x5 η4 := h5.2.2
  have k5 : sQ wl_le zTr zOle_isCounted zMle_isCounted [] η3 x5 η4 ∧ oQle_isCounted [] η3 x5 η4 := ⟨h5.1, h5.2.1⟩
  have y6 : fQle_grown [1, x4, 0] η4 x6 η5 := h6.2.2
  have k6 : sQ wl_le zTr zOle_grown zMle_grown [1, x4, 0] η4 x6 η5 ∧ oQle_grown [1, x4, 0] η4 x6 η5 := ⟨h6.1, h6.2.1⟩
  have y7 : fQle_token [] η6 x7 η7 := h7.2.2
  have k7 : sQ wl_le zTr zOle_token zMle_token [] η6 x7 η7 ∧ oQle_token [] η6 x7 η7 := ⟨h7.1, h7.2.1⟩
  refine yj_a ?_ ?_
  · have hw : η 0 45 = 1 := hpp.2
    have hs : η 0 7 ≤ η 0 6 := hpp.1.1.1.1
    have bd43 : (0 : Int) ≤ η 0 43 ∧ η 0 43 ≤ 8 := wf_ok (a := 43) (b := 43) (z := (0, 8)) hp.1 (by decide +kernel) (Nat.le_refl _) (Nat.le_refl _)
    have bd44 : (0 : Int) ≤ η 0 44 ∧ η 0 44 ≤ 64 := wf_ok (a := 44) (b := 44) (z := (0, 64)) hp.1 (by decide +kernel) (Nat.le_refl _) (Nat.le_refl _)
    have bd19 : (0 : Int) ≤ η 0 19 ∧ η 0 19 ≤ 64 := wf_ok (a := 19) (b := 19) (z := (0, 64)) hp.1 (by decide +kernel) (Nat.le_refl _) (Nat.le_refl _)
    have y1 : fQle_isSign [40] η x1 η1 := h1.2.2
    have k1 : sQ wl_le zTr zOle_isSign zMle_isSign [40] η x1 η1 ∧ oQle_isSign [40] η x1 η1 := ⟨h1.1, h1.2.1⟩
    have y2 : fQle_isKey [12] η1 x2 η2 := h2.2.2
    have k2 : sQ wl_le zTr zOle_isKey zMle_isKey [12] η1 x2 η2 ∧ oQle_isKey [12] η1 x2 η2 := ⟨h2.1, h2.2.1⟩
    have y4 : fQle_nameMet [] η2 x4 η3 := h4.2.2
    have k4 : sQ wl_le zTr zOle_nameMet zMle_nameMet [] η2 x4 η3 ∧ oQle_nameMet [] η2 x4 η3 := ⟨h4.1, h4.2.1⟩
    have y5 : fQle_isCounted [] η3 x5 η4 := h5.2.2
    have k5 : sQ wl_le zTr zOle_isCounted zMle_isCounted [] η3 x5 η4 ∧ oQle_isCounted [] η3 x5 η4 := ⟨h5.1, h5.2.1⟩
    have y6 : fQle_grown [1, x4, 0] η4 x6 η5 := h6.2.2
    have k6 : sQ wl_le zTr zOle_grown zMle_grown [1, x4, 0] η4 x6 η5 ∧ oQle_grown [1, x4, 0] η4 x6 η5 := ⟨h6.1, h6.2.1⟩
    have y7 : fQle_token [] η6 x7 η7 := h7.2.2
    have k7 : sQ wl_le zTr zOle_token zMle_token [] η6 x7 η7 ∧ oQle_token [] η6 x7 η7 := ⟨h7.1, h7.2.1⟩
    have w0_0_8 : (0 : Int) ≤ η 0 8 ∧ η 0 8 ≤ 6 := wf_ok (a := 8) (b := 8) (z := (0, 6)) hp.1 (by decide +kernel) (Nat.le_refl _) (Nat.le_refl _)
    have c0_0_8 : η 0 8 = η 0 8 := rfl
    have wb1 : wB wl_le zTr η1 := k1.1.1
    have bx1 : (0 : Int) ≤ x1 ∧ x1 ≤ 1 := k1.1.2.1
    have v1 : zEq (η1 0 8) (η 0 8) := (k1.1.2.2.2.1 0 8 (by decide +kernel)).trans rfl
    have c1_0_8 : η1 0 8 = η 0 8 := v1
    have wb2 : wB wl_le zTr η2 := k2.1.1
    have bx2 : (0 : Int) ≤ x2 ∧ x2 ≤ 1 := k2.1.2.1
    have v3 : zEq (η1 0 46) (η 0 46) := (k1.1.2.2.2.1 0 46 (by decide +kernel)).trans rfl
    have v4 : zEq (η2 0 46) (η 0 46) := (k2.1.2.2.2.1 0 46 (by decide +kernel)).trans v3
    replace e3 : x3 = η 0 46 := e3.trans v4
    replace r3 : 0 ≤ x3 ∧ x3 ≤ 1 := r3
    have v5 : zEq (η2 0 8) (η 0 8) := (k2.1.2.2.2.1 0 8 (by decide +kernel)).trans v1
    have c2_0_8 : η2 0 8 = η 0 8 := v5
    have wb3 : wB wl_le zTr η3 := k4.1.1
    have bx4 : ((-1) : Int) ≤ x4 ∧ x4 ≤ 6 := k4.1.2.1
    have v6 : zEq (η3 0 8) (η 0 8) := (k4.1.2.2.2.1 0 8 (by decide +kernel)).trans v5
    have c3_0_8 : η3 0 8 = η 0 8 := v6
    have wb4 : wB wl_le zTr η4 := k5.1.1
    have bx5 : (0 : Int) ≤ x5 ∧ x5 ≤ 1 := k5.1.2.1
    have v7 : zEq (η4 0 8) (η 0 8) := (k5.1.2.2.2.1 0 8 (by decide +kernel)).trans v6
    have c4_0_8 : η4 0 8 = η 0 8 := v7
    have w0_0_19 : (0 : Int) ≤ η 0 19 ∧ η 0 19 ≤ 64 := wf_ok (a := 19) (b := 19) (z := (0, 64)) hp.1 (by decide +kernel) (Nat.le_refl _) (Nat.le_refl _)
    have v9 : zEq (η1 0 19) (η 0 19) := (k1.1.2.2.2.1 0 19 (by decide +kernel)).trans rfl
    have v10 : zEq (η2 0 19) (η 0 19) := (k2.1.2.2.2.1 0 19 (by decide +kernel)).trans v9
    have v11 : zEq (η3 0 19) (η 0 19) := (k4.1.2.2.2.1 0 19 (by decide +kernel)).trans v10
    have v12 : zEq (η4 0 19) (η 0 19) := (k5.1.2.2.2.1 0 19 (by decide +kernel)).trans v11
    have c4_0_19 : η4 0 19 = η 0 19 := v12
    have wb5 : wB wl_le zTr η5 := k6.1.1
    have bx6 : (0 : Int) ≤ x6 ∧ x6 ≤ 0 := k6.1.2.1
    have v14 : zEq (η1 0 45) (η 0 45) := (k1.1.2.2.2.1 0 45 (by decide +kernel)).trans rfl
    have v15 : zEq (η2 0 45) (η 0 45) := (k2.1.2.2.2.1 0 45 (by decide +kernel)).trans v14
    have v16 : zEq (η3 0 45) (η 0 45) := (k4.1.2.2.2.1 0 45 (by decide +kernel)).trans v15
    have v17 : zEq (η4 0 45) (η 0 45) := (k5.1.2.2.2.1 0 45 (by decide +kernel)).trans v16
    have v18 : zEq (η5 0 45) (η 0 45) := (k6.1.2.2.2.1 0 45 (by decide +kernel)).trans v17
    have c5_0_45 : η5 0 45 = η 0 45 := v18
    have wb6 : wB wl_le zTr η6 := by rw [eη6]; exact wk_ok (a := 45) (b := 45) (z := ((-2147483648), 2147483647)) zTr_k (GR := []) wb5 (by decide +kernel) (by decide) (by decide) (show ((-2147483648) : Int) ≤ 0 by omega) (show 0 ≤ (2147483647 : Int) by omega)
    have w0_0_7 : (0 : Int) ≤ η 0 7 ∧ η 0 7 ≤ 700 := wf_ok (a := 7) (b := 7) (z := (0, 700)) hp.1 (by decide +kernel) (Nat.le_refl _) (Nat.le_refl _)
    have v20 : zEq (η1 0 7) (η 0 7) := (k1.1.2.2.2.1 0 7 (by decide +kernel)).trans rfl
    have v21 : zEq (η2 0 7) (η 0 7) := (k2.1.2.2.2.1 0 7 (by decide +kernel)).trans v20
    have v22 : zEq (η3 0 7) (η 0 7) := (k4.1.2.2.2.1 0 7 (by decide +kernel)).trans v21
    have v23 : zEq (η4 0 7) (η 0 7) := (k5.1.2.2.2.1 0 7 (by decide +kernel)).trans v22
    have v24 : zEq (η5 0 7) (η 0 7) := (k6.1.2.2.2.1 0 7 (by decide +kernel)).trans v23
    have v25 : zEq (η6 0 7) (η 0 7) := by rw [eη6]; exact (zup_ne (fun _ e => absurd e (by decide))).trans v24
    have c6_0_7 : η6 0 7 = η 0 7 := v25
    have w0_0_6 : (0 : Int) ≤ η 0 6 ∧ η 0 6 ≤ 700 := wf_ok (a := 6) (b := 6) (z := (0, 700)) hp.1 (by decide +kernel) (Nat.le_refl _) (Nat.le_refl _)
    have v27 : zEq (η1 0 6) (η 0 6) := (k1.1.2.2.2.1 0 6 (by decide +kernel)).trans rfl
    have v28 : zEq (η2 0 6) (η 0 6) := (k2.1.2.2.2.1 0 6 (by decide +kernel)).trans v27
    have v29 : zEq (η3 0 6) (η 0 6) := (k4.1.2.2.2.1 0 6 (by decide +kernel)).trans v28
    have v30 : zEq (η4 0 6) (η 0 6) := (k5.1.2.2.2.1 0 6 (by decide +kernel)).trans v29
    have v31 : zEq (η5 0 6) (η 0 6) := (k6.1.2.2.2.1 0 6 (by decide +kernel)).trans v30
    have v32 : zEq (η6 0 6) (η 0 6) := by rw [eη6]; exact (zup_ne (fun _ e => absurd e (by decide))).trans v31
    have c6_0_6 : η6 0 6 = η 0 6 := v32
    have v33 : zEq (η5 0 8) (η 0 8) := (k6.1.2.2.2.1 0 8 (by decide +kernel)).trans v7
    have v34 : zEq (η6 0 8) (η 0 8) := by rw [eη6]; exact (zup_ne (fun _ e => absurd e (by decide))).trans v33
    have c6_0_8 : η6 0 8 = η 0 8 := v34
    have wb7 : wB wl_le zTr η7 := k7.1.1
    have bx7 : (0 : Int) ≤ x7 ∧ x7 ≤ 0 := k7.1.2.1
    have fm1 : zFm zMle_leafRead η η1 := zFm_tr2 zFm_rf k1.1.2.2.2.1 (by decide +kernel)
    have fm2 : zFm zMle_leafRead η η2 := zFm_tr2 fm1 k2.1.2.2.2.1 (by decide +kernel)
    have fm3 : zFm zMle_leafRead η η3 := zFm_tr2 fm2 k4.1.2.2.2.1 (by decide +kernel)
    have fm4 : zFm zMle_leafRead η η4 := zFm_tr2 fm3 k5.1.2.2.2.1 (by decide +kernel)
    have fm5 : zFm zMle_leafRead η η5 := zFm_tr2 fm4 k6.1.2.2.2.1 (by decide +kernel)
    have fm6 : zFm zMle_leafRead η η6 := by rw [eη6]; exact zFm_up fm5 rfl
    have fm7 : zFm zMle_leafRead η η7 := zFm_tr2 fm6 k7.1.2.2.2.1 (by decide +kernel)
    have fmE : zFm zMle_leafRead η η7 := fm7
    have fr22_0 : ∀ j, η 22 j = η 22 j := fun _ => rfl
    have v35 : ∀ j, η1 22 j = η 22 j := fun j => k1.1.2.2.2.1 22 _ (zinr_not (by decide +kernel))
    have fr22_1 : ∀ j, η1 22 j = η 22 j := v35
    have v36 : ∀ j, η2 22 j = η 22 j := fun j => (k2.1.2.2.2.1 22 _ (zinr_not (by decide +kernel))).trans (v35 j)
    have fr22_2 : ∀ j, η2 22 j = η 22 j := v36
    have v37 : ∀ j, η3 22 j = η 22 j := fun j => (k4.1.2.2.2.1 22 _ (zinr_not (by decide +kernel))).trans (v36 j)
    have fr22_3 : ∀ j, η3 22 j = η 22 j := v37
    have v38 : ∀ j, η4 22 j = η 22 j := fun j => (k5.1.2.2.2.1 22 _ (zinr_not (by decide +kernel))).trans (v37 j)
    have fr22_4 : ∀ j, η4 22 j = η 22 j := v38
    have v39 : ∀ j, η5 22 j = η 22 j := fun j => (k6.1.2.2.2.1 22 _ (zinr_not (by decide +kernel))).trans (v38 j)
    have fr22_5 : ∀ j, η5 22 j = η 22 j := v39
    have v40 : ∀ j, η6 22 j = η 22 j := fun j => by rw [eη6]; exact (zup_ne (fun e _ => absurd e (by decide))).trans (v39 j)
    have fr22_6 : ∀ j, η6 22 j = η 22 j := v40
    have v41 : ∀ j, η7 22 j = η 22 j := fun j => (k7.1.2.2.2.1 22 _ (zinr_not (by decide +kernel))).trans (v40 j)
    have fr22_7 : ∀ j, η7 22 j = η 22 j := v41
    have fr22 : ∀ j, η7 22 j = η 22 j := v41
    have v43 : zEq (η1 0 41) (η 0 41) := (k1.1.2.2.2.1 0 41 (by decide +kernel)).trans rfl
    have v44 : zEq (η2 0 41) (η 0 41) := (k2.1.2.2.2.1 0 41 (by decide +kernel)).trans v43
    have v45 : zEq (η3 0 41) (η 0 41) := (k4.1.2.2.2.1 0 41 (by decide +kernel)).trans v44
    have v46 : zEq (η4 0 41) (η 0 41) := (k5.1.2.2.2.1 0 41 (by decide +kernel)).trans v45
    have v47 : zEq (η5 0 41) (η 0 41) := (k6.1.2.2.2.1 0 41 (by decide +kernel)).trans v46
    have v48 : zEq (η6 0 41) (η 0 41) := by rw [eη6]; exact (zup_ne (fun _ e => absurd e (by decide))).trans v47
    have v49 : zEq (η7 0 41) (η 0 41) := (k7.1.2.2.2.1 0 41 (by decide +kernel)).trans v48
    have f0_41 : η7 0 41 = η 0 41 := v49
    have w0_0_43 : (0 : Int) ≤ η 0 43 ∧ η 0 43 ≤ 8 := wf_ok (a := 43) (b := 43) (z := (0, 8)) hp.1 (by decide +kernel) (Nat.le_refl _) (Nat.le_refl _)
    have v51 : zEq (η1 0 43) (η 0 43) := (k1.1.2.2.2.1 0 43 (by decide +kernel)).trans rfl
    have v52 : zEq (η2 0 43) (η 0 43) := (k2.1.2.2.2.1 0 43 (by decide +kernel)).trans v51
    have v53 : zEq (η3 0 43) (η 0 43) := (k4.1.2.2.2.1 0 43 (by decide +kernel)).trans v52
    have v54 : zEq (η4 0 43) (η 0 43) := (k5.1.2.2.2.1 0 43 (by decide +kernel)).trans v53
    have v55 : zEq (η5 0 43) (η 0 43) := (k6.1.2.2.2.1 0 43 (by decide +kernel)).trans v54
    have v56 : zEq (η6 0 43) (η 0 43) := by rw [eη6]; exact (zup_ne (fun _ e => absurd e (by decide))).trans v55
    have v57 : zEq (η7 0 43) (η 0 43) := (k7.1.2.2.2.1 0 43 (by decide +kernel)).trans v56
    have f0_43 : η7 0 43 = η 0 43 := v57
    have v59 : zEq (η6 0 42) (η5 0 42) := by rw [eη6]; exact (zup_ne (fun _ e => absurd e (by decide))).trans rfl
    have v60 : zEq (η7 0 42) (η5 0 42) := (k7.1.2.2.2.1 0 42 (by decide +kernel)).trans v59
    have f0_42 : η7 0 42 = η5 0 42 := v60
    have v61 : zEq (η6 0 45) (0) := by rw [eη6]; exact zup_eq
    have v62 : zEq (η7 0 45) (0) := (k7.1.2.2.2.1 0 45 (by decide +kernel)).trans v61
    have f0_45 : η7 0 45 = 0 := v62
    have w5_0_19 : (0 : Int) ≤ η5 0 19 ∧ η5 0 19 ≤ 64 := wf_ok (a := 19) (b := 19) (z := (0, 64)) k6.1.1 (by decide +kernel) (Nat.le_refl _) (Nat.le_refl _)
    have v64 : zEq (η6 0 19) (η5 0 19) := by rw [eη6]; exact (zup_ne (fun _ e => absurd e (by decide))).trans rfl
    have v65 : zEq (η7 0 19) (η5 0 19) := (k7.1.2.2.2.1 0 19 (by decide +kernel)).trans v64
    have f0_19 : η7 0 19 = η5 0 19 := v65
    have w4_0_44 : (0 : Int) ≤ η4 0 44 ∧ η4 0 44 ≤ 64 := wf_ok (a := 44) (b := 44) (z := (0, 64)) k5.1.1 (by decide +kernel) (Nat.le_refl _) (Nat.le_refl _)
    have v67 : zEq (η5 0 44) (η4 0 44) := (k6.1.2.2.2.1 0 44 (by decide +kernel)).trans rfl
    have v68 : zEq (η6 0 44) (η4 0 44) := by rw [eη6]; exact (zup_ne (fun _ e => absurd e (by decide))).trans v67
    have v69 : zEq (η7 0 44) (η4 0 44) := (k7.1.2.2.2.1 0 44 (by decide +kernel)).trans v68
    have f0_44 : η7 0 44 = η4 0 44 := v69
    have w7_0_7 : (0 : Int) ≤ η7 0 7 ∧ η7 0 7 ≤ 700 := wf_ok (a := 7) (b := 7) (z := (0, 700)) k7.1.1 (by decide +kernel) (Nat.le_refl _) (Nat.le_refl _)
    have f0_7 : η7 0 7 = η7 0 7 := rfl
    have v71 : zEq (η7 0 6) (η 0 6) := (k7.1.2.2.2.1 0 6 (by decide +kernel)).trans v32
    have f0_6 : η7 0 6 = η 0 6 := v71
    have w7_0_8 : (0 : Int) ≤ η7 0 8 ∧ η7 0 8 ≤ 6 := wf_ok (a := 8) (b := 8) (z := (0, 6)) k7.1.1 (by decide +kernel) (Nat.le_refl _) (Nat.le_refl _)
    have f0_8 : η7 0 8 = η7 0 8 := rfl
    have wbE : wB wl_le zTr η7 := wb7
    
    have I0 : H_l 0 0 0 η := hpp.1
    have I1 : H_l 0 0 0 η1 := k1.2.1
    have I2 : H_l 0 0 0 η2 := k2.2.1
    have qk2 : η1 0 8 = 1 := k2.2.2 c2
    have I3 : H_l 0 0 0 η3 := k4.2.1
    have qk4 : η2 0 8 = 1 := k4.2.2 c4
    have I4 : H_l 1 0 0 η4 := k5.2.1 c6
    have I5 : H_l 0 0 1 η5 := k6.2.1 I4
    have qg6 : η5 0 19 = η4 0 19 + 1 := k6.2.2.2
    have I6 : H_l 0 0 0 η6 := by rw [eη6]; exact h_eq (wn_up I5) rfl rfl (by apply Int.le_antisymm <;> omega)
    have I7 : H_l 0 0 0 η7 := k7.2.1
    have qt7 : ¬ η6 0 8 = 0 → 10 * (η7 0 6 - η7 0 7) + η7 0 8 < 10 * (η6 0 6 - η6 0 7) + η6 0 8 := k7.2.2
    refine ⟨I7.1, fun _ => ⟨I7, show 10 * (η7 0 6 - η7 0 7) + η7 0 8 < 10 * (η 0 6 - η 0 7) + η 0 8 by omega, fun w => ?_⟩⟩
    have w : η7 0 45 = 0 := w
    omega
  · obtain ⟨a1, b1⟩ : x1 = (yq_isS 40 η) ∧ η = η1 := ⟨y1.1, y1.2.symm⟩
    subst b1
    obtain ⟨a2, b2⟩ : x2 = (yq_isK 12 η) ∧ η = η2 := ⟨y2.1, y2.2.symm⟩
    subst b2
    have e3 : x3 = η 0 46 := e3
    obtain ⟨a4, b4⟩ : x4 = (yq_nm η) ∧ η = η3 := ⟨y4.1, y4.2.symm⟩
    subst b4
    obtain ⟨a5, b5⟩ : x5 = (yq_cny η) ∧ η4 = (yq_cns η) := y5
    have b6 : η5 = (yq_gro 1 x4 0 η4) := y6
    have eη6 : η6 = zup η5 0 45 0 := eη6
    have b7 : η7 = (yq_tok η6) := y7
    show 1 = (yq_lf η).1 ∧ η7 = (yq_lf η).2
    simp only [yq_lf, yq_ct, yq_no, yq_inc, ← a1, ← a2, ← e3, ← a4, ← a5, ← b5, ← b6, ← eη6, ← b7]
    all_goals ((repeat' split) <;> first | (exfalso; omega) | exact ⟨rfl, rfl⟩ | rfl)
set_option maxHeartbeats 8000000 in
theorem zle_leafRead_o22 {ro : Nat → List Int32} (η : zE) (hp : sP wl_le zTr zPle_leafRead [] η) (hpp : pPle_leafRead [] η) : ∀ (x1 : Int) (η1 : zE), ((gC2 wl_le [(nat_lit 0, zPle_isSign, zOle_isSign, zMle_isSign), (nat_lit 1, zPle_wrong, zOle_wrong, zMle_wrong), (nat_lit 2, zPle_waitsFor0, zOle_waitsFor0, zMle_waitsFor0), (nat_lit 3, zPle_token, zOle_token, zMle_token), (nat_lit 4, zPle_isKey, zOle_isKey, zMle_isKey), (nat_lit 5, zPle_isCounted, zOle_isCounted, zMle_isCounted), (nat_lit 6, zPle_waitsFor2, zOle_waitsFor2, zMle_waitsFor2), (nat_lit 7, zPle_nameMet, zOle_nameMet, zMle_nameMet), (nat_lit 8, zPle_grown, zOle_grown, zMle_grown)] pCle_leafRead qCle_leafRead) 0).2 [40] η x1 η1 → (x1 = 0) → ∀ (x2 : Int) (η2 : zE), ((gC2 wl_le [(nat_lit 0, zPle_isSign, zOle_isSign, zMle_isSign), (nat_lit 1, zPle_wrong, zOle_wrong, zMle_wrong), (nat_lit 2, zPle_waitsFor0, zOle_waitsFor0, zMle_waitsFor0), (nat_lit 3, zPle_token, zOle_token, zMle_token), (nat_lit 4, zPle_isKey, zOle_isKey, zMle_isKey), (nat_lit 5, zPle_isCounted, zOle_isCounted, zMle_isCounted), (nat_lit 6, zPle_waitsFor2, zOle_waitsFor2, zMle_waitsFor2), (nat_lit 7, zPle_nameMet, zOle_nameMet, zMle_nameMet), (nat_lit 8, zPle_grown, zOle_grown, zMle_grown)] pCle_leafRead qCle_leafRead) 4).2 [12] η1 x2 η2 → (¬ x2 = 0) → ∀ x3 : Int, x3 = η2 0 (Int.toNat 46) → zok 1 x3 → (x3 = 0) → ∀ (x4 : Int) (η3 : zE), ((gC2 wl_le [(nat_lit 0, zPle_isSign, zOle_isSign, zMle_isSign), (nat_lit 1, zPle_wrong, zOle_wrong, zMle_wrong), (nat_lit 2, zPle_waitsFor0, zOle_waitsFor0, zMle_waitsFor0), (nat_lit 3, zPle_token, zOle_token, zMle_token), (nat_lit 4, zPle_isKey, zOle_isKey, zMle_isKey), (nat_lit 5, zPle_isCounted, zOle_isCounted, zMle_isCounted), (nat_lit 6, zPle_waitsFor2, zOle_waitsFor2, zMle_waitsFor2), (nat_lit 7, zPle_nameMet, zOle_nameMet, zMle_nameMet), (nat_lit 8, zPle_grown, zOle_grown, zMle_grown)] pCle_leafRead qCle_leafRead) 7).2 [] η2 x4 η3 → (0 ≤ x4) → (0 ≤ x4) → ∀ (x5 : Int) (η4 : zE), ((gC2 wl_le [(nat_lit 0, zPle_isSign, zOle_isSign, zMle_isSign), (nat_lit 1, zPle_wrong, zOle_wrong, zMle_wrong), (nat_lit 2, zPle_waitsFor0, zOle_waitsFor0, zMle_waitsFor0), (nat_lit 3, zPle_token, zOle_token, zMle_token), (nat_lit 4, zPle_isKey, zOle_isKey, zMle_isKey), (nat_lit 5, zPle_isCounted, zOle_isCounted, zMle_isCounted), (nat_lit 6, zPle_waitsFor2, zOle_waitsFor2, zMle_waitsFor2), (nat_lit 7, zPle_nameMet, zOle_nameMet, zMle_nameMet), (nat_lit 8, zPle_grown, zOle_grown, zMle_grown)] pCle_leafRead qCle_leafRead) 5).2 [] η3 x5 η4 → (x5 = 0) → (fun (_ : Nat) (y : Int) (η' : zE) => pQle_leafRead [] η y η') 0 0 η4 := by
  intro x1 η1 h1 c1 x2 η2 h2 c2 x3 e3 r3 c3 x4 η3 h4 c4 c5 x5 η4 h5 c6
  have y1 : fQle_isSign [40] η x1 η1 := h1.2.2
  have k1 : sQ wl_le zTr zOle_isSign zMle_isSign [40] η x1 η1 ∧ oQle_isSign [40] η x1 η1 := ⟨h1.1, h1.2.1⟩
  have y2 : fQle_isKey [12] η1 x2 η2 := h2.2.2
  have k2 : sQ wl_le zTr zOle_isKey zMle_isKey [12] η1 x2 η2 ∧ oQle_isKey [12] η1 x2 η2 := ⟨h2.1, h2.2.1⟩
  have y4 : fQle_nameMet [] η2 x4 η3 := h4.2.2
  have k4 : sQ wl_le zTr zOle_nameMet zMle_nameMet [] η2 x4 η3 ∧ oQle_nameMet [] η2 x4 η3 := ⟨h4.1, h4.2.1⟩
  have y5 : fQle_isCounted [] η3 x5 η4 := h5.2.2
  have k5 : sQ wl_le zTr zOle_isCounted zMle_isCounted [] η3 x5 η4 ∧ oQle_isCounted [] η3 x5 η4 := ⟨h5.1, h5.2.1⟩
  refine yj_a ?_ ?_
  · have hw : η 0 45 = 1 := hpp.2
    have hs : η 0 7 ≤ η 0 6 := hpp.1.1.1.1
    have bd43 : (0 : Int) ≤ η 0 43 ∧ η 0 43 ≤ 8 := wf_ok (a := 43) (b := 43) (z := (0, 8)) hp.1 (by decide +kernel) (Nat.le_refl _) (Nat.le_refl _)
    have bd44 : (0 : Int) ≤ η 0 44 ∧ η 0 44 ≤ 64 := wf_ok (a := 44) (b := 44) (z := (0, 64)) hp.1 (by decide +kernel) (Nat.le_refl _) (Nat.le_refl _)
    have bd19 : (0 : Int) ≤ η 0 19 ∧ η 0 19 ≤ 64 := wf_ok (a := 19) (b := 19) (z := (0, 64)) hp.1 (by decide +kernel) (Nat.le_refl _) (Nat.le_refl _)
    have y1 : fQle_isSign [40] η x1 η1 := h1.2.2
    have k1 : sQ wl_le zTr zOle_isSign zMle_isSign [40] η x1 η1 ∧ oQle_isSign [40] η x1 η1 := ⟨h1.1, h1.2.1⟩
    have y2 : fQle_isKey [12] η1 x2 η2 := h2.2.2
    have k2 : sQ wl_le zTr zOle_isKey zMle_isKey [12] η1 x2 η2 ∧ oQle_isKey [12] η1 x2 η2 := ⟨h2.1, h2.2.1⟩
    have y4 : fQle_nameMet [] η2 x4 η3 := h4.2.2
    have k4 : sQ wl_le zTr zOle_nameMet zMle_nameMet [] η2 x4 η3 ∧ oQle_nameMet [] η2 x4 η3 := ⟨h4.1, h4.2.1⟩
    have y5 : fQle_isCounted [] η3 x5 η4 := h5.2.2
    have k5 : sQ wl_le zTr zOle_isCounted zMle_isCounted [] η3 x5 η4 ∧ oQle_isCounted [] η3 x5 η4 := ⟨h5.1, h5.2.1⟩
    have w0_0_8 : (0 : Int) ≤ η 0 8 ∧ η 0 8 ≤ 6 := wf_ok (a := 8) (b := 8) (z := (0, 6)) hp.1 (by decide +kernel) (Nat.le_refl _) (Nat.le_refl _)
    have c0_0_8 : η 0 8 = η 0 8 := rfl
    have wb1 : wB wl_le zTr η1 := k1.1.1
    have bx1 : (0 : Int) ≤ x1 ∧ x1 ≤ 1 := k1.1.2.1
    have v1 : zEq (η1 0 8) (η 0 8) := (k1.1.2.2.2.1 0 8 (by decide +kernel)).trans rfl
    have c1_0_8 : η1 0 8 = η 0 8 := v1
    have wb2 : wB wl_le zTr η2 := k2.1.1
    have bx2 : (0 : Int) ≤ x2 ∧ x2 ≤ 1 := k2.1.2.1
    have v3 : zEq (η1 0 46) (η 0 46) := (k1.1.2.2.2.1 0 46 (by decide +kernel)).trans rfl
    have v4 : zEq (η2 0 46) (η 0 46) := (k2.1.2.2.2.1 0 46 (by decide +kernel)).trans v3
    replace e3 : x3 = η 0 46 := e3.trans v4
    replace r3 : 0 ≤ x3 ∧ x3 ≤ 1 := r3
    have v5 : zEq (η2 0 8) (η 0 8) := (k2.1.2.2.2.1 0 8 (by decide +kernel)).trans v1
    have c2_0_8 : η2 0 8 = η 0 8 := v5
    have wb3 : wB wl_le zTr η3 := k4.1.1
    have bx4 : ((-1) : Int) ≤ x4 ∧ x4 ≤ 6 := k4.1.2.1
    have v6 : zEq (η3 0 8) (η 0 8) := (k4.1.2.2.2.1 0 8 (by decide +kernel)).trans v5
    have c3_0_8 : η3 0 8 = η 0 8 := v6
    have wb4 : wB wl_le zTr η4 := k5.1.1
    have bx5 : (0 : Int) ≤ x5 ∧ x5 ≤ 1 := k5.1.2.1
    have fm1 : zFm zMle_leafRead η η1 := zFm_tr2 zFm_rf k1.1.2.2.2.1 (by decide +kernel)
    have fm2 : zFm zMle_leafRead η η2 := zFm_tr2 fm1 k2.1.2.2.2.1 (by decide +kernel)
    have fm3 : zFm zMle_leafRead η η3 := zFm_tr2 fm2 k4.1.2.2.2.1 (by decide +kernel)
    have fm4 : zFm zMle_leafRead η η4 := zFm_tr2 fm3 k5.1.2.2.2.1 (by decide +kernel)
    have fmE : zFm zMle_leafRead η η4 := fm4
    have fr22_0 : ∀ j, η 22 j = η 22 j := fun _ => rfl
    have v7 : ∀ j, η1 22 j = η 22 j := fun j => k1.1.2.2.2.1 22 _ (zinr_not (by decide +kernel))
    have fr22_1 : ∀ j, η1 22 j = η 22 j := v7
    have v8 : ∀ j, η2 22 j = η 22 j := fun j => (k2.1.2.2.2.1 22 _ (zinr_not (by decide +kernel))).trans (v7 j)
    have fr22_2 : ∀ j, η2 22 j = η 22 j := v8
    have v9 : ∀ j, η3 22 j = η 22 j := fun j => (k4.1.2.2.2.1 22 _ (zinr_not (by decide +kernel))).trans (v8 j)
    have fr22_3 : ∀ j, η3 22 j = η 22 j := v9
    have v10 : ∀ j, η4 22 j = η 22 j := fun j => (k5.1.2.2.2.1 22 _ (zinr_not (by decide +kernel))).trans (v9 j)
    have fr22_4 : ∀ j, η4 22 j = η 22 j := v10
    have fr22 : ∀ j, η4 22 j = η 22 j := v10
    have v12 : zEq (η1 0 41) (η 0 41) := (k1.1.2.2.2.1 0 41 (by decide +kernel)).trans rfl
    have v13 : zEq (η2 0 41) (η 0 41) := (k2.1.2.2.2.1 0 41 (by decide +kernel)).trans v12
    have v14 : zEq (η3 0 41) (η 0 41) := (k4.1.2.2.2.1 0 41 (by decide +kernel)).trans v13
    have v15 : zEq (η4 0 41) (η 0 41) := (k5.1.2.2.2.1 0 41 (by decide +kernel)).trans v14
    have f0_41 : η4 0 41 = η 0 41 := v15
    have w0_0_43 : (0 : Int) ≤ η 0 43 ∧ η 0 43 ≤ 8 := wf_ok (a := 43) (b := 43) (z := (0, 8)) hp.1 (by decide +kernel) (Nat.le_refl _) (Nat.le_refl _)
    have v17 : zEq (η1 0 43) (η 0 43) := (k1.1.2.2.2.1 0 43 (by decide +kernel)).trans rfl
    have v18 : zEq (η2 0 43) (η 0 43) := (k2.1.2.2.2.1 0 43 (by decide +kernel)).trans v17
    have v19 : zEq (η3 0 43) (η 0 43) := (k4.1.2.2.2.1 0 43 (by decide +kernel)).trans v18
    have v20 : zEq (η4 0 43) (η 0 43) := (k5.1.2.2.2.1 0 43 (by decide +kernel)).trans v19
    have f0_43 : η4 0 43 = η 0 43 := v20
    have v22 : zEq (η1 0 42) (η 0 42) := (k1.1.2.2.2.1 0 42 (by decide +kernel)).trans rfl
    have v23 : zEq (η2 0 42) (η 0 42) := (k2.1.2.2.2.1 0 42 (by decide +kernel)).trans v22
    have v24 : zEq (η3 0 42) (η 0 42) := (k4.1.2.2.2.1 0 42 (by decide +kernel)).trans v23
    have v25 : zEq (η4 0 42) (η 0 42) := (k5.1.2.2.2.1 0 42 (by decide +kernel)).trans v24
    have f0_42 : η4 0 42 = η 0 42 := v25
    have v27 : zEq (η1 0 45) (η 0 45) := (k1.1.2.2.2.1 0 45 (by decide +kernel)).trans rfl
    have v28 : zEq (η2 0 45) (η 0 45) := (k2.1.2.2.2.1 0 45 (by decide +kernel)).trans v27
    have v29 : zEq (η3 0 45) (η 0 45) := (k4.1.2.2.2.1 0 45 (by decide +kernel)).trans v28
    have v30 : zEq (η4 0 45) (η 0 45) := (k5.1.2.2.2.1 0 45 (by decide +kernel)).trans v29
    have f0_45 : η4 0 45 = η 0 45 := v30
    have w0_0_19 : (0 : Int) ≤ η 0 19 ∧ η 0 19 ≤ 64 := wf_ok (a := 19) (b := 19) (z := (0, 64)) hp.1 (by decide +kernel) (Nat.le_refl _) (Nat.le_refl _)
    have v32 : zEq (η1 0 19) (η 0 19) := (k1.1.2.2.2.1 0 19 (by decide +kernel)).trans rfl
    have v33 : zEq (η2 0 19) (η 0 19) := (k2.1.2.2.2.1 0 19 (by decide +kernel)).trans v32
    have v34 : zEq (η3 0 19) (η 0 19) := (k4.1.2.2.2.1 0 19 (by decide +kernel)).trans v33
    have v35 : zEq (η4 0 19) (η 0 19) := (k5.1.2.2.2.1 0 19 (by decide +kernel)).trans v34
    have f0_19 : η4 0 19 = η 0 19 := v35
    have w4_0_44 : (0 : Int) ≤ η4 0 44 ∧ η4 0 44 ≤ 64 := wf_ok (a := 44) (b := 44) (z := (0, 64)) k5.1.1 (by decide +kernel) (Nat.le_refl _) (Nat.le_refl _)
    have f0_44 : η4 0 44 = η4 0 44 := rfl
    have w0_0_7 : (0 : Int) ≤ η 0 7 ∧ η 0 7 ≤ 700 := wf_ok (a := 7) (b := 7) (z := (0, 700)) hp.1 (by decide +kernel) (Nat.le_refl _) (Nat.le_refl _)
    have v38 : zEq (η1 0 7) (η 0 7) := (k1.1.2.2.2.1 0 7 (by decide +kernel)).trans rfl
    have v39 : zEq (η2 0 7) (η 0 7) := (k2.1.2.2.2.1 0 7 (by decide +kernel)).trans v38
    have v40 : zEq (η3 0 7) (η 0 7) := (k4.1.2.2.2.1 0 7 (by decide +kernel)).trans v39
    have v41 : zEq (η4 0 7) (η 0 7) := (k5.1.2.2.2.1 0 7 (by decide +kernel)).trans v40
    have f0_7 : η4 0 7 = η 0 7 := v41
    have w0_0_6 : (0 : Int) ≤ η 0 6 ∧ η 0 6 ≤ 700 := wf_ok (a := 6) (b := 6) (z := (0, 700)) hp.1 (by decide +kernel) (Nat.le_refl _) (Nat.le_refl _)
    have v43 : zEq (η1 0 6) (η 0 6) := (k1.1.2.2.2.1 0 6 (by decide +kernel)).trans rfl
    have v44 : zEq (η2 0 6) (η 0 6) := (k2.1.2.2.2.1 0 6 (by decide +kernel)).trans v43
    have v45 : zEq (η3 0 6) (η 0 6) := (k4.1.2.2.2.1 0 6 (by decide +kernel)).trans v44
    have v46 : zEq (η4 0 6) (η 0 6) := (k5.1.2.2.2.1 0 6 (by decide +kernel)).trans v45
    have f0_6 : η4 0 6 = η 0 6 := v46
    have v47 : zEq (η4 0 8) (η 0 8) := (k5.1.2.2.2.1 0 8 (by decide +kernel)).trans v6
    have f0_8 : η4 0 8 = η 0 8 := v47
    have wbE : wB wl_le zTr η4 := wb4
    
    have I0 : H_l 0 0 0 η := hpp.1
    have I1 : H_l 0 0 0 η1 := k1.2.1
    have I2 : H_l 0 0 0 η2 := k2.2.1
    have qk2 : η1 0 8 = 1 := k2.2.2 c2
    have I3 : H_l 0 0 0 η3 := k4.2.1
    have qk4 : η2 0 8 = 1 := k4.2.2 c4
    have I4 : H_l 0 0 0 η4 := k5.2.2 c6
    exact ⟨I4.1, fun w => absurd (show (0 : Int) = 0 by apply Int.le_antisymm <;> omega) w⟩
  · obtain ⟨a1, b1⟩ : x1 = (yq_isS 40 η) ∧ η = η1 := ⟨y1.1, y1.2.symm⟩
    subst b1
    obtain ⟨a2, b2⟩ : x2 = (yq_isK 12 η) ∧ η = η2 := ⟨y2.1, y2.2.symm⟩
    subst b2
    have e3 : x3 = η 0 46 := e3
    obtain ⟨a4, b4⟩ : x4 = (yq_nm η) ∧ η = η3 := ⟨y4.1, y4.2.symm⟩
    subst b4
    obtain ⟨a5, b5⟩ : x5 = (yq_cny η) ∧ η4 = (yq_cns η) := y5
    show 0 = (yq_lf η).1 ∧ η4 = (yq_lf η).2
    simp only [yq_lf, yq_ct, yq_no, yq_inc, ← a1, ← a2, ← e3, ← a4, ← a5, ← b5]
    all_goals ((repeat' split) <;> first | (exfalso; omega) | exact ⟨rfl, rfl⟩ | rfl)
set_option maxHeartbeats 8000000 in
theorem zle_leafRead_o23 {ro : Nat → List Int32} (η : zE) (hp : sP wl_le zTr zPle_leafRead [] η) (hpp : pPle_leafRead [] η) : ∀ (x1 : Int) (η1 : zE), ((gC2 wl_le [(nat_lit 0, zPle_isSign, zOle_isSign, zMle_isSign), (nat_lit 1, zPle_wrong, zOle_wrong, zMle_wrong), (nat_lit 2, zPle_waitsFor0, zOle_waitsFor0, zMle_waitsFor0), (nat_lit 3, zPle_token, zOle_token, zMle_token), (nat_lit 4, zPle_isKey, zOle_isKey, zMle_isKey), (nat_lit 5, zPle_isCounted, zOle_isCounted, zMle_isCounted), (nat_lit 6, zPle_waitsFor2, zOle_waitsFor2, zMle_waitsFor2), (nat_lit 7, zPle_nameMet, zOle_nameMet, zMle_nameMet), (nat_lit 8, zPle_grown, zOle_grown, zMle_grown)] pCle_leafRead qCle_leafRead) 0).2 [40] η x1 η1 → (x1 = 0) → ∀ (x2 : Int) (η2 : zE), ((gC2 wl_le [(nat_lit 0, zPle_isSign, zOle_isSign, zMle_isSign), (nat_lit 1, zPle_wrong, zOle_wrong, zMle_wrong), (nat_lit 2, zPle_waitsFor0, zOle_waitsFor0, zMle_waitsFor0), (nat_lit 3, zPle_token, zOle_token, zMle_token), (nat_lit 4, zPle_isKey, zOle_isKey, zMle_isKey), (nat_lit 5, zPle_isCounted, zOle_isCounted, zMle_isCounted), (nat_lit 6, zPle_waitsFor2, zOle_waitsFor2, zMle_waitsFor2), (nat_lit 7, zPle_nameMet, zOle_nameMet, zMle_nameMet), (nat_lit 8, zPle_grown, zOle_grown, zMle_grown)] pCle_leafRead qCle_leafRead) 4).2 [12] η1 x2 η2 → (¬ x2 = 0) → ∀ x3 : Int, x3 = η2 0 (Int.toNat 46) → zok 1 x3 → (x3 = 0) → ∀ (x4 : Int) (η3 : zE), ((gC2 wl_le [(nat_lit 0, zPle_isSign, zOle_isSign, zMle_isSign), (nat_lit 1, zPle_wrong, zOle_wrong, zMle_wrong), (nat_lit 2, zPle_waitsFor0, zOle_waitsFor0, zMle_waitsFor0), (nat_lit 3, zPle_token, zOle_token, zMle_token), (nat_lit 4, zPle_isKey, zOle_isKey, zMle_isKey), (nat_lit 5, zPle_isCounted, zOle_isCounted, zMle_isCounted), (nat_lit 6, zPle_waitsFor2, zOle_waitsFor2, zMle_waitsFor2), (nat_lit 7, zPle_nameMet, zOle_nameMet, zMle_nameMet), (nat_lit 8, zPle_grown, zOle_grown, zMle_grown)] pCle_leafRead qCle_leafRead) 7).2 [] η2 x4 η3 → (x4 < 0) → ∀ x5 : Int, x5 = η3 0 (Int.toNat 8) → zok 0 x5 → (x5 = 3) → (x4 < 0) → ∀ x6 : Int, x6 = η3 0 (Int.toNat 9) → zok 0 x6 → (x6 ≤ 9999) → ((gC2 wl_le [(nat_lit 0, zPle_isSign, zOle_isSign, zMle_isSign), (nat_lit 1, zPle_wrong, zOle_wrong, zMle_wrong), (nat_lit 2, zPle_waitsFor0, zOle_waitsFor0, zMle_waitsFor0), (nat_lit 3, zPle_token, zOle_token, zMle_token), (nat_lit 4, zPle_isKey, zOle_isKey, zMle_isKey), (nat_lit 5, zPle_isCounted, zOle_isCounted, zMle_isCounted), (nat_lit 6, zPle_waitsFor2, zOle_waitsFor2, zMle_waitsFor2), (nat_lit 7, zPle_nameMet, zOle_nameMet, zMle_nameMet), (nat_lit 8, zPle_grown, zOle_grown, zMle_grown)] pCle_leafRead qCle_leafRead) 5).1 [] η3 := by
  have hw : η 0 45 = 1 := hpp.2
  have hs : η 0 7 ≤ η 0 6 := hpp.1.1.1.1
  have bd43 : (0 : Int) ≤ η 0 43 ∧ η 0 43 ≤ 8 := wf_ok (a := 43) (b := 43) (z := (0, 8)) hp.1 (by decide +kernel) (Nat.le_refl _) (Nat.le_refl _)
  have bd44 : (0 : Int) ≤ η 0 44 ∧ η 0 44 ≤ 64 := wf_ok (a := 44) (b := 44) (z := (0, 64)) hp.1 (by decide +kernel) (Nat.le_refl _) (Nat.le_refl _)
  have bd19 : (0 : Int) ≤ η 0 19 ∧ η 0 19 ≤ 64 := wf_ok (a := 19) (b := 19) (z := (0, 64)) hp.1 (by decide +kernel) (Nat.le_refl _) (Nat.le_refl _)
  intro x1 η1 h1 c1 x2 η2 h2 c2 x3 e3 r3 c3 x4 η3 h4 c4 x5 e5 r5 c5 c6 x6 e6 r6 c7
  have y1 : fQle_isSign [40] η x1 η1 := h1.2.2
  have k1 : sQ wl_le zTr zOle_isSign zMle_isSign [40] η x1 η1 ∧ oQle_isSign [40] η x1 η1 := ⟨h1.1, h1.2.1⟩
  have y2 : fQle_isKey [12] η1 x2 η2 := h2.2.2
  have k2 : sQ wl_le zTr zOle_isKey zMle_isKey [12] η1 x2 η2 ∧ oQle_isKey [12] η1 x2 η2 := ⟨h2.1, h2.2.1⟩
  have y4 : fQle_nameMet [] η2 x4 η3 := h4.2.2
  have k4 : sQ wl_le zTr zOle_nameMet zMle_nameMet [] η2 x4 η3 ∧ oQle_nameMet [] η2 x4 η3 := ⟨h4.1, h4.2.1⟩
  have w0_0_8 : (0 : Int) ≤ η 0 8 ∧ η 0 8 ≤ 6 := wf_ok (a := 8) (b := 8) (z := (0, 6)) hp.1 (by decide +kernel) (Nat.le_refl _) (Nat.le_refl _)
  have c0_0_8 : η 0 8 = η 0 8 := rfl
  have wb1 : wB wl_le zTr η1 := k1.1.1
  have bx1 : (0 : Int) ≤ x1 ∧ x1 ≤ 1 := k1.1.2.1
  have v1 : zEq (η1 0 8) (η 0 8) := (k1.1.2.2.2.1 0 8 (by decide +kernel)).trans rfl
  have c1_0_8 : η1 0 8 = η 0 8 := v1
  have wb2 : wB wl_le zTr η2 := k2.1.1
  have bx2 : (0 : Int) ≤ x2 ∧ x2 ≤ 1 := k2.1.2.1
  have v3 : zEq (η1 0 46) (η 0 46) := (k1.1.2.2.2.1 0 46 (by decide +kernel)).trans rfl
  have v4 : zEq (η2 0 46) (η 0 46) := (k2.1.2.2.2.1 0 46 (by decide +kernel)).trans v3
  replace e3 : x3 = η 0 46 := e3.trans v4
  replace r3 : 0 ≤ x3 ∧ x3 ≤ 1 := r3
  have v5 : zEq (η2 0 8) (η 0 8) := (k2.1.2.2.2.1 0 8 (by decide +kernel)).trans v1
  have c2_0_8 : η2 0 8 = η 0 8 := v5
  have wb3 : wB wl_le zTr η3 := k4.1.1
  have bx4 : ((-1) : Int) ≤ x4 ∧ x4 ≤ 6 := k4.1.2.1
  have v6 : zEq (η3 0 8) (η 0 8) := (k4.1.2.2.2.1 0 8 (by decide +kernel)).trans v5
  replace e5 : x5 = η 0 8 := e5.trans v6
  have v8 : zEq (η1 0 9) (η 0 9) := (k1.1.2.2.2.1 0 9 (by decide +kernel)).trans rfl
  have v9 : zEq (η2 0 9) (η 0 9) := (k2.1.2.2.2.1 0 9 (by decide +kernel)).trans v8
  have v10 : zEq (η3 0 9) (η 0 9) := (k4.1.2.2.2.1 0 9 (by decide +kernel)).trans v9
  replace e6 : x6 = η 0 9 := e6.trans v10
  replace r6 : -2147483648 ≤ x6 ∧ x6 ≤ 2147483647 := r6
  have fm1 : zFm zMle_leafRead η η1 := zFm_tr2 zFm_rf k1.1.2.2.2.1 (by decide +kernel)
  have fm2 : zFm zMle_leafRead η η2 := zFm_tr2 fm1 k2.1.2.2.2.1 (by decide +kernel)
  have fm3 : zFm zMle_leafRead η η3 := zFm_tr2 fm2 k4.1.2.2.2.1 (by decide +kernel)
  have fmE : zFm zMle_leafRead η η3 := fm3
  have fr22_0 : ∀ j, η 22 j = η 22 j := fun _ => rfl
  have v11 : ∀ j, η1 22 j = η 22 j := fun j => k1.1.2.2.2.1 22 _ (zinr_not (by decide +kernel))
  have fr22_1 : ∀ j, η1 22 j = η 22 j := v11
  have v12 : ∀ j, η2 22 j = η 22 j := fun j => (k2.1.2.2.2.1 22 _ (zinr_not (by decide +kernel))).trans (v11 j)
  have fr22_2 : ∀ j, η2 22 j = η 22 j := v12
  have v13 : ∀ j, η3 22 j = η 22 j := fun j => (k4.1.2.2.2.1 22 _ (zinr_not (by decide +kernel))).trans (v12 j)
  have fr22_3 : ∀ j, η3 22 j = η 22 j := v13
  have fr22 : ∀ j, η3 22 j = η 22 j := v13
  have v15 : zEq (η1 0 41) (η 0 41) := (k1.1.2.2.2.1 0 41 (by decide +kernel)).trans rfl
  have v16 : zEq (η2 0 41) (η 0 41) := (k2.1.2.2.2.1 0 41 (by decide +kernel)).trans v15
  have v17 : zEq (η3 0 41) (η 0 41) := (k4.1.2.2.2.1 0 41 (by decide +kernel)).trans v16
  have f0_41 : η3 0 41 = η 0 41 := v17
  have w0_0_43 : (0 : Int) ≤ η 0 43 ∧ η 0 43 ≤ 8 := wf_ok (a := 43) (b := 43) (z := (0, 8)) hp.1 (by decide +kernel) (Nat.le_refl _) (Nat.le_refl _)
  have v19 : zEq (η1 0 43) (η 0 43) := (k1.1.2.2.2.1 0 43 (by decide +kernel)).trans rfl
  have v20 : zEq (η2 0 43) (η 0 43) := (k2.1.2.2.2.1 0 43 (by decide +kernel)).trans v19
  have v21 : zEq (η3 0 43) (η 0 43) := (k4.1.2.2.2.1 0 43 (by decide +kernel)).trans v20
  have f0_43 : η3 0 43 = η 0 43 := v21
  have v23 : zEq (η1 0 42) (η 0 42) := (k1.1.2.2.2.1 0 42 (by decide +kernel)).trans rfl
  have v24 : zEq (η2 0 42) (η 0 42) := (k2.1.2.2.2.1 0 42 (by decide +kernel)).trans v23
  have v25 : zEq (η3 0 42) (η 0 42) := (k4.1.2.2.2.1 0 42 (by decide +kernel)).trans v24
  have f0_42 : η3 0 42 = η 0 42 := v25
  have v27 : zEq (η1 0 45) (η 0 45) := (k1.1.2.2.2.1 0 45 (by decide +kernel)).trans rfl
  have v28 : zEq (η2 0 45) (η 0 45) := (k2.1.2.2.2.1 0 45 (by decide +kernel)).trans v27
  have v29 : zEq (η3 0 45) (η 0 45) := (k4.1.2.2.2.1 0 45 (by decide +kernel)).trans v28
  have f0_45 : η3 0 45 = η 0 45 := v29
  have w0_0_19 : (0 : Int) ≤ η 0 19 ∧ η 0 19 ≤ 64 := wf_ok (a := 19) (b := 19) (z := (0, 64)) hp.1 (by decide +kernel) (Nat.le_refl _) (Nat.le_refl _)
  have v31 : zEq (η1 0 19) (η 0 19) := (k1.1.2.2.2.1 0 19 (by decide +kernel)).trans rfl
  have v32 : zEq (η2 0 19) (η 0 19) := (k2.1.2.2.2.1 0 19 (by decide +kernel)).trans v31
  have v33 : zEq (η3 0 19) (η 0 19) := (k4.1.2.2.2.1 0 19 (by decide +kernel)).trans v32
  have f0_19 : η3 0 19 = η 0 19 := v33
  have w0_0_44 : (0 : Int) ≤ η 0 44 ∧ η 0 44 ≤ 64 := wf_ok (a := 44) (b := 44) (z := (0, 64)) hp.1 (by decide +kernel) (Nat.le_refl _) (Nat.le_refl _)
  have v35 : zEq (η1 0 44) (η 0 44) := (k1.1.2.2.2.1 0 44 (by decide +kernel)).trans rfl
  have v36 : zEq (η2 0 44) (η 0 44) := (k2.1.2.2.2.1 0 44 (by decide +kernel)).trans v35
  have v37 : zEq (η3 0 44) (η 0 44) := (k4.1.2.2.2.1 0 44 (by decide +kernel)).trans v36
  have f0_44 : η3 0 44 = η 0 44 := v37
  have w0_0_7 : (0 : Int) ≤ η 0 7 ∧ η 0 7 ≤ 700 := wf_ok (a := 7) (b := 7) (z := (0, 700)) hp.1 (by decide +kernel) (Nat.le_refl _) (Nat.le_refl _)
  have v39 : zEq (η1 0 7) (η 0 7) := (k1.1.2.2.2.1 0 7 (by decide +kernel)).trans rfl
  have v40 : zEq (η2 0 7) (η 0 7) := (k2.1.2.2.2.1 0 7 (by decide +kernel)).trans v39
  have v41 : zEq (η3 0 7) (η 0 7) := (k4.1.2.2.2.1 0 7 (by decide +kernel)).trans v40
  have f0_7 : η3 0 7 = η 0 7 := v41
  have w0_0_6 : (0 : Int) ≤ η 0 6 ∧ η 0 6 ≤ 700 := wf_ok (a := 6) (b := 6) (z := (0, 700)) hp.1 (by decide +kernel) (Nat.le_refl _) (Nat.le_refl _)
  have v43 : zEq (η1 0 6) (η 0 6) := (k1.1.2.2.2.1 0 6 (by decide +kernel)).trans rfl
  have v44 : zEq (η2 0 6) (η 0 6) := (k2.1.2.2.2.1 0 6 (by decide +kernel)).trans v43
  have v45 : zEq (η3 0 6) (η 0 6) := (k4.1.2.2.2.1 0 6 (by decide +kernel)).trans v44
  have f0_6 : η3 0 6 = η 0 6 := v45
  have f0_8 : η3 0 8 = η 0 8 := v6
  have wbE : wB wl_le zTr η3 := wb3
  
  have I0 : H_l 0 0 0 η := hpp.1
  have I1 : H_l 0 0 0 η1 := k1.2.1
  have I2 : H_l 0 0 0 η2 := k2.2.1
  have qk2 : η1 0 8 = 1 := k2.2.2 c2
  have I3 : H_l 0 0 0 η3 := k4.2.1
  exact I3
set_option maxHeartbeats 8000000 in
theorem zle_leafRead_o24 {ro : Nat → List Int32} (η : zE) (hp : sP wl_le zTr zPle_leafRead [] η) (hpp : pPle_leafRead [] η) : ∀ (x1 : Int) (η1 : zE), ((gC2 wl_le [(nat_lit 0, zPle_isSign, zOle_isSign, zMle_isSign), (nat_lit 1, zPle_wrong, zOle_wrong, zMle_wrong), (nat_lit 2, zPle_waitsFor0, zOle_waitsFor0, zMle_waitsFor0), (nat_lit 3, zPle_token, zOle_token, zMle_token), (nat_lit 4, zPle_isKey, zOle_isKey, zMle_isKey), (nat_lit 5, zPle_isCounted, zOle_isCounted, zMle_isCounted), (nat_lit 6, zPle_waitsFor2, zOle_waitsFor2, zMle_waitsFor2), (nat_lit 7, zPle_nameMet, zOle_nameMet, zMle_nameMet), (nat_lit 8, zPle_grown, zOle_grown, zMle_grown)] pCle_leafRead qCle_leafRead) 0).2 [40] η x1 η1 → (x1 = 0) → ∀ (x2 : Int) (η2 : zE), ((gC2 wl_le [(nat_lit 0, zPle_isSign, zOle_isSign, zMle_isSign), (nat_lit 1, zPle_wrong, zOle_wrong, zMle_wrong), (nat_lit 2, zPle_waitsFor0, zOle_waitsFor0, zMle_waitsFor0), (nat_lit 3, zPle_token, zOle_token, zMle_token), (nat_lit 4, zPle_isKey, zOle_isKey, zMle_isKey), (nat_lit 5, zPle_isCounted, zOle_isCounted, zMle_isCounted), (nat_lit 6, zPle_waitsFor2, zOle_waitsFor2, zMle_waitsFor2), (nat_lit 7, zPle_nameMet, zOle_nameMet, zMle_nameMet), (nat_lit 8, zPle_grown, zOle_grown, zMle_grown)] pCle_leafRead qCle_leafRead) 4).2 [12] η1 x2 η2 → (¬ x2 = 0) → ∀ x3 : Int, x3 = η2 0 (Int.toNat 46) → zok 1 x3 → (x3 = 0) → ∀ (x4 : Int) (η3 : zE), ((gC2 wl_le [(nat_lit 0, zPle_isSign, zOle_isSign, zMle_isSign), (nat_lit 1, zPle_wrong, zOle_wrong, zMle_wrong), (nat_lit 2, zPle_waitsFor0, zOle_waitsFor0, zMle_waitsFor0), (nat_lit 3, zPle_token, zOle_token, zMle_token), (nat_lit 4, zPle_isKey, zOle_isKey, zMle_isKey), (nat_lit 5, zPle_isCounted, zOle_isCounted, zMle_isCounted), (nat_lit 6, zPle_waitsFor2, zOle_waitsFor2, zMle_waitsFor2), (nat_lit 7, zPle_nameMet, zOle_nameMet, zMle_nameMet), (nat_lit 8, zPle_grown, zOle_grown, zMle_grown)] pCle_leafRead qCle_leafRead) 7).2 [] η2 x4 η3 → (x4 < 0) → ∀ x5 : Int, x5 = η3 0 (Int.toNat 8) → zok 0 x5 → (x5 = 3) → (x4 < 0) → ∀ x6 : Int, x6 = η3 0 (Int.toNat 9) → zok 0 x6 → (x6 ≤ 9999) → ∀ (x7 : Int) (η4 : zE), ((gC2 wl_le [(nat_lit 0, zPle_isSign, zOle_isSign, zMle_isSign), (nat_lit 1, zPle_wrong, zOle_wrong, zMle_wrong), (nat_lit 2, zPle_waitsFor0, zOle_waitsFor0, zMle_waitsFor0), (nat_lit 3, zPle_token, zOle_token, zMle_token), (nat_lit 4, zPle_isKey, zOle_isKey, zMle_isKey), (nat_lit 5, zPle_isCounted, zOle_isCounted, zMle_isCounted), (nat_lit 6, zPle_waitsFor2, zOle_waitsFor2, zMle_waitsFor2), (nat_lit 7, zPle_nameMet, zOle_nameMet, zMle_nameMet), (nat_lit 8, zPle_grown, zOle_grown, zMle_grown)] pCle_leafRead qCle_leafRead) 5).2 [] η3 x7 η4 → (¬ x7 = 0) → (x4 < 0) → (x4 < 0) → ∀ x8 : Int, x8 = η4 0 (Int.toNat 9) → zok 0 x8 → ((gC2 wl_le [(nat_lit 0, zPle_isSign, zOle_isSign, zMle_isSign), (nat_lit 1, zPle_wrong, zOle_wrong, zMle_wrong), (nat_lit 2, zPle_waitsFor0, zOle_waitsFor0, zMle_waitsFor0), (nat_lit 3, zPle_token, zOle_token, zMle_token), (nat_lit 4, zPle_isKey, zOle_isKey, zMle_isKey), (nat_lit 5, zPle_isCounted, zOle_isCounted, zMle_isCounted), (nat_lit 6, zPle_waitsFor2, zOle_waitsFor2, zMle_waitsFor2), (nat_lit 7, zPle_nameMet, zOle_nameMet, zMle_nameMet), (nat_lit 8, zPle_grown, zOle_grown, zMle_grown)] pCle_leafRead qCle_leafRead) 8).1 [0, x8, 0] η4 := by
  have hw : η 0 45 = 1 := hpp.2
  have hs : η 0 7 ≤ η 0 6 := hpp.1.1.1.1
  have bd43 : (0 : Int) ≤ η 0 43 ∧ η 0 43 ≤ 8 := wf_ok (a := 43) (b := 43) (z := (0, 8)) hp.1 (by decide +kernel) (Nat.le_refl _) (Nat.le_refl _)
  have bd44 : (0 : Int) ≤ η 0 44 ∧ η 0 44 ≤ 64 := wf_ok (a := 44) (b := 44) (z := (0, 64)) hp.1 (by decide +kernel) (Nat.le_refl _) (Nat.le_refl _)
  have bd19 : (0 : Int) ≤ η 0 19 ∧ η 0 19 ≤ 64 := wf_ok (a := 19) (b := 19) (z := (0, 64)) hp.1 (by decide +kernel) (Nat.le_refl _) (Nat.le_refl _)
  intro x1 η1 h1 c1 x2 η2 h2 c2 x3 e3 r3 c3 x4 η3 h4 c4 x5 e5 r5 c5 c6 x6 e6 r6 c7 x7 η4 h7 c8 c9 c10 x8 e8 r8
  have y1 : fQle_isSign [40] η x1 η1 := h1.2.2
  have k1 : sQ wl_le zTr zOle_isSign zMle_isSign [40] η x1 η1 ∧ oQle_isSign [40] η x1 η1 := ⟨h1.1, h1.2.1⟩
  have y2 : fQle_isKey [12] η1 x2 η2 := h2.2.2
  have k2 : sQ wl_le zTr zOle_isKey zMle_isKey [12] η1 x2 η2 ∧ oQle_isKey [12] η1 x2 η2 := ⟨h2.1, h2.2.1⟩
  have y4 : fQle_nameMet [] η2 x4 η3 := h4.2.2
  have k4 : sQ wl_le zTr zOle_nameMet zMle_nameMet [] η2 x4 η3 ∧ oQle_nameMet [] η2 x4 η3 := ⟨h4.1, h4.2.1⟩
  have y7 : fQle_isCounted [] η3 x7 η4 := h7.2.2
  have k7 : sQ wl_le zTr zOle_isCounted zMle_isCounted [] η3 x7 η4 ∧ oQle_isCounted [] η3 x7 η4 := ⟨h7.1, h7.2.1⟩
  have w0_0_8 : (0 : Int) ≤ η 0 8 ∧ η 0 8 ≤ 6 := wf_ok (a := 8) (b := 8) (z := (0, 6)) hp.1 (by decide +kernel) (Nat.le_refl _) (Nat.le_refl _)
  have c0_0_8 : η 0 8 = η 0 8 := rfl
  have wb1 : wB wl_le zTr η1 := k1.1.1
  have bx1 : (0 : Int) ≤ x1 ∧ x1 ≤ 1 := k1.1.2.1
  have v1 : zEq (η1 0 8) (η 0 8) := (k1.1.2.2.2.1 0 8 (by decide +kernel)).trans rfl
  have c1_0_8 : η1 0 8 = η 0 8 := v1
  have wb2 : wB wl_le zTr η2 := k2.1.1
  have bx2 : (0 : Int) ≤ x2 ∧ x2 ≤ 1 := k2.1.2.1
  have v3 : zEq (η1 0 46) (η 0 46) := (k1.1.2.2.2.1 0 46 (by decide +kernel)).trans rfl
  have v4 : zEq (η2 0 46) (η 0 46) := (k2.1.2.2.2.1 0 46 (by decide +kernel)).trans v3
  replace e3 : x3 = η 0 46 := e3.trans v4
  replace r3 : 0 ≤ x3 ∧ x3 ≤ 1 := r3
  have v5 : zEq (η2 0 8) (η 0 8) := (k2.1.2.2.2.1 0 8 (by decide +kernel)).trans v1
  have c2_0_8 : η2 0 8 = η 0 8 := v5
  have wb3 : wB wl_le zTr η3 := k4.1.1
  have bx4 : ((-1) : Int) ≤ x4 ∧ x4 ≤ 6 := k4.1.2.1
  have v6 : zEq (η3 0 8) (η 0 8) := (k4.1.2.2.2.1 0 8 (by decide +kernel)).trans v5
  replace e5 : x5 = η 0 8 := e5.trans v6
  have v8 : zEq (η1 0 9) (η 0 9) := (k1.1.2.2.2.1 0 9 (by decide +kernel)).trans rfl
  have v9 : zEq (η2 0 9) (η 0 9) := (k2.1.2.2.2.1 0 9 (by decide +kernel)).trans v8
  have v10 : zEq (η3 0 9) (η 0 9) := (k4.1.2.2.2.1 0 9 (by decide +kernel)).trans v9
  replace e6 : x6 = η 0 9 := e6.trans v10
  replace r6 : -2147483648 ≤ x6 ∧ x6 ≤ 2147483647 := r6
  have c3_0_8 : η3 0 8 = η 0 8 := v6
  have wb4 : wB wl_le zTr η4 := k7.1.1
  have bx7 : (0 : Int) ≤ x7 ∧ x7 ≤ 1 := k7.1.2.1
  have v11 : zEq (η4 0 9) (η 0 9) := (k7.1.2.2.2.1 0 9 (by decide +kernel)).trans v10
  replace e8 : x8 = η 0 9 := e8.trans v11
  replace r8 : -2147483648 ≤ x8 ∧ x8 ≤ 2147483647 := r8
  have fm1 : zFm zMle_leafRead η η1 := zFm_tr2 zFm_rf k1.1.2.2.2.1 (by decide +kernel)
  have fm2 : zFm zMle_leafRead η η2 := zFm_tr2 fm1 k2.1.2.2.2.1 (by decide +kernel)
  have fm3 : zFm zMle_leafRead η η3 := zFm_tr2 fm2 k4.1.2.2.2.1 (by decide +kernel)
  have fm4 : zFm zMle_leafRead η η4 := zFm_tr2 fm3 k7.1.2.2.2.1 (by decide +kernel)
  have fmE : zFm zMle_leafRead η η4 := fm4
  have fr22_0 : ∀ j, η 22 j = η 22 j := fun _ => rfl
  have v12 : ∀ j, η1 22 j = η 22 j := fun j => k1.1.2.2.2.1 22 _ (zinr_not (by decide +kernel))
  have fr22_1 : ∀ j, η1 22 j = η 22 j := v12
  have v13 : ∀ j, η2 22 j = η 22 j := fun j => (k2.1.2.2.2.1 22 _ (zinr_not (by decide +kernel))).trans (v12 j)
  have fr22_2 : ∀ j, η2 22 j = η 22 j := v13
  have v14 : ∀ j, η3 22 j = η 22 j := fun j => (k4.1.2.2.2.1 22 _ (zinr_not (by decide +kernel))).trans (v13 j)
  have fr22_3 : ∀ j, η3 22 j = η 22 j := v14
  have v15 : ∀ j, η4 22 j = η 22 j := fun j => (k7.1.2.2.2.1 22 _ (zinr_not (by decide +kernel))).trans (v14 j)
  have fr22_4 : ∀ j, η4 22 j = η 22 j := v15
  have fr22 : ∀ j, η4 22 j = η 22 j := v15
  have v17 : zEq (η1 0 41) (η 0 41) := (k1.1.2.2.2.1 0 41 (by decide +kernel)).trans rfl
  have v18 : zEq (η2 0 41) (η 0 41) := (k2.1.2.2.2.1 0 41 (by decide +kernel)).trans v17
  have v19 : zEq (η3 0 41) (η 0 41) := (k4.1.2.2.2.1 0 41 (by decide +kernel)).trans v18
  have v20 : zEq (η4 0 41) (η 0 41) := (k7.1.2.2.2.1 0 41 (by decide +kernel)).trans v19
  have f0_41 : η4 0 41 = η 0 41 := v20
  have w0_0_43 : (0 : Int) ≤ η 0 43 ∧ η 0 43 ≤ 8 := wf_ok (a := 43) (b := 43) (z := (0, 8)) hp.1 (by decide +kernel) (Nat.le_refl _) (Nat.le_refl _)
  have v22 : zEq (η1 0 43) (η 0 43) := (k1.1.2.2.2.1 0 43 (by decide +kernel)).trans rfl
  have v23 : zEq (η2 0 43) (η 0 43) := (k2.1.2.2.2.1 0 43 (by decide +kernel)).trans v22
  have v24 : zEq (η3 0 43) (η 0 43) := (k4.1.2.2.2.1 0 43 (by decide +kernel)).trans v23
  have v25 : zEq (η4 0 43) (η 0 43) := (k7.1.2.2.2.1 0 43 (by decide +kernel)).trans v24
  have f0_43 : η4 0 43 = η 0 43 := v25
  have v27 : zEq (η1 0 42) (η 0 42) := (k1.1.2.2.2.1 0 42 (by decide +kernel)).trans rfl
  have v28 : zEq (η2 0 42) (η 0 42) := (k2.1.2.2.2.1 0 42 (by decide +kernel)).trans v27
  have v29 : zEq (η3 0 42) (η 0 42) := (k4.1.2.2.2.1 0 42 (by decide +kernel)).trans v28
  have v30 : zEq (η4 0 42) (η 0 42) := (k7.1.2.2.2.1 0 42 (by decide +kernel)).trans v29
  have f0_42 : η4 0 42 = η 0 42 := v30
  have v32 : zEq (η1 0 45) (η 0 45) := (k1.1.2.2.2.1 0 45 (by decide +kernel)).trans rfl
  have v33 : zEq (η2 0 45) (η 0 45) := (k2.1.2.2.2.1 0 45 (by decide +kernel)).trans v32
  have v34 : zEq (η3 0 45) (η 0 45) := (k4.1.2.2.2.1 0 45 (by decide +kernel)).trans v33
  have v35 : zEq (η4 0 45) (η 0 45) := (k7.1.2.2.2.1 0 45 (by decide +kernel)).trans v34
  have f0_45 : η4 0 45 = η 0 45 := v35
  have w0_0_19 : (0 : Int) ≤ η 0 19 ∧ η 0 19 ≤ 64 := wf_ok (a := 19) (b := 19) (z := (0, 64)) hp.1 (by decide +kernel) (Nat.le_refl _) (Nat.le_refl _)
  have v37 : zEq (η1 0 19) (η 0 19) := (k1.1.2.2.2.1 0 19 (by decide +kernel)).trans rfl
  have v38 : zEq (η2 0 19) (η 0 19) := (k2.1.2.2.2.1 0 19 (by decide +kernel)).trans v37
  have v39 : zEq (η3 0 19) (η 0 19) := (k4.1.2.2.2.1 0 19 (by decide +kernel)).trans v38
  have v40 : zEq (η4 0 19) (η 0 19) := (k7.1.2.2.2.1 0 19 (by decide +kernel)).trans v39
  have f0_19 : η4 0 19 = η 0 19 := v40
  have w4_0_44 : (0 : Int) ≤ η4 0 44 ∧ η4 0 44 ≤ 64 := wf_ok (a := 44) (b := 44) (z := (0, 64)) k7.1.1 (by decide +kernel) (Nat.le_refl _) (Nat.le_refl _)
  have f0_44 : η4 0 44 = η4 0 44 := rfl
  have w0_0_7 : (0 : Int) ≤ η 0 7 ∧ η 0 7 ≤ 700 := wf_ok (a := 7) (b := 7) (z := (0, 700)) hp.1 (by decide +kernel) (Nat.le_refl _) (Nat.le_refl _)
  have v43 : zEq (η1 0 7) (η 0 7) := (k1.1.2.2.2.1 0 7 (by decide +kernel)).trans rfl
  have v44 : zEq (η2 0 7) (η 0 7) := (k2.1.2.2.2.1 0 7 (by decide +kernel)).trans v43
  have v45 : zEq (η3 0 7) (η 0 7) := (k4.1.2.2.2.1 0 7 (by decide +kernel)).trans v44
  have v46 : zEq (η4 0 7) (η 0 7) := (k7.1.2.2.2.1 0 7 (by decide +kernel)).trans v45
  have f0_7 : η4 0 7 = η 0 7 := v46
  have w0_0_6 : (0 : Int) ≤ η 0 6 ∧ η 0 6 ≤ 700 := wf_ok (a := 6) (b := 6) (z := (0, 700)) hp.1 (by decide +kernel) (Nat.le_refl _) (Nat.le_refl _)
  have v48 : zEq (η1 0 6) (η 0 6) := (k1.1.2.2.2.1 0 6 (by decide +kernel)).trans rfl
  have v49 : zEq (η2 0 6) (η 0 6) := (k2.1.2.2.2.1 0 6 (by decide +kernel)).trans v48
  have v50 : zEq (η3 0 6) (η 0 6) := (k4.1.2.2.2.1 0 6 (by decide +kernel)).trans v49
  have v51 : zEq (η4 0 6) (η 0 6) := (k7.1.2.2.2.1 0 6 (by decide +kernel)).trans v50
  have f0_6 : η4 0 6 = η 0 6 := v51
  have v52 : zEq (η4 0 8) (η 0 8) := (k7.1.2.2.2.1 0 8 (by decide +kernel)).trans v6
  have f0_8 : η4 0 8 = η 0 8 := v52
  have wbE : wB wl_le zTr η4 := wb4
  
  have I0 : H_l 0 0 0 η := hpp.1
  have I1 : H_l 0 0 0 η1 := k1.2.1
  have I2 : H_l 0 0 0 η2 := k2.2.1
  have qk2 : η1 0 8 = 1 := k2.2.2 c2
  have I3 : H_l 0 0 0 η3 := k4.2.1
  have I4 : H_l 1 0 0 η4 := k7.2.1 c8
  obtain ⟨j1, j2, j3, j4⟩ := I4.2
  have cn := cz_n (η := η4) (η4 0 41).toNat
  exact ⟨Or.inl I4, ⟨fun w => absurd w (show ¬ (0 : Int) = 1 by decide), fun w => absurd rfl w, fun w => absurd rfl w⟩, show 0 ≤ η4 0 42 by omega, show η4 0 42 ≤ 95 by omega⟩
set_option maxHeartbeats 8000000 in
theorem zle_leafRead_o25 {ro : Nat → List Int32} (η : zE) (hp : sP wl_le zTr zPle_leafRead [] η) (hpp : pPle_leafRead [] η) : ∀ (x1 : Int) (η1 : zE), ((gC2 wl_le [(nat_lit 0, zPle_isSign, zOle_isSign, zMle_isSign), (nat_lit 1, zPle_wrong, zOle_wrong, zMle_wrong), (nat_lit 2, zPle_waitsFor0, zOle_waitsFor0, zMle_waitsFor0), (nat_lit 3, zPle_token, zOle_token, zMle_token), (nat_lit 4, zPle_isKey, zOle_isKey, zMle_isKey), (nat_lit 5, zPle_isCounted, zOle_isCounted, zMle_isCounted), (nat_lit 6, zPle_waitsFor2, zOle_waitsFor2, zMle_waitsFor2), (nat_lit 7, zPle_nameMet, zOle_nameMet, zMle_nameMet), (nat_lit 8, zPle_grown, zOle_grown, zMle_grown)] pCle_leafRead qCle_leafRead) 0).2 [40] η x1 η1 → (x1 = 0) → ∀ (x2 : Int) (η2 : zE), ((gC2 wl_le [(nat_lit 0, zPle_isSign, zOle_isSign, zMle_isSign), (nat_lit 1, zPle_wrong, zOle_wrong, zMle_wrong), (nat_lit 2, zPle_waitsFor0, zOle_waitsFor0, zMle_waitsFor0), (nat_lit 3, zPle_token, zOle_token, zMle_token), (nat_lit 4, zPle_isKey, zOle_isKey, zMle_isKey), (nat_lit 5, zPle_isCounted, zOle_isCounted, zMle_isCounted), (nat_lit 6, zPle_waitsFor2, zOle_waitsFor2, zMle_waitsFor2), (nat_lit 7, zPle_nameMet, zOle_nameMet, zMle_nameMet), (nat_lit 8, zPle_grown, zOle_grown, zMle_grown)] pCle_leafRead qCle_leafRead) 4).2 [12] η1 x2 η2 → (¬ x2 = 0) → ∀ x3 : Int, x3 = η2 0 (Int.toNat 46) → zok 1 x3 → (x3 = 0) → ∀ (x4 : Int) (η3 : zE), ((gC2 wl_le [(nat_lit 0, zPle_isSign, zOle_isSign, zMle_isSign), (nat_lit 1, zPle_wrong, zOle_wrong, zMle_wrong), (nat_lit 2, zPle_waitsFor0, zOle_waitsFor0, zMle_waitsFor0), (nat_lit 3, zPle_token, zOle_token, zMle_token), (nat_lit 4, zPle_isKey, zOle_isKey, zMle_isKey), (nat_lit 5, zPle_isCounted, zOle_isCounted, zMle_isCounted), (nat_lit 6, zPle_waitsFor2, zOle_waitsFor2, zMle_waitsFor2), (nat_lit 7, zPle_nameMet, zOle_nameMet, zMle_nameMet), (nat_lit 8, zPle_grown, zOle_grown, zMle_grown)] pCle_leafRead qCle_leafRead) 7).2 [] η2 x4 η3 → (x4 < 0) → ∀ x5 : Int, x5 = η3 0 (Int.toNat 8) → zok 0 x5 → (x5 = 3) → (x4 < 0) → ∀ x6 : Int, x6 = η3 0 (Int.toNat 9) → zok 0 x6 → (x6 ≤ 9999) → ∀ (x7 : Int) (η4 : zE), ((gC2 wl_le [(nat_lit 0, zPle_isSign, zOle_isSign, zMle_isSign), (nat_lit 1, zPle_wrong, zOle_wrong, zMle_wrong), (nat_lit 2, zPle_waitsFor0, zOle_waitsFor0, zMle_waitsFor0), (nat_lit 3, zPle_token, zOle_token, zMle_token), (nat_lit 4, zPle_isKey, zOle_isKey, zMle_isKey), (nat_lit 5, zPle_isCounted, zOle_isCounted, zMle_isCounted), (nat_lit 6, zPle_waitsFor2, zOle_waitsFor2, zMle_waitsFor2), (nat_lit 7, zPle_nameMet, zOle_nameMet, zMle_nameMet), (nat_lit 8, zPle_grown, zOle_grown, zMle_grown)] pCle_leafRead qCle_leafRead) 5).2 [] η3 x7 η4 → (¬ x7 = 0) → (x4 < 0) → (x4 < 0) → ∀ x8 : Int, x8 = η4 0 (Int.toNat 9) → zok 0 x8 → ∀ (x9 : Int) (η5 : zE), ((gC2 wl_le [(nat_lit 0, zPle_isSign, zOle_isSign, zMle_isSign), (nat_lit 1, zPle_wrong, zOle_wrong, zMle_wrong), (nat_lit 2, zPle_waitsFor0, zOle_waitsFor0, zMle_waitsFor0), (nat_lit 3, zPle_token, zOle_token, zMle_token), (nat_lit 4, zPle_isKey, zOle_isKey, zMle_isKey), (nat_lit 5, zPle_isCounted, zOle_isCounted, zMle_isCounted), (nat_lit 6, zPle_waitsFor2, zOle_waitsFor2, zMle_waitsFor2), (nat_lit 7, zPle_nameMet, zOle_nameMet, zMle_nameMet), (nat_lit 8, zPle_grown, zOle_grown, zMle_grown)] pCle_leafRead qCle_leafRead) 8).2 [0, x8, 0] η4 x9 η5 → ∀ η6 : zE, η6 = zup η5 0 (Int.toNat 45) 0 → ((gC2 wl_le [(nat_lit 0, zPle_isSign, zOle_isSign, zMle_isSign), (nat_lit 1, zPle_wrong, zOle_wrong, zMle_wrong), (nat_lit 2, zPle_waitsFor0, zOle_waitsFor0, zMle_waitsFor0), (nat_lit 3, zPle_token, zOle_token, zMle_token), (nat_lit 4, zPle_isKey, zOle_isKey, zMle_isKey), (nat_lit 5, zPle_isCounted, zOle_isCounted, zMle_isCounted), (nat_lit 6, zPle_waitsFor2, zOle_waitsFor2, zMle_waitsFor2), (nat_lit 7, zPle_nameMet, zOle_nameMet, zMle_nameMet), (nat_lit 8, zPle_grown, zOle_grown, zMle_grown)] pCle_leafRead qCle_leafRead) 3).1 [] η6 := by
  have hw : η 0 45 = 1 := hpp.2
  have hs : η 0 7 ≤ η 0 6 := hpp.1.1.1.1
  have bd43 : (0 : Int) ≤ η 0 43 ∧ η 0 43 ≤ 8 := wf_ok (a := 43) (b := 43) (z := (0, 8)) hp.1 (by decide +kernel) (Nat.le_refl _) (Nat.le_refl _)
  have bd44 : (0 : Int) ≤ η 0 44 ∧ η 0 44 ≤ 64 := wf_ok (a := 44) (b := 44) (z := (0, 64)) hp.1 (by decide +kernel) (Nat.le_refl _) (Nat.le_refl _)
  have bd19 : (0 : Int) ≤ η 0 19 ∧ η 0 19 ≤ 64 := wf_ok (a := 19) (b := 19) (z := (0, 64)) hp.1 (by decide +kernel) (Nat.le_refl _) (Nat.le_refl _)
  intro x1 η1 h1 c1 x2 η2 h2 c2 x3 e3 r3 c3 x4 η3 h4 c4 x5 e5 r5 c5 c6 x6 e6 r6 c7 x7 η4 h7 c8 c9 c10 x8 e8 r8 x9 η5 h9 η6 eη6
  have y1 : fQle_isSign [40] η x1 η1 := h1.2.2
  have k1 : sQ wl_le zTr zOle_isSign zMle_isSign [40] η x1 η1 ∧ oQle_isSign [40] η x1 η1 := ⟨h1.1, h1.2.1⟩
  have y2 : fQle_isKey [12] η1 x2 η2 := h2.2.2
  have k2 : sQ wl_le zTr zOle_isKey zMle_isKey [12] η1 x2 η2 ∧ oQle_isKey [12] η1 x2 η2 := ⟨h2.1, h2.2.1⟩
  have y4 : fQle_nameMet [] η2 x4 η3 := h4.2.2
  have k4 : sQ wl_le zTr zOle_nameMet zMle_nameMet [] η2 x4 η3 ∧ oQle_nameMet [] η2 x4 η3 := ⟨h4.1, h4.2.1⟩
  have y7 : fQle_isCounted [] η3 x7 η4 := h7.2.2
  have k7 : sQ wl_le zTr zOle_isCounted zMle_isCounted [] η3 x7 η4 ∧ oQle_isCounted [] η3 x7 η4 := ⟨h7.1, h7.2.1⟩
  have y9 : fQle_grown [0, x8, 0] η4 x9 η5 := h9.2.2
  have k9 : sQ wl_le zTr zOle_grown zMle_grown [0, x8, 0] η4 x9 η5 ∧ oQle_grown [0, x8, 0] η4 x9 η5 := ⟨h9.1, h9.2.1⟩
  have w0_0_8 : (0 : Int) ≤ η 0 8 ∧ η 0 8 ≤ 6 := wf_ok (a := 8) (b := 8) (z := (0, 6)) hp.1 (by decide +kernel) (Nat.le_refl _) (Nat.le_refl _)
  have c0_0_8 : η 0 8 = η 0 8 := rfl
  have wb1 : wB wl_le zTr η1 := k1.1.1
  have bx1 : (0 : Int) ≤ x1 ∧ x1 ≤ 1 := k1.1.2.1
  have v1 : zEq (η1 0 8) (η 0 8) := (k1.1.2.2.2.1 0 8 (by decide +kernel)).trans rfl
  have c1_0_8 : η1 0 8 = η 0 8 := v1
  have wb2 : wB wl_le zTr η2 := k2.1.1
  have bx2 : (0 : Int) ≤ x2 ∧ x2 ≤ 1 := k2.1.2.1
  have v3 : zEq (η1 0 46) (η 0 46) := (k1.1.2.2.2.1 0 46 (by decide +kernel)).trans rfl
  have v4 : zEq (η2 0 46) (η 0 46) := (k2.1.2.2.2.1 0 46 (by decide +kernel)).trans v3
  replace e3 : x3 = η 0 46 := e3.trans v4
  replace r3 : 0 ≤ x3 ∧ x3 ≤ 1 := r3
  have v5 : zEq (η2 0 8) (η 0 8) := (k2.1.2.2.2.1 0 8 (by decide +kernel)).trans v1
  have c2_0_8 : η2 0 8 = η 0 8 := v5
  have wb3 : wB wl_le zTr η3 := k4.1.1
  have bx4 : ((-1) : Int) ≤ x4 ∧ x4 ≤ 6 := k4.1.2.1
  have v6 : zEq (η3 0 8) (η 0 8) := (k4.1.2.2.2.1 0 8 (by decide +kernel)).trans v5
  replace e5 : x5 = η 0 8 := e5.trans v6
  have v8 : zEq (η1 0 9) (η 0 9) := (k1.1.2.2.2.1 0 9 (by decide +kernel)).trans rfl
  have v9 : zEq (η2 0 9) (η 0 9) := (k2.1.2.2.2.1 0 9 (by decide +kernel)).trans v8
  have v10 : zEq (η3 0 9) (η 0 9) := (k4.1.2.2.2.1 0 9 (by decide +kernel)).trans v9
  replace e6 : x6 = η 0 9 := e6.trans v10
  replace r6 : -2147483648 ≤ x6 ∧ x6 ≤ 2147483647 := r6
  have c3_0_8 : η3 0 8 = η 0 8 := v6
  have wb4 : wB wl_le zTr η4 := k7.1.1
  have bx7 : (0 : Int) ≤ x7 ∧ x7 ≤ 1 := k7.1.2.1
  have v11 : zEq (η4 0 9) (η 0 9) := (k7.1.2.2.2.1 0 9 (by decide +kernel)).trans v10
  replace e8 : x8 = η 0 9 := e8.trans v11
  replace r8 : -2147483648 ≤ x8 ∧ x8 ≤ 2147483647 := r8
  have v12 : zEq (η4 0 8) (η 0 8) := (k7.1.2.2.2.1 0 8 (by decide +kernel)).trans v6
  have c4_0_8 : η4 0 8 = η 0 8 := v12
  have w0_0_19 : (0 : Int) ≤ η 0 19 ∧ η 0 19 ≤ 64 := wf_ok (a := 19) (b := 19) (z := (0, 64)) hp.1 (by decide +kernel) (Nat.le_refl _) (Nat.le_refl _)
  have v14 : zEq (η1 0 19) (η 0 19) := (k1.1.2.2.2.1 0 19 (by decide +kernel)).trans rfl
  have v15 : zEq (η2 0 19) (η 0 19) := (k2.1.2.2.2.1 0 19 (by decide +kernel)).trans v14
  have v16 : zEq (η3 0 19) (η 0 19) := (k4.1.2.2.2.1 0 19 (by decide +kernel)).trans v15
  have v17 : zEq (η4 0 19) (η 0 19) := (k7.1.2.2.2.1 0 19 (by decide +kernel)).trans v16
  have c4_0_19 : η4 0 19 = η 0 19 := v17
  have wb5 : wB wl_le zTr η5 := k9.1.1
  have bx9 : (0 : Int) ≤ x9 ∧ x9 ≤ 0 := k9.1.2.1
  have v19 : zEq (η1 0 45) (η 0 45) := (k1.1.2.2.2.1 0 45 (by decide +kernel)).trans rfl
  have v20 : zEq (η2 0 45) (η 0 45) := (k2.1.2.2.2.1 0 45 (by decide +kernel)).trans v19
  have v21 : zEq (η3 0 45) (η 0 45) := (k4.1.2.2.2.1 0 45 (by decide +kernel)).trans v20
  have v22 : zEq (η4 0 45) (η 0 45) := (k7.1.2.2.2.1 0 45 (by decide +kernel)).trans v21
  have v23 : zEq (η5 0 45) (η 0 45) := (k9.1.2.2.2.1 0 45 (by decide +kernel)).trans v22
  have c5_0_45 : η5 0 45 = η 0 45 := v23
  have wb6 : wB wl_le zTr η6 := by rw [eη6]; exact wk_ok (a := 45) (b := 45) (z := ((-2147483648), 2147483647)) zTr_k (GR := []) wb5 (by decide +kernel) (by decide) (by decide) (show ((-2147483648) : Int) ≤ 0 by omega) (show 0 ≤ (2147483647 : Int) by omega)
  have fm1 : zFm zMle_leafRead η η1 := zFm_tr2 zFm_rf k1.1.2.2.2.1 (by decide +kernel)
  have fm2 : zFm zMle_leafRead η η2 := zFm_tr2 fm1 k2.1.2.2.2.1 (by decide +kernel)
  have fm3 : zFm zMle_leafRead η η3 := zFm_tr2 fm2 k4.1.2.2.2.1 (by decide +kernel)
  have fm4 : zFm zMle_leafRead η η4 := zFm_tr2 fm3 k7.1.2.2.2.1 (by decide +kernel)
  have fm5 : zFm zMle_leafRead η η5 := zFm_tr2 fm4 k9.1.2.2.2.1 (by decide +kernel)
  have fm6 : zFm zMle_leafRead η η6 := by rw [eη6]; exact zFm_up fm5 rfl
  have fmE : zFm zMle_leafRead η η6 := fm6
  have fr22_0 : ∀ j, η 22 j = η 22 j := fun _ => rfl
  have v24 : ∀ j, η1 22 j = η 22 j := fun j => k1.1.2.2.2.1 22 _ (zinr_not (by decide +kernel))
  have fr22_1 : ∀ j, η1 22 j = η 22 j := v24
  have v25 : ∀ j, η2 22 j = η 22 j := fun j => (k2.1.2.2.2.1 22 _ (zinr_not (by decide +kernel))).trans (v24 j)
  have fr22_2 : ∀ j, η2 22 j = η 22 j := v25
  have v26 : ∀ j, η3 22 j = η 22 j := fun j => (k4.1.2.2.2.1 22 _ (zinr_not (by decide +kernel))).trans (v25 j)
  have fr22_3 : ∀ j, η3 22 j = η 22 j := v26
  have v27 : ∀ j, η4 22 j = η 22 j := fun j => (k7.1.2.2.2.1 22 _ (zinr_not (by decide +kernel))).trans (v26 j)
  have fr22_4 : ∀ j, η4 22 j = η 22 j := v27
  have v28 : ∀ j, η5 22 j = η 22 j := fun j => (k9.1.2.2.2.1 22 _ (zinr_not (by decide +kernel))).trans (v27 j)
  have fr22_5 : ∀ j, η5 22 j = η 22 j := v28
  have v29 : ∀ j, η6 22 j = η 22 j := fun j => by rw [eη6]; exact (zup_ne (fun e _ => absurd e (by decide))).trans (v28 j)
  have fr22_6 : ∀ j, η6 22 j = η 22 j := v29
  have fr22 : ∀ j, η6 22 j = η 22 j := v29
  have v31 : zEq (η1 0 41) (η 0 41) := (k1.1.2.2.2.1 0 41 (by decide +kernel)).trans rfl
  have v32 : zEq (η2 0 41) (η 0 41) := (k2.1.2.2.2.1 0 41 (by decide +kernel)).trans v31
  have v33 : zEq (η3 0 41) (η 0 41) := (k4.1.2.2.2.1 0 41 (by decide +kernel)).trans v32
  have v34 : zEq (η4 0 41) (η 0 41) := (k7.1.2.2.2.1 0 41 (by decide +kernel)).trans v33
  have v35 : zEq (η5 0 41) (η 0 41) := (k9.1.2.2.2.1 0 41 (by decide +kernel)).trans v34
  have v36 : zEq (η6 0 41) (η 0 41) := by rw [eη6]; exact (zup_ne (fun _ e => absurd e (by decide))).trans v35
  have f0_41 : η6 0 41 = η 0 41 := v36
  have w0_0_43 : (0 : Int) ≤ η 0 43 ∧ η 0 43 ≤ 8 := wf_ok (a := 43) (b := 43) (z := (0, 8)) hp.1 (by decide +kernel) (Nat.le_refl _) (Nat.le_refl _)
  have v38 : zEq (η1 0 43) (η 0 43) := (k1.1.2.2.2.1 0 43 (by decide +kernel)).trans rfl
  have v39 : zEq (η2 0 43) (η 0 43) := (k2.1.2.2.2.1 0 43 (by decide +kernel)).trans v38
  have v40 : zEq (η3 0 43) (η 0 43) := (k4.1.2.2.2.1 0 43 (by decide +kernel)).trans v39
  have v41 : zEq (η4 0 43) (η 0 43) := (k7.1.2.2.2.1 0 43 (by decide +kernel)).trans v40
  have v42 : zEq (η5 0 43) (η 0 43) := (k9.1.2.2.2.1 0 43 (by decide +kernel)).trans v41
  have v43 : zEq (η6 0 43) (η 0 43) := by rw [eη6]; exact (zup_ne (fun _ e => absurd e (by decide))).trans v42
  have f0_43 : η6 0 43 = η 0 43 := v43
  have v45 : zEq (η6 0 42) (η5 0 42) := by rw [eη6]; exact (zup_ne (fun _ e => absurd e (by decide))).trans rfl
  have f0_42 : η6 0 42 = η5 0 42 := v45
  have v46 : zEq (η6 0 45) (0) := by rw [eη6]; exact zup_eq
  have f0_45 : η6 0 45 = 0 := v46
  have w5_0_19 : (0 : Int) ≤ η5 0 19 ∧ η5 0 19 ≤ 64 := wf_ok (a := 19) (b := 19) (z := (0, 64)) k9.1.1 (by decide +kernel) (Nat.le_refl _) (Nat.le_refl _)
  have v48 : zEq (η6 0 19) (η5 0 19) := by rw [eη6]; exact (zup_ne (fun _ e => absurd e (by decide))).trans rfl
  have f0_19 : η6 0 19 = η5 0 19 := v48
  have w4_0_44 : (0 : Int) ≤ η4 0 44 ∧ η4 0 44 ≤ 64 := wf_ok (a := 44) (b := 44) (z := (0, 64)) k7.1.1 (by decide +kernel) (Nat.le_refl _) (Nat.le_refl _)
  have v50 : zEq (η5 0 44) (η4 0 44) := (k9.1.2.2.2.1 0 44 (by decide +kernel)).trans rfl
  have v51 : zEq (η6 0 44) (η4 0 44) := by rw [eη6]; exact (zup_ne (fun _ e => absurd e (by decide))).trans v50
  have f0_44 : η6 0 44 = η4 0 44 := v51
  have w0_0_7 : (0 : Int) ≤ η 0 7 ∧ η 0 7 ≤ 700 := wf_ok (a := 7) (b := 7) (z := (0, 700)) hp.1 (by decide +kernel) (Nat.le_refl _) (Nat.le_refl _)
  have v53 : zEq (η1 0 7) (η 0 7) := (k1.1.2.2.2.1 0 7 (by decide +kernel)).trans rfl
  have v54 : zEq (η2 0 7) (η 0 7) := (k2.1.2.2.2.1 0 7 (by decide +kernel)).trans v53
  have v55 : zEq (η3 0 7) (η 0 7) := (k4.1.2.2.2.1 0 7 (by decide +kernel)).trans v54
  have v56 : zEq (η4 0 7) (η 0 7) := (k7.1.2.2.2.1 0 7 (by decide +kernel)).trans v55
  have v57 : zEq (η5 0 7) (η 0 7) := (k9.1.2.2.2.1 0 7 (by decide +kernel)).trans v56
  have v58 : zEq (η6 0 7) (η 0 7) := by rw [eη6]; exact (zup_ne (fun _ e => absurd e (by decide))).trans v57
  have f0_7 : η6 0 7 = η 0 7 := v58
  have w0_0_6 : (0 : Int) ≤ η 0 6 ∧ η 0 6 ≤ 700 := wf_ok (a := 6) (b := 6) (z := (0, 700)) hp.1 (by decide +kernel) (Nat.le_refl _) (Nat.le_refl _)
  have v60 : zEq (η1 0 6) (η 0 6) := (k1.1.2.2.2.1 0 6 (by decide +kernel)).trans rfl
  have v61 : zEq (η2 0 6) (η 0 6) := (k2.1.2.2.2.1 0 6 (by decide +kernel)).trans v60
  have v62 : zEq (η3 0 6) (η 0 6) := (k4.1.2.2.2.1 0 6 (by decide +kernel)).trans v61
  have v63 : zEq (η4 0 6) (η 0 6) := (k7.1.2.2.2.1 0 6 (by decide +kernel)).trans v62
  have v64 : zEq (η5 0 6) (η 0 6) := (k9.1.2.2.2.1 0 6 (by decide +kernel)).trans v63
  have v65 : zEq (η6 0 6) (η 0 6) := by rw [eη6]; exact (zup_ne (fun _ e => absurd e (by decide))).trans v64
  have f0_6 : η6 0 6 = η 0 6 := v65
  have v66 : zEq (η5 0 8) (η 0 8) := (k9.1.2.2.2.1 0 8 (by decide +kernel)).trans v12
  have v67 : zEq (η6 0 8) (η 0 8) := by rw [eη6]; exact (zup_ne (fun _ e => absurd e (by decide))).trans v66
  have f0_8 : η6 0 8 = η 0 8 := v67
  have wbE : wB wl_le zTr η6 := wb6
  
  have I0 : H_l 0 0 0 η := hpp.1
  have I1 : H_l 0 0 0 η1 := k1.2.1
  have I2 : H_l 0 0 0 η2 := k2.2.1
  have qk2 : η1 0 8 = 1 := k2.2.2 c2
  have I3 : H_l 0 0 0 η3 := k4.2.1
  have I4 : H_l 1 0 0 η4 := k7.2.1 c8
  have I5 : H_l 0 0 1 η5 := k9.2.1 I4
  have qg9 : η5 0 19 = η4 0 19 + 1 := k9.2.2.2
  have I6 : H_l 0 0 0 η6 := by rw [eη6]; exact h_eq (wn_up I5) rfl rfl (by apply Int.le_antisymm <;> omega)
  exact I6
set_option maxHeartbeats 8000000 in
theorem zle_leafRead_o26 {ro : Nat → List Int32} (η : zE) (hp : sP wl_le zTr zPle_leafRead [] η) (hpp : pPle_leafRead [] η) : ∀ (x1 : Int) (η1 : zE), ((gC2 wl_le [(nat_lit 0, zPle_isSign, zOle_isSign, zMle_isSign), (nat_lit 1, zPle_wrong, zOle_wrong, zMle_wrong), (nat_lit 2, zPle_waitsFor0, zOle_waitsFor0, zMle_waitsFor0), (nat_lit 3, zPle_token, zOle_token, zMle_token), (nat_lit 4, zPle_isKey, zOle_isKey, zMle_isKey), (nat_lit 5, zPle_isCounted, zOle_isCounted, zMle_isCounted), (nat_lit 6, zPle_waitsFor2, zOle_waitsFor2, zMle_waitsFor2), (nat_lit 7, zPle_nameMet, zOle_nameMet, zMle_nameMet), (nat_lit 8, zPle_grown, zOle_grown, zMle_grown)] pCle_leafRead qCle_leafRead) 0).2 [40] η x1 η1 → (x1 = 0) → ∀ (x2 : Int) (η2 : zE), ((gC2 wl_le [(nat_lit 0, zPle_isSign, zOle_isSign, zMle_isSign), (nat_lit 1, zPle_wrong, zOle_wrong, zMle_wrong), (nat_lit 2, zPle_waitsFor0, zOle_waitsFor0, zMle_waitsFor0), (nat_lit 3, zPle_token, zOle_token, zMle_token), (nat_lit 4, zPle_isKey, zOle_isKey, zMle_isKey), (nat_lit 5, zPle_isCounted, zOle_isCounted, zMle_isCounted), (nat_lit 6, zPle_waitsFor2, zOle_waitsFor2, zMle_waitsFor2), (nat_lit 7, zPle_nameMet, zOle_nameMet, zMle_nameMet), (nat_lit 8, zPle_grown, zOle_grown, zMle_grown)] pCle_leafRead qCle_leafRead) 4).2 [12] η1 x2 η2 → (¬ x2 = 0) → ∀ x3 : Int, x3 = η2 0 (Int.toNat 46) → zok 1 x3 → (x3 = 0) → ∀ (x4 : Int) (η3 : zE), ((gC2 wl_le [(nat_lit 0, zPle_isSign, zOle_isSign, zMle_isSign), (nat_lit 1, zPle_wrong, zOle_wrong, zMle_wrong), (nat_lit 2, zPle_waitsFor0, zOle_waitsFor0, zMle_waitsFor0), (nat_lit 3, zPle_token, zOle_token, zMle_token), (nat_lit 4, zPle_isKey, zOle_isKey, zMle_isKey), (nat_lit 5, zPle_isCounted, zOle_isCounted, zMle_isCounted), (nat_lit 6, zPle_waitsFor2, zOle_waitsFor2, zMle_waitsFor2), (nat_lit 7, zPle_nameMet, zOle_nameMet, zMle_nameMet), (nat_lit 8, zPle_grown, zOle_grown, zMle_grown)] pCle_leafRead qCle_leafRead) 7).2 [] η2 x4 η3 → (x4 < 0) → ∀ x5 : Int, x5 = η3 0 (Int.toNat 8) → zok 0 x5 → (x5 = 3) → (x4 < 0) → ∀ x6 : Int, x6 = η3 0 (Int.toNat 9) → zok 0 x6 → (x6 ≤ 9999) → ∀ (x7 : Int) (η4 : zE), ((gC2 wl_le [(nat_lit 0, zPle_isSign, zOle_isSign, zMle_isSign), (nat_lit 1, zPle_wrong, zOle_wrong, zMle_wrong), (nat_lit 2, zPle_waitsFor0, zOle_waitsFor0, zMle_waitsFor0), (nat_lit 3, zPle_token, zOle_token, zMle_token), (nat_lit 4, zPle_isKey, zOle_isKey, zMle_isKey), (nat_lit 5, zPle_isCounted, zOle_isCounted, zMle_isCounted), (nat_lit 6, zPle_waitsFor2, zOle_waitsFor2, zMle_waitsFor2), (nat_lit 7, zPle_nameMet, zOle_nameMet, zMle_nameMet), (nat_lit 8, zPle_grown, zOle_grown, zMle_grown)] pCle_leafRead qCle_leafRead) 5).2 [] η3 x7 η4 → (¬ x7 = 0) → (x4 < 0) → (x4 < 0) → ∀ x8 : Int, x8 = η4 0 (Int.toNat 9) → zok 0 x8 → ∀ (x9 : Int) (η5 : zE), ((gC2 wl_le [(nat_lit 0, zPle_isSign, zOle_isSign, zMle_isSign), (nat_lit 1, zPle_wrong, zOle_wrong, zMle_wrong), (nat_lit 2, zPle_waitsFor0, zOle_waitsFor0, zMle_waitsFor0), (nat_lit 3, zPle_token, zOle_token, zMle_token), (nat_lit 4, zPle_isKey, zOle_isKey, zMle_isKey), (nat_lit 5, zPle_isCounted, zOle_isCounted, zMle_isCounted), (nat_lit 6, zPle_waitsFor2, zOle_waitsFor2, zMle_waitsFor2), (nat_lit 7, zPle_nameMet, zOle_nameMet, zMle_nameMet), (nat_lit 8, zPle_grown, zOle_grown, zMle_grown)] pCle_leafRead qCle_leafRead) 8).2 [0, x8, 0] η4 x9 η5 → ∀ η6 : zE, η6 = zup η5 0 (Int.toNat 45) 0 → ∀ (x10 : Int) (η7 : zE), ((gC2 wl_le [(nat_lit 0, zPle_isSign, zOle_isSign, zMle_isSign), (nat_lit 1, zPle_wrong, zOle_wrong, zMle_wrong), (nat_lit 2, zPle_waitsFor0, zOle_waitsFor0, zMle_waitsFor0), (nat_lit 3, zPle_token, zOle_token, zMle_token), (nat_lit 4, zPle_isKey, zOle_isKey, zMle_isKey), (nat_lit 5, zPle_isCounted, zOle_isCounted, zMle_isCounted), (nat_lit 6, zPle_waitsFor2, zOle_waitsFor2, zMle_waitsFor2), (nat_lit 7, zPle_nameMet, zOle_nameMet, zMle_nameMet), (nat_lit 8, zPle_grown, zOle_grown, zMle_grown)] pCle_leafRead qCle_leafRead) 3).2 [] η6 x10 η7 → (fun (_ : Nat) (y : Int) (η' : zE) => pQle_leafRead [] η y η') 0 1 η7 := by
  intro x1 η1 h1 c1 x2 η2 h2 c2 x3 e3 r3 c3 x4 η3 h4 c4 x5 e5 r5 c5 c6 x6 e6 r6 c7 x7 η4 h7 c8 c9 c10 x8 e8 r8 x9 η5 h9 η6 eη6 x10 η7 h10
  have y1 : fQle_isSign [40] η x1 η1 := h1.2.2
  have k1 : sQ wl_le zTr zOle_isSign zMle_isSign [40] η x1 η1 ∧ oQle_isSign [40] η x1 η1 := ⟨h1.1, h1.2.1⟩
  have y2 : fQle_isKey [12] η1 x2 η2 := h2.2.2
  have k2 : sQ wl_le zTr zOle_isKey zMle_isKey [12] η1 x2 η2 ∧ oQle_isKey [12] η1 x2 η2 := ⟨h2.1, h2.2.1⟩
  have y4 : fQle_nameMet [] η2 x4 η3 := h4.2.2
  have k4 : sQ wl_le zTr zOle_nameMet zMle_nameMet [] η2 x4 η3 ∧ oQle_nameMet [] η2 x4 η3 := ⟨h4.1, h4.2.1⟩
  have y7 : fQle_isCounted [] η3 x7 η4 := h7.2.2
  have k7 : sQ wl_le zTr zOle_isCounted zMle_isCounted [] η3 x7 η4 ∧ oQle_isCounted [] η3 x7 η4 := ⟨h7.1, h7.2.1⟩
  have y9 : fQle_grown [0, x8, 0] η4 x9 η5 := h9.2.2
  have k9 : sQ wl_le zTr zOle_grown zMle_grown [0, x8, 0] η4 x9 η5 ∧ oQle_grown [0, x8, 0] η4 x9 η5 := ⟨h9.1, h9.2.1⟩
  have y10 : fQle_token [] η6 x10 η7 := h10.2.2
  have k10 : sQ wl_le zTr zOle_token zMle_token [] η6 x10 η7 ∧ oQle_token [] η6 x10 η7 := ⟨h10.1, h10.2.1⟩
  refine yj_a ?_ ?_
  · have hw : η 0 45 = 1 := hpp.2
    have hs : η 0 7 ≤ η 0 6 := hpp.1.1.1.1
    have bd43 : (0 : Int) ≤ η 0 43 ∧ η 0 43 ≤ 8 := wf_ok (a := 43) (b := 43) (z := (0, 8)) hp.1 (by decide +kernel) (Nat.le_refl _) (Nat.le_refl _)
    have bd44 : (0 : Int) ≤ η 0 44 ∧ η 0 44 ≤ 64 := wf_ok (a := 44) (b := 44) (z := (0, 64)) hp.1 (by decide +kernel) (Nat.le_refl _) (Nat.le_refl _)
    have bd19 : (0 : Int) ≤ η 0 19 ∧ η 0 19 ≤ 64 := wf_ok (a := 19) (b := 19) (z := (0, 64)) hp.1 (by decide +kernel) (Nat.le_refl _) (Nat.le_refl _)
    have y1 : fQle_isSign [40] η x1 η1 := h1.2.2
    have k1 : sQ wl_le zTr zOle_isSign zMle_isSign [40] η x1 η1 ∧ oQle_isSign [40] η x1 η1 := ⟨h1.1, h1.2.1⟩
    have y2 : fQle_isKey [12] η1 x2 η2 := h2.2.2
    have k2 : sQ wl_le zTr zOle_isKey zMle_isKey [12] η1 x2 η2 ∧ oQle_isKey [12] η1 x2 η2 := ⟨h2.1, h2.2.1⟩
    have y4 : fQle_nameMet [] η2 x4 η3 := h4.2.2
    have k4 : sQ wl_le zTr zOle_nameMet zMle_nameMet [] η2 x4 η3 ∧ oQle_nameMet [] η2 x4 η3 := ⟨h4.1, h4.2.1⟩
    have y7 : fQle_isCounted [] η3 x7 η4 := h7.2.2
    have k7 : sQ wl_le zTr zOle_isCounted zMle_isCounted [] η3 x7 η4 ∧ oQle_isCounted [] η3 x7 η4 := ⟨h7.1, h7.2.1⟩
    have y9 : fQle_grown [0, x8, 0] η4 x9 η5 := h9.2.2
    have k9 : sQ wl_le zTr zOle_grown zMle_grown [0, x8, 0] η4 x9 η5 ∧ oQle_grown [0, x8, 0] η4 x9 η5 := ⟨h9.1, h9.2.1⟩
    have y10 : fQle_token [] η6 x10 η7 := h10.2.2
    have k10 : sQ wl_le zTr zOle_token zMle_token [] η6 x10 η7 ∧ oQle_token [] η6 x10 η7 := ⟨h10.1, h10.2.1⟩
    have w0_0_8 : (0 : Int) ≤ η 0 8 ∧ η 0 8 ≤ 6 := wf_ok (a := 8) (b := 8) (z := (0, 6)) hp.1 (by decide +kernel) (Nat.le_refl _) (Nat.le_refl _)
    have c0_0_8 : η 0 8 = η 0 8 := rfl
    have wb1 : wB wl_le zTr η1 := k1.1.1
    have bx1 : (0 : Int) ≤ x1 ∧ x1 ≤ 1 := k1.1.2.1
    have v1 : zEq (η1 0 8) (η 0 8) := (k1.1.2.2.2.1 0 8 (by decide +kernel)).trans rfl
    have c1_0_8 : η1 0 8 = η 0 8 := v1
    have wb2 : wB wl_le zTr η2 := k2.1.1
    have bx2 : (0 : Int) ≤ x2 ∧ x2 ≤ 1 := k2.1.2.1
    have v3 : zEq (η1 0 46) (η 0 46) := (k1.1.2.2.2.1 0 46 (by decide +kernel)).trans rfl
    have v4 : zEq (η2 0 46) (η 0 46) := (k2.1.2.2.2.1 0 46 (by decide +kernel)).trans v3
    replace e3 : x3 = η 0 46 := e3.trans v4
    replace r3 : 0 ≤ x3 ∧ x3 ≤ 1 := r3
    have v5 : zEq (η2 0 8) (η 0 8) := (k2.1.2.2.2.1 0 8 (by decide +kernel)).trans v1
    have c2_0_8 : η2 0 8 = η 0 8 := v5
    have wb3 : wB wl_le zTr η3 := k4.1.1
    have bx4 : ((-1) : Int) ≤ x4 ∧ x4 ≤ 6 := k4.1.2.1
    have v6 : zEq (η3 0 8) (η 0 8) := (k4.1.2.2.2.1 0 8 (by decide +kernel)).trans v5
    replace e5 : x5 = η 0 8 := e5.trans v6
    have v8 : zEq (η1 0 9) (η 0 9) := (k1.1.2.2.2.1 0 9 (by decide +kernel)).trans rfl
    have v9 : zEq (η2 0 9) (η 0 9) := (k2.1.2.2.2.1 0 9 (by decide +kernel)).trans v8
    have v10 : zEq (η3 0 9) (η 0 9) := (k4.1.2.2.2.1 0 9 (by decide +kernel)).trans v9
    replace e6 : x6 = η 0 9 := e6.trans v10
    replace r6 : -2147483648 ≤ x6 ∧ x6 ≤ 2147483647 := r6
    have c3_0_8 : η3 0 8 = η 0 8 := v6
    have wb4 : wB wl_le zTr η4 := k7.1.1
    have bx7 : (0 : Int) ≤ x7 ∧ x7 ≤ 1 := k7.1.2.1
    have v11 : zEq (η4 0 9) (η 0 9) := (k7.1.2.2.2.1 0 9 (by decide +kernel)).trans v10
    replace e8 : x8 = η 0 9 := e8.trans v11
    replace r8 : -2147483648 ≤ x8 ∧ x8 ≤ 2147483647 := r8
    have v12 : zEq (η4 0 8) (η 0 8) := (k7.1.2.2.2.1 0 8 (by decide +kernel)).trans v6
    have c4_0_8 : η4 0 8 = η 0 8 := v12
    have w0_0_19 : (0 : Int) ≤ η 0 19 ∧ η 0 19 ≤ 64 := wf_ok (a := 19) (b := 19) (z := (0, 64)) hp.1 (by decide +kernel) (Nat.le_refl _) (Nat.le_refl _)
    have v14 : zEq (η1 0 19) (η 0 19) := (k1.1.2.2.2.1 0 19 (by decide +kernel)).trans rfl
    have v15 : zEq (η2 0 19) (η 0 19) := (k2.1.2.2.2.1 0 19 (by decide +kernel)).trans v14
    have v16 : zEq (η3 0 19) (η 0 19) := (k4.1.2.2.2.1 0 19 (by decide +kernel)).trans v15
    have v17 : zEq (η4 0 19) (η 0 19) := (k7.1.2.2.2.1 0 19 (by decide +kernel)).trans v16
    have c4_0_19 : η4 0 19 = η 0 19 := v17
    have wb5 : wB wl_le zTr η5 := k9.1.1
    have bx9 : (0 : Int) ≤ x9 ∧ x9 ≤ 0 := k9.1.2.1
    have v19 : zEq (η1 0 45) (η 0 45) := (k1.1.2.2.2.1 0 45 (by decide +kernel)).trans rfl
    have v20 : zEq (η2 0 45) (η 0 45) := (k2.1.2.2.2.1 0 45 (by decide +kernel)).trans v19
    have v21 : zEq (η3 0 45) (η 0 45) := (k4.1.2.2.2.1 0 45 (by decide +kernel)).trans v20
    have v22 : zEq (η4 0 45) (η 0 45) := (k7.1.2.2.2.1 0 45 (by decide +kernel)).trans v21
    have v23 : zEq (η5 0 45) (η 0 45) := (k9.1.2.2.2.1 0 45 (by decide +kernel)).trans v22
    have c5_0_45 : η5 0 45 = η 0 45 := v23
    have wb6 : wB wl_le zTr η6 := by rw [eη6]; exact wk_ok (a := 45) (b := 45) (z := ((-2147483648), 2147483647)) zTr_k (GR := []) wb5 (by decide +kernel) (by decide) (by decide) (show ((-2147483648) : Int) ≤ 0 by omega) (show 0 ≤ (2147483647 : Int) by omega)
    have w0_0_7 : (0 : Int) ≤ η 0 7 ∧ η 0 7 ≤ 700 := wf_ok (a := 7) (b := 7) (z := (0, 700)) hp.1 (by decide +kernel) (Nat.le_refl _) (Nat.le_refl _)
    have v25 : zEq (η1 0 7) (η 0 7) := (k1.1.2.2.2.1 0 7 (by decide +kernel)).trans rfl
    have v26 : zEq (η2 0 7) (η 0 7) := (k2.1.2.2.2.1 0 7 (by decide +kernel)).trans v25
    have v27 : zEq (η3 0 7) (η 0 7) := (k4.1.2.2.2.1 0 7 (by decide +kernel)).trans v26
    have v28 : zEq (η4 0 7) (η 0 7) := (k7.1.2.2.2.1 0 7 (by decide +kernel)).trans v27
    have v29 : zEq (η5 0 7) (η 0 7) := (k9.1.2.2.2.1 0 7 (by decide +kernel)).trans v28
    have v30 : zEq (η6 0 7) (η 0 7) := by rw [eη6]; exact (zup_ne (fun _ e => absurd e (by decide))).trans v29
    have c6_0_7 : η6 0 7 = η 0 7 := v30
    have w0_0_6 : (0 : Int) ≤ η 0 6 ∧ η 0 6 ≤ 700 := wf_ok (a := 6) (b := 6) (z := (0, 700)) hp.1 (by decide +kernel) (Nat.le_refl _) (Nat.le_refl _)
    have v32 : zEq (η1 0 6) (η 0 6) := (k1.1.2.2.2.1 0 6 (by decide +kernel)).trans rfl
    have v33 : zEq (η2 0 6) (η 0 6) := (k2.1.2.2.2.1 0 6 (by decide +kernel)).trans v32
    have v34 : zEq (η3 0 6) (η 0 6) := (k4.1.2.2.2.1 0 6 (by decide +kernel)).trans v33
    have v35 : zEq (η4 0 6) (η 0 6) := (k7.1.2.2.2.1 0 6 (by decide +kernel)).trans v34
    have v36 : zEq (η5 0 6) (η 0 6) := (k9.1.2.2.2.1 0 6 (by decide +kernel)).trans v35
    have v37 : zEq (η6 0 6) (η 0 6) := by rw [eη6]; exact (zup_ne (fun _ e => absurd e (by decide))).trans v36
    have c6_0_6 : η6 0 6 = η 0 6 := v37
    have v38 : zEq (η5 0 8) (η 0 8) := (k9.1.2.2.2.1 0 8 (by decide +kernel)).trans v12
    have v39 : zEq (η6 0 8) (η 0 8) := by rw [eη6]; exact (zup_ne (fun _ e => absurd e (by decide))).trans v38
    have c6_0_8 : η6 0 8 = η 0 8 := v39
    have wb7 : wB wl_le zTr η7 := k10.1.1
    have bx10 : (0 : Int) ≤ x10 ∧ x10 ≤ 0 := k10.1.2.1
    have fm1 : zFm zMle_leafRead η η1 := zFm_tr2 zFm_rf k1.1.2.2.2.1 (by decide +kernel)
    have fm2 : zFm zMle_leafRead η η2 := zFm_tr2 fm1 k2.1.2.2.2.1 (by decide +kernel)
    have fm3 : zFm zMle_leafRead η η3 := zFm_tr2 fm2 k4.1.2.2.2.1 (by decide +kernel)
    have fm4 : zFm zMle_leafRead η η4 := zFm_tr2 fm3 k7.1.2.2.2.1 (by decide +kernel)
    have fm5 : zFm zMle_leafRead η η5 := zFm_tr2 fm4 k9.1.2.2.2.1 (by decide +kernel)
    have fm6 : zFm zMle_leafRead η η6 := by rw [eη6]; exact zFm_up fm5 rfl
    have fm7 : zFm zMle_leafRead η η7 := zFm_tr2 fm6 k10.1.2.2.2.1 (by decide +kernel)
    have fmE : zFm zMle_leafRead η η7 := fm7
    have fr22_0 : ∀ j, η 22 j = η 22 j := fun _ => rfl
    have v40 : ∀ j, η1 22 j = η 22 j := fun j => k1.1.2.2.2.1 22 _ (zinr_not (by decide +kernel))
    have fr22_1 : ∀ j, η1 22 j = η 22 j := v40
    have v41 : ∀ j, η2 22 j = η 22 j := fun j => (k2.1.2.2.2.1 22 _ (zinr_not (by decide +kernel))).trans (v40 j)
    have fr22_2 : ∀ j, η2 22 j = η 22 j := v41
    have v42 : ∀ j, η3 22 j = η 22 j := fun j => (k4.1.2.2.2.1 22 _ (zinr_not (by decide +kernel))).trans (v41 j)
    have fr22_3 : ∀ j, η3 22 j = η 22 j := v42
    have v43 : ∀ j, η4 22 j = η 22 j := fun j => (k7.1.2.2.2.1 22 _ (zinr_not (by decide +kernel))).trans (v42 j)
    have fr22_4 : ∀ j, η4 22 j = η 22 j := v43
    have v44 : ∀ j, η5 22 j = η 22 j := fun j => (k9.1.2.2.2.1 22 _ (zinr_not (by decide +kernel))).trans (v43 j)
    have fr22_5 : ∀ j, η5 22 j = η 22 j := v44
    have v45 : ∀ j, η6 22 j = η 22 j := fun j => by rw [eη6]; exact (zup_ne (fun e _ => absurd e (by decide))).trans (v44 j)
    have fr22_6 : ∀ j, η6 22 j = η 22 j := v45
    have v46 : ∀ j, η7 22 j = η 22 j := fun j => (k10.1.2.2.2.1 22 _ (zinr_not (by decide +kernel))).trans (v45 j)
    have fr22_7 : ∀ j, η7 22 j = η 22 j := v46
    have fr22 : ∀ j, η7 22 j = η 22 j := v46
    have v48 : zEq (η1 0 41) (η 0 41) := (k1.1.2.2.2.1 0 41 (by decide +kernel)).trans rfl
    have v49 : zEq (η2 0 41) (η 0 41) := (k2.1.2.2.2.1 0 41 (by decide +kernel)).trans v48
    have v50 : zEq (η3 0 41) (η 0 41) := (k4.1.2.2.2.1 0 41 (by decide +kernel)).trans v49
    have v51 : zEq (η4 0 41) (η 0 41) := (k7.1.2.2.2.1 0 41 (by decide +kernel)).trans v50
    have v52 : zEq (η5 0 41) (η 0 41) := (k9.1.2.2.2.1 0 41 (by decide +kernel)).trans v51
    have v53 : zEq (η6 0 41) (η 0 41) := by rw [eη6]; exact (zup_ne (fun _ e => absurd e (by decide))).trans v52
    have v54 : zEq (η7 0 41) (η 0 41) := (k10.1.2.2.2.1 0 41 (by decide +kernel)).trans v53
    have f0_41 : η7 0 41 = η 0 41 := v54
    have w0_0_43 : (0 : Int) ≤ η 0 43 ∧ η 0 43 ≤ 8 := wf_ok (a := 43) (b := 43) (z := (0, 8)) hp.1 (by decide +kernel) (Nat.le_refl _) (Nat.le_refl _)
    have v56 : zEq (η1 0 43) (η 0 43) := (k1.1.2.2.2.1 0 43 (by decide +kernel)).trans rfl
    have v57 : zEq (η2 0 43) (η 0 43) := (k2.1.2.2.2.1 0 43 (by decide +kernel)).trans v56
    have v58 : zEq (η3 0 43) (η 0 43) := (k4.1.2.2.2.1 0 43 (by decide +kernel)).trans v57
    have v59 : zEq (η4 0 43) (η 0 43) := (k7.1.2.2.2.1 0 43 (by decide +kernel)).trans v58
    have v60 : zEq (η5 0 43) (η 0 43) := (k9.1.2.2.2.1 0 43 (by decide +kernel)).trans v59
    have v61 : zEq (η6 0 43) (η 0 43) := by rw [eη6]; exact (zup_ne (fun _ e => absurd e (by decide))).trans v60
    have v62 : zEq (η7 0 43) (η 0 43) := (k10.1.2.2.2.1 0 43 (by decide +kernel)).trans v61
    have f0_43 : η7 0 43 = η 0 43 := v62
    have v64 : zEq (η6 0 42) (η5 0 42) := by rw [eη6]; exact (zup_ne (fun _ e => absurd e (by decide))).trans rfl
    have v65 : zEq (η7 0 42) (η5 0 42) := (k10.1.2.2.2.1 0 42 (by decide +kernel)).trans v64
    have f0_42 : η7 0 42 = η5 0 42 := v65
    have v66 : zEq (η6 0 45) (0) := by rw [eη6]; exact zup_eq
    have v67 : zEq (η7 0 45) (0) := (k10.1.2.2.2.1 0 45 (by decide +kernel)).trans v66
    have f0_45 : η7 0 45 = 0 := v67
    have w5_0_19 : (0 : Int) ≤ η5 0 19 ∧ η5 0 19 ≤ 64 := wf_ok (a := 19) (b := 19) (z := (0, 64)) k9.1.1 (by decide +kernel) (Nat.le_refl _) (Nat.le_refl _)
    have v69 : zEq (η6 0 19) (η5 0 19) := by rw [eη6]; exact (zup_ne (fun _ e => absurd e (by decide))).trans rfl
    have v70 : zEq (η7 0 19) (η5 0 19) := (k10.1.2.2.2.1 0 19 (by decide +kernel)).trans v69
    have f0_19 : η7 0 19 = η5 0 19 := v70
    have w4_0_44 : (0 : Int) ≤ η4 0 44 ∧ η4 0 44 ≤ 64 := wf_ok (a := 44) (b := 44) (z := (0, 64)) k7.1.1 (by decide +kernel) (Nat.le_refl _) (Nat.le_refl _)
    have v72 : zEq (η5 0 44) (η4 0 44) := (k9.1.2.2.2.1 0 44 (by decide +kernel)).trans rfl
    have v73 : zEq (η6 0 44) (η4 0 44) := by rw [eη6]; exact (zup_ne (fun _ e => absurd e (by decide))).trans v72
    have v74 : zEq (η7 0 44) (η4 0 44) := (k10.1.2.2.2.1 0 44 (by decide +kernel)).trans v73
    have f0_44 : η7 0 44 = η4 0 44 := v74
    have w7_0_7 : (0 : Int) ≤ η7 0 7 ∧ η7 0 7 ≤ 700 := wf_ok (a := 7) (b := 7) (z := (0, 700)) k10.1.1 (by decide +kernel) (Nat.le_refl _) (Nat.le_refl _)
    have f0_7 : η7 0 7 = η7 0 7 := rfl
    have v76 : zEq (η7 0 6) (η 0 6) := (k10.1.2.2.2.1 0 6 (by decide +kernel)).trans v37
    have f0_6 : η7 0 6 = η 0 6 := v76
    have w7_0_8 : (0 : Int) ≤ η7 0 8 ∧ η7 0 8 ≤ 6 := wf_ok (a := 8) (b := 8) (z := (0, 6)) k10.1.1 (by decide +kernel) (Nat.le_refl _) (Nat.le_refl _)
    have f0_8 : η7 0 8 = η7 0 8 := rfl
    have wbE : wB wl_le zTr η7 := wb7
    
    have I0 : H_l 0 0 0 η := hpp.1
    have I1 : H_l 0 0 0 η1 := k1.2.1
    have I2 : H_l 0 0 0 η2 := k2.2.1
    have qk2 : η1 0 8 = 1 := k2.2.2 c2
    have I3 : H_l 0 0 0 η3 := k4.2.1
    have I4 : H_l 1 0 0 η4 := k7.2.1 c8
    have I5 : H_l 0 0 1 η5 := k9.2.1 I4
    have qg9 : η5 0 19 = η4 0 19 + 1 := k9.2.2.2
    have I6 : H_l 0 0 0 η6 := by rw [eη6]; exact h_eq (wn_up I5) rfl rfl (by apply Int.le_antisymm <;> omega)
    have I7 : H_l 0 0 0 η7 := k10.2.1
    have qt10 : ¬ η6 0 8 = 0 → 10 * (η7 0 6 - η7 0 7) + η7 0 8 < 10 * (η6 0 6 - η6 0 7) + η6 0 8 := k10.2.2
    refine ⟨I7.1, fun _ => ⟨I7, show 10 * (η7 0 6 - η7 0 7) + η7 0 8 < 10 * (η 0 6 - η 0 7) + η 0 8 by omega, fun w => ?_⟩⟩
    have w : η7 0 45 = 0 := w
    omega
  · obtain ⟨a1, b1⟩ : x1 = (yq_isS 40 η) ∧ η = η1 := ⟨y1.1, y1.2.symm⟩
    subst b1
    obtain ⟨a2, b2⟩ : x2 = (yq_isK 12 η) ∧ η = η2 := ⟨y2.1, y2.2.symm⟩
    subst b2
    have e3 : x3 = η 0 46 := e3
    obtain ⟨a4, b4⟩ : x4 = (yq_nm η) ∧ η = η3 := ⟨y4.1, y4.2.symm⟩
    subst b4
    have e5 : x5 = η 0 8 := e5
    have e6 : x6 = η 0 9 := e6
    obtain ⟨a7, b7⟩ : x7 = (yq_cny η) ∧ η4 = (yq_cns η) := y7
    have e8 : x8 = η4 0 9 := e8
    have b9 : η5 = (yq_gro 0 x8 0 η4) := y9
    have eη6 : η6 = zup η5 0 45 0 := eη6
    have b10 : η7 = (yq_tok η6) := y10
    show 1 = (yq_lf η).1 ∧ η7 = (yq_lf η).2
    simp only [yq_lf, yq_ct, yq_no, yq_inc, ← a1, ← a2, ← e3, ← a4, ← e5, ← e6, ← a7, ← b7, ← e8, ← b9, ← eη6, ← b10]
    all_goals ((repeat' split) <;> first | (exfalso; omega) | exact ⟨rfl, rfl⟩ | rfl)
set_option maxHeartbeats 8000000 in
theorem zle_leafRead_o27 {ro : Nat → List Int32} (η : zE) (hp : sP wl_le zTr zPle_leafRead [] η) (hpp : pPle_leafRead [] η) : ∀ (x1 : Int) (η1 : zE), ((gC2 wl_le [(nat_lit 0, zPle_isSign, zOle_isSign, zMle_isSign), (nat_lit 1, zPle_wrong, zOle_wrong, zMle_wrong), (nat_lit 2, zPle_waitsFor0, zOle_waitsFor0, zMle_waitsFor0), (nat_lit 3, zPle_token, zOle_token, zMle_token), (nat_lit 4, zPle_isKey, zOle_isKey, zMle_isKey), (nat_lit 5, zPle_isCounted, zOle_isCounted, zMle_isCounted), (nat_lit 6, zPle_waitsFor2, zOle_waitsFor2, zMle_waitsFor2), (nat_lit 7, zPle_nameMet, zOle_nameMet, zMle_nameMet), (nat_lit 8, zPle_grown, zOle_grown, zMle_grown)] pCle_leafRead qCle_leafRead) 0).2 [40] η x1 η1 → (x1 = 0) → ∀ (x2 : Int) (η2 : zE), ((gC2 wl_le [(nat_lit 0, zPle_isSign, zOle_isSign, zMle_isSign), (nat_lit 1, zPle_wrong, zOle_wrong, zMle_wrong), (nat_lit 2, zPle_waitsFor0, zOle_waitsFor0, zMle_waitsFor0), (nat_lit 3, zPle_token, zOle_token, zMle_token), (nat_lit 4, zPle_isKey, zOle_isKey, zMle_isKey), (nat_lit 5, zPle_isCounted, zOle_isCounted, zMle_isCounted), (nat_lit 6, zPle_waitsFor2, zOle_waitsFor2, zMle_waitsFor2), (nat_lit 7, zPle_nameMet, zOle_nameMet, zMle_nameMet), (nat_lit 8, zPle_grown, zOle_grown, zMle_grown)] pCle_leafRead qCle_leafRead) 4).2 [12] η1 x2 η2 → (¬ x2 = 0) → ∀ x3 : Int, x3 = η2 0 (Int.toNat 46) → zok 1 x3 → (x3 = 0) → ∀ (x4 : Int) (η3 : zE), ((gC2 wl_le [(nat_lit 0, zPle_isSign, zOle_isSign, zMle_isSign), (nat_lit 1, zPle_wrong, zOle_wrong, zMle_wrong), (nat_lit 2, zPle_waitsFor0, zOle_waitsFor0, zMle_waitsFor0), (nat_lit 3, zPle_token, zOle_token, zMle_token), (nat_lit 4, zPle_isKey, zOle_isKey, zMle_isKey), (nat_lit 5, zPle_isCounted, zOle_isCounted, zMle_isCounted), (nat_lit 6, zPle_waitsFor2, zOle_waitsFor2, zMle_waitsFor2), (nat_lit 7, zPle_nameMet, zOle_nameMet, zMle_nameMet), (nat_lit 8, zPle_grown, zOle_grown, zMle_grown)] pCle_leafRead qCle_leafRead) 7).2 [] η2 x4 η3 → (x4 < 0) → ∀ x5 : Int, x5 = η3 0 (Int.toNat 8) → zok 0 x5 → (x5 = 3) → (x4 < 0) → ∀ x6 : Int, x6 = η3 0 (Int.toNat 9) → zok 0 x6 → (x6 ≤ 9999) → ∀ (x7 : Int) (η4 : zE), ((gC2 wl_le [(nat_lit 0, zPle_isSign, zOle_isSign, zMle_isSign), (nat_lit 1, zPle_wrong, zOle_wrong, zMle_wrong), (nat_lit 2, zPle_waitsFor0, zOle_waitsFor0, zMle_waitsFor0), (nat_lit 3, zPle_token, zOle_token, zMle_token), (nat_lit 4, zPle_isKey, zOle_isKey, zMle_isKey), (nat_lit 5, zPle_isCounted, zOle_isCounted, zMle_isCounted), (nat_lit 6, zPle_waitsFor2, zOle_waitsFor2, zMle_waitsFor2), (nat_lit 7, zPle_nameMet, zOle_nameMet, zMle_nameMet), (nat_lit 8, zPle_grown, zOle_grown, zMle_grown)] pCle_leafRead qCle_leafRead) 5).2 [] η3 x7 η4 → (x7 = 0) → (fun (_ : Nat) (y : Int) (η' : zE) => pQle_leafRead [] η y η') 0 0 η4 := by
  intro x1 η1 h1 c1 x2 η2 h2 c2 x3 e3 r3 c3 x4 η3 h4 c4 x5 e5 r5 c5 c6 x6 e6 r6 c7 x7 η4 h7 c8
  have y1 : fQle_isSign [40] η x1 η1 := h1.2.2
  have k1 : sQ wl_le zTr zOle_isSign zMle_isSign [40] η x1 η1 ∧ oQle_isSign [40] η x1 η1 := ⟨h1.1, h1.2.1⟩
  have y2 : fQle_isKey [12] η1 x2 η2 := h2.2.2
  have k2 : sQ wl_le zTr zOle_isKey zMle_isKey [12] η1 x2 η2 ∧ oQle_isKey [12] η1 x2 η2 := ⟨h2.1, h2.2.1⟩
  have y4 : fQle_nameMet [] η2 x4 η3 := h4.2.2
  have k4 : sQ wl_le zTr zOle_nameMet zMle_nameMet [] η2 x4 η3 ∧ oQle_nameMet [] η2 x4 η3 := ⟨h4.1, h4.2.1⟩
  have y7 : fQle_isCounted [] η3 x7 η4 := h7.2.2
  have k7 : sQ wl_le zTr zOle_isCounted zMle_isCounted [] η3 x7 η4 ∧ oQle_isCounted [] η3 x7 η4 := ⟨h7.1, h7.2.1⟩
  refine yj_a ?_ ?_
  · have hw : η 0 45 = 1 := hpp.2
    have hs : η 0 7 ≤ η 0 6 := hpp.1.1.1.1
    have bd43 : (0 : Int) ≤ η 0 43 ∧ η 0 43 ≤ 8 := wf_ok (a := 43) (b := 43) (z := (0, 8)) hp.1 (by decide +kernel) (Nat.le_refl _) (Nat.le_refl _)
    have bd44 : (0 : Int) ≤ η 0 44 ∧ η 0 44 ≤ 64 := wf_ok (a := 44) (b := 44) (z := (0, 64)) hp.1 (by decide +kernel) (Nat.le_refl _) (Nat.le_refl _)
    have bd19 : (0 : Int) ≤ η 0 19 ∧ η 0 19 ≤ 64 := wf_ok (a := 19) (b := 19) (z := (0, 64)) hp.1 (by decide +kernel) (Nat.le_refl _) (Nat.le_refl _)
    have y1 : fQle_isSign [40] η x1 η1 := h1.2.2
    have k1 : sQ wl_le zTr zOle_isSign zMle_isSign [40] η x1 η1 ∧ oQle_isSign [40] η x1 η1 := ⟨h1.1, h1.2.1⟩
    have y2 : fQle_isKey [12] η1 x2 η2 := h2.2.2
    have k2 : sQ wl_le zTr zOle_isKey zMle_isKey [12] η1 x2 η2 ∧ oQle_isKey [12] η1 x2 η2 := ⟨h2.1, h2.2.1⟩
    have y4 : fQle_nameMet [] η2 x4 η3 := h4.2.2
    have k4 : sQ wl_le zTr zOle_nameMet zMle_nameMet [] η2 x4 η3 ∧ oQle_nameMet [] η2 x4 η3 := ⟨h4.1, h4.2.1⟩
    have y7 : fQle_isCounted [] η3 x7 η4 := h7.2.2
    have k7 : sQ wl_le zTr zOle_isCounted zMle_isCounted [] η3 x7 η4 ∧ oQle_isCounted [] η3 x7 η4 := ⟨h7.1, h7.2.1⟩
    have w0_0_8 : (0 : Int) ≤ η 0 8 ∧ η 0 8 ≤ 6 := wf_ok (a := 8) (b := 8) (z := (0, 6)) hp.1 (by decide +kernel) (Nat.le_refl _) (Nat.le_refl _)
    have c0_0_8 : η 0 8 = η 0 8 := rfl
    have wb1 : wB wl_le zTr η1 := k1.1.1
    have bx1 : (0 : Int) ≤ x1 ∧ x1 ≤ 1 := k1.1.2.1
    have v1 : zEq (η1 0 8) (η 0 8) := (k1.1.2.2.2.1 0 8 (by decide +kernel)).trans rfl
    have c1_0_8 : η1 0 8 = η 0 8 := v1
    have wb2 : wB wl_le zTr η2 := k2.1.1
    have bx2 : (0 : Int) ≤ x2 ∧ x2 ≤ 1 := k2.1.2.1
    have v3 : zEq (η1 0 46) (η 0 46) := (k1.1.2.2.2.1 0 46 (by decide +kernel)).trans rfl
    have v4 : zEq (η2 0 46) (η 0 46) := (k2.1.2.2.2.1 0 46 (by decide +kernel)).trans v3
    replace e3 : x3 = η 0 46 := e3.trans v4
    replace r3 : 0 ≤ x3 ∧ x3 ≤ 1 := r3
    have v5 : zEq (η2 0 8) (η 0 8) := (k2.1.2.2.2.1 0 8 (by decide +kernel)).trans v1
    have c2_0_8 : η2 0 8 = η 0 8 := v5
    have wb3 : wB wl_le zTr η3 := k4.1.1
    have bx4 : ((-1) : Int) ≤ x4 ∧ x4 ≤ 6 := k4.1.2.1
    have v6 : zEq (η3 0 8) (η 0 8) := (k4.1.2.2.2.1 0 8 (by decide +kernel)).trans v5
    replace e5 : x5 = η 0 8 := e5.trans v6
    have v8 : zEq (η1 0 9) (η 0 9) := (k1.1.2.2.2.1 0 9 (by decide +kernel)).trans rfl
    have v9 : zEq (η2 0 9) (η 0 9) := (k2.1.2.2.2.1 0 9 (by decide +kernel)).trans v8
    have v10 : zEq (η3 0 9) (η 0 9) := (k4.1.2.2.2.1 0 9 (by decide +kernel)).trans v9
    replace e6 : x6 = η 0 9 := e6.trans v10
    replace r6 : -2147483648 ≤ x6 ∧ x6 ≤ 2147483647 := r6
    have c3_0_8 : η3 0 8 = η 0 8 := v6
    have wb4 : wB wl_le zTr η4 := k7.1.1
    have bx7 : (0 : Int) ≤ x7 ∧ x7 ≤ 1 := k7.1.2.1
    have fm1 : zFm zMle_leafRead η η1 := zFm_tr2 zFm_rf k1.1.2.2.2.1 (by decide +kernel)
    have fm2 : zFm zMle_leafRead η η2 := zFm_tr2 fm1 k2.1.2.2.2.1 (by decide +kernel)
    have fm3 : zFm zMle_leafRead η η3 := zFm_tr2 fm2 k4.1.2.2.2.1 (by decide +kernel)
    have fm4 : zFm zMle_leafRead η η4 := zFm_tr2 fm3 k7.1.2.2.2.1 (by decide +kernel)
    have fmE : zFm zMle_leafRead η η4 := fm4
    have fr22_0 : ∀ j, η 22 j = η 22 j := fun _ => rfl
    have v11 : ∀ j, η1 22 j = η 22 j := fun j => k1.1.2.2.2.1 22 _ (zinr_not (by decide +kernel))
    have fr22_1 : ∀ j, η1 22 j = η 22 j := v11
    have v12 : ∀ j, η2 22 j = η 22 j := fun j => (k2.1.2.2.2.1 22 _ (zinr_not (by decide +kernel))).trans (v11 j)
    have fr22_2 : ∀ j, η2 22 j = η 22 j := v12
    have v13 : ∀ j, η3 22 j = η 22 j := fun j => (k4.1.2.2.2.1 22 _ (zinr_not (by decide +kernel))).trans (v12 j)
    have fr22_3 : ∀ j, η3 22 j = η 22 j := v13
    have v14 : ∀ j, η4 22 j = η 22 j := fun j => (k7.1.2.2.2.1 22 _ (zinr_not (by decide +kernel))).trans (v13 j)
    have fr22_4 : ∀ j, η4 22 j = η 22 j := v14
    have fr22 : ∀ j, η4 22 j = η 22 j := v14
    have v16 : zEq (η1 0 41) (η 0 41) := (k1.1.2.2.2.1 0 41 (by decide +kernel)).trans rfl
    have v17 : zEq (η2 0 41) (η 0 41) := (k2.1.2.2.2.1 0 41 (by decide +kernel)).trans v16
    have v18 : zEq (η3 0 41) (η 0 41) := (k4.1.2.2.2.1 0 41 (by decide +kernel)).trans v17
    have v19 : zEq (η4 0 41) (η 0 41) := (k7.1.2.2.2.1 0 41 (by decide +kernel)).trans v18
    have f0_41 : η4 0 41 = η 0 41 := v19
    have w0_0_43 : (0 : Int) ≤ η 0 43 ∧ η 0 43 ≤ 8 := wf_ok (a := 43) (b := 43) (z := (0, 8)) hp.1 (by decide +kernel) (Nat.le_refl _) (Nat.le_refl _)
    have v21 : zEq (η1 0 43) (η 0 43) := (k1.1.2.2.2.1 0 43 (by decide +kernel)).trans rfl
    have v22 : zEq (η2 0 43) (η 0 43) := (k2.1.2.2.2.1 0 43 (by decide +kernel)).trans v21
    have v23 : zEq (η3 0 43) (η 0 43) := (k4.1.2.2.2.1 0 43 (by decide +kernel)).trans v22
    have v24 : zEq (η4 0 43) (η 0 43) := (k7.1.2.2.2.1 0 43 (by decide +kernel)).trans v23
    have f0_43 : η4 0 43 = η 0 43 := v24
    have v26 : zEq (η1 0 42) (η 0 42) := (k1.1.2.2.2.1 0 42 (by decide +kernel)).trans rfl
    have v27 : zEq (η2 0 42) (η 0 42) := (k2.1.2.2.2.1 0 42 (by decide +kernel)).trans v26
    have v28 : zEq (η3 0 42) (η 0 42) := (k4.1.2.2.2.1 0 42 (by decide +kernel)).trans v27
    have v29 : zEq (η4 0 42) (η 0 42) := (k7.1.2.2.2.1 0 42 (by decide +kernel)).trans v28
    have f0_42 : η4 0 42 = η 0 42 := v29
    have v31 : zEq (η1 0 45) (η 0 45) := (k1.1.2.2.2.1 0 45 (by decide +kernel)).trans rfl
    have v32 : zEq (η2 0 45) (η 0 45) := (k2.1.2.2.2.1 0 45 (by decide +kernel)).trans v31
    have v33 : zEq (η3 0 45) (η 0 45) := (k4.1.2.2.2.1 0 45 (by decide +kernel)).trans v32
    have v34 : zEq (η4 0 45) (η 0 45) := (k7.1.2.2.2.1 0 45 (by decide +kernel)).trans v33
    have f0_45 : η4 0 45 = η 0 45 := v34
    have w0_0_19 : (0 : Int) ≤ η 0 19 ∧ η 0 19 ≤ 64 := wf_ok (a := 19) (b := 19) (z := (0, 64)) hp.1 (by decide +kernel) (Nat.le_refl _) (Nat.le_refl _)
    have v36 : zEq (η1 0 19) (η 0 19) := (k1.1.2.2.2.1 0 19 (by decide +kernel)).trans rfl
    have v37 : zEq (η2 0 19) (η 0 19) := (k2.1.2.2.2.1 0 19 (by decide +kernel)).trans v36
    have v38 : zEq (η3 0 19) (η 0 19) := (k4.1.2.2.2.1 0 19 (by decide +kernel)).trans v37
    have v39 : zEq (η4 0 19) (η 0 19) := (k7.1.2.2.2.1 0 19 (by decide +kernel)).trans v38
    have f0_19 : η4 0 19 = η 0 19 := v39
    have w4_0_44 : (0 : Int) ≤ η4 0 44 ∧ η4 0 44 ≤ 64 := wf_ok (a := 44) (b := 44) (z := (0, 64)) k7.1.1 (by decide +kernel) (Nat.le_refl _) (Nat.le_refl _)
    have f0_44 : η4 0 44 = η4 0 44 := rfl
    have w0_0_7 : (0 : Int) ≤ η 0 7 ∧ η 0 7 ≤ 700 := wf_ok (a := 7) (b := 7) (z := (0, 700)) hp.1 (by decide +kernel) (Nat.le_refl _) (Nat.le_refl _)
    have v42 : zEq (η1 0 7) (η 0 7) := (k1.1.2.2.2.1 0 7 (by decide +kernel)).trans rfl
    have v43 : zEq (η2 0 7) (η 0 7) := (k2.1.2.2.2.1 0 7 (by decide +kernel)).trans v42
    have v44 : zEq (η3 0 7) (η 0 7) := (k4.1.2.2.2.1 0 7 (by decide +kernel)).trans v43
    have v45 : zEq (η4 0 7) (η 0 7) := (k7.1.2.2.2.1 0 7 (by decide +kernel)).trans v44
    have f0_7 : η4 0 7 = η 0 7 := v45
    have w0_0_6 : (0 : Int) ≤ η 0 6 ∧ η 0 6 ≤ 700 := wf_ok (a := 6) (b := 6) (z := (0, 700)) hp.1 (by decide +kernel) (Nat.le_refl _) (Nat.le_refl _)
    have v47 : zEq (η1 0 6) (η 0 6) := (k1.1.2.2.2.1 0 6 (by decide +kernel)).trans rfl
    have v48 : zEq (η2 0 6) (η 0 6) := (k2.1.2.2.2.1 0 6 (by decide +kernel)).trans v47
    have v49 : zEq (η3 0 6) (η 0 6) := (k4.1.2.2.2.1 0 6 (by decide +kernel)).trans v48
    have v50 : zEq (η4 0 6) (η 0 6) := (k7.1.2.2.2.1 0 6 (by decide +kernel)).trans v49
    have f0_6 : η4 0 6 = η 0 6 := v50
    have v51 : zEq (η4 0 8) (η 0 8) := (k7.1.2.2.2.1 0 8 (by decide +kernel)).trans v6
    have f0_8 : η4 0 8 = η 0 8 := v51
    have wbE : wB wl_le zTr η4 := wb4
    
    have I0 : H_l 0 0 0 η := hpp.1
    have I1 : H_l 0 0 0 η1 := k1.2.1
    have I2 : H_l 0 0 0 η2 := k2.2.1
    have qk2 : η1 0 8 = 1 := k2.2.2 c2
    have I3 : H_l 0 0 0 η3 := k4.2.1
    have I4 : H_l 0 0 0 η4 := k7.2.2 c8
    exact ⟨I4.1, fun w => absurd (show (0 : Int) = 0 by apply Int.le_antisymm <;> omega) w⟩
  · obtain ⟨a1, b1⟩ : x1 = (yq_isS 40 η) ∧ η = η1 := ⟨y1.1, y1.2.symm⟩
    subst b1
    obtain ⟨a2, b2⟩ : x2 = (yq_isK 12 η) ∧ η = η2 := ⟨y2.1, y2.2.symm⟩
    subst b2
    have e3 : x3 = η 0 46 := e3
    obtain ⟨a4, b4⟩ : x4 = (yq_nm η) ∧ η = η3 := ⟨y4.1, y4.2.symm⟩
    subst b4
    have e5 : x5 = η 0 8 := e5
    have e6 : x6 = η 0 9 := e6
    obtain ⟨a7, b7⟩ : x7 = (yq_cny η) ∧ η4 = (yq_cns η) := y7
    show 0 = (yq_lf η).1 ∧ η4 = (yq_lf η).2
    simp only [yq_lf, yq_ct, yq_no, yq_inc, ← a1, ← a2, ← e3, ← a4, ← e5, ← e6, ← a7, ← b7]
    all_goals ((repeat' split) <;> first | (exfalso; omega) | exact ⟨rfl, rfl⟩ | rfl)
set_option maxHeartbeats 8000000 in
theorem zle_leafRead_o28 {ro : Nat → List Int32} (η : zE) (hp : sP wl_le zTr zPle_leafRead [] η) (hpp : pPle_leafRead [] η) : ∀ (x1 : Int) (η1 : zE), ((gC2 wl_le [(nat_lit 0, zPle_isSign, zOle_isSign, zMle_isSign), (nat_lit 1, zPle_wrong, zOle_wrong, zMle_wrong), (nat_lit 2, zPle_waitsFor0, zOle_waitsFor0, zMle_waitsFor0), (nat_lit 3, zPle_token, zOle_token, zMle_token), (nat_lit 4, zPle_isKey, zOle_isKey, zMle_isKey), (nat_lit 5, zPle_isCounted, zOle_isCounted, zMle_isCounted), (nat_lit 6, zPle_waitsFor2, zOle_waitsFor2, zMle_waitsFor2), (nat_lit 7, zPle_nameMet, zOle_nameMet, zMle_nameMet), (nat_lit 8, zPle_grown, zOle_grown, zMle_grown)] pCle_leafRead qCle_leafRead) 0).2 [40] η x1 η1 → (x1 = 0) → ∀ (x2 : Int) (η2 : zE), ((gC2 wl_le [(nat_lit 0, zPle_isSign, zOle_isSign, zMle_isSign), (nat_lit 1, zPle_wrong, zOle_wrong, zMle_wrong), (nat_lit 2, zPle_waitsFor0, zOle_waitsFor0, zMle_waitsFor0), (nat_lit 3, zPle_token, zOle_token, zMle_token), (nat_lit 4, zPle_isKey, zOle_isKey, zMle_isKey), (nat_lit 5, zPle_isCounted, zOle_isCounted, zMle_isCounted), (nat_lit 6, zPle_waitsFor2, zOle_waitsFor2, zMle_waitsFor2), (nat_lit 7, zPle_nameMet, zOle_nameMet, zMle_nameMet), (nat_lit 8, zPle_grown, zOle_grown, zMle_grown)] pCle_leafRead qCle_leafRead) 4).2 [12] η1 x2 η2 → (¬ x2 = 0) → ∀ x3 : Int, x3 = η2 0 (Int.toNat 46) → zok 1 x3 → (x3 = 0) → ∀ (x4 : Int) (η3 : zE), ((gC2 wl_le [(nat_lit 0, zPle_isSign, zOle_isSign, zMle_isSign), (nat_lit 1, zPle_wrong, zOle_wrong, zMle_wrong), (nat_lit 2, zPle_waitsFor0, zOle_waitsFor0, zMle_waitsFor0), (nat_lit 3, zPle_token, zOle_token, zMle_token), (nat_lit 4, zPle_isKey, zOle_isKey, zMle_isKey), (nat_lit 5, zPle_isCounted, zOle_isCounted, zMle_isCounted), (nat_lit 6, zPle_waitsFor2, zOle_waitsFor2, zMle_waitsFor2), (nat_lit 7, zPle_nameMet, zOle_nameMet, zMle_nameMet), (nat_lit 8, zPle_grown, zOle_grown, zMle_grown)] pCle_leafRead qCle_leafRead) 7).2 [] η2 x4 η3 → (x4 < 0) → ∀ x5 : Int, x5 = η3 0 (Int.toNat 8) → zok 0 x5 → (x5 = 3) → (x4 < 0) → ∀ x6 : Int, x6 = η3 0 (Int.toNat 9) → zok 0 x6 → (9999 < x6) → ((gC2 wl_le [(nat_lit 0, zPle_isSign, zOle_isSign, zMle_isSign), (nat_lit 1, zPle_wrong, zOle_wrong, zMle_wrong), (nat_lit 2, zPle_waitsFor0, zOle_waitsFor0, zMle_waitsFor0), (nat_lit 3, zPle_token, zOle_token, zMle_token), (nat_lit 4, zPle_isKey, zOle_isKey, zMle_isKey), (nat_lit 5, zPle_isCounted, zOle_isCounted, zMle_isCounted), (nat_lit 6, zPle_waitsFor2, zOle_waitsFor2, zMle_waitsFor2), (nat_lit 7, zPle_nameMet, zOle_nameMet, zMle_nameMet), (nat_lit 8, zPle_grown, zOle_grown, zMle_grown)] pCle_leafRead qCle_leafRead) 1).1 [2] η3 := by
  have hw : η 0 45 = 1 := hpp.2
  have hs : η 0 7 ≤ η 0 6 := hpp.1.1.1.1
  have bd43 : (0 : Int) ≤ η 0 43 ∧ η 0 43 ≤ 8 := wf_ok (a := 43) (b := 43) (z := (0, 8)) hp.1 (by decide +kernel) (Nat.le_refl _) (Nat.le_refl _)
  have bd44 : (0 : Int) ≤ η 0 44 ∧ η 0 44 ≤ 64 := wf_ok (a := 44) (b := 44) (z := (0, 64)) hp.1 (by decide +kernel) (Nat.le_refl _) (Nat.le_refl _)
  have bd19 : (0 : Int) ≤ η 0 19 ∧ η 0 19 ≤ 64 := wf_ok (a := 19) (b := 19) (z := (0, 64)) hp.1 (by decide +kernel) (Nat.le_refl _) (Nat.le_refl _)
  intro x1 η1 h1 c1 x2 η2 h2 c2 x3 e3 r3 c3 x4 η3 h4 c4 x5 e5 r5 c5 c6 x6 e6 r6 c7
  have y1 : fQle_isSign [40] η x1 η1 := h1.2.2
  have k1 : sQ wl_le zTr zOle_isSign zMle_isSign [40] η x1 η1 ∧ oQle_isSign [40] η x1 η1 := ⟨h1.1, h1.2.1⟩
  have y2 : fQle_isKey [12] η1 x2 η2 := h2.2.2
  have k2 : sQ wl_le zTr zOle_isKey zMle_isKey [12] η1 x2 η2 ∧ oQle_isKey [12] η1 x2 η2 := ⟨h2.1, h2.2.1⟩
  have y4 : fQle_nameMet [] η2 x4 η3 := h4.2.2
  have k4 : sQ wl_le zTr zOle_nameMet zMle_nameMet [] η2 x4 η3 ∧ oQle_nameMet [] η2 x4 η3 := ⟨h4.1, h4.2.1⟩
  have w0_0_8 : (0 : Int) ≤ η 0 8 ∧ η 0 8 ≤ 6 := wf_ok (a := 8) (b := 8) (z := (0, 6)) hp.1 (by decide +kernel) (Nat.le_refl _) (Nat.le_refl _)
  have c0_0_8 : η 0 8 = η 0 8 := rfl
  have wb1 : wB wl_le zTr η1 := k1.1.1
  have bx1 : (0 : Int) ≤ x1 ∧ x1 ≤ 1 := k1.1.2.1
  have v1 : zEq (η1 0 8) (η 0 8) := (k1.1.2.2.2.1 0 8 (by decide +kernel)).trans rfl
  have c1_0_8 : η1 0 8 = η 0 8 := v1
  have wb2 : wB wl_le zTr η2 := k2.1.1
  have bx2 : (0 : Int) ≤ x2 ∧ x2 ≤ 1 := k2.1.2.1
  have v3 : zEq (η1 0 46) (η 0 46) := (k1.1.2.2.2.1 0 46 (by decide +kernel)).trans rfl
  have v4 : zEq (η2 0 46) (η 0 46) := (k2.1.2.2.2.1 0 46 (by decide +kernel)).trans v3
  replace e3 : x3 = η 0 46 := e3.trans v4
  replace r3 : 0 ≤ x3 ∧ x3 ≤ 1 := r3
  have v5 : zEq (η2 0 8) (η 0 8) := (k2.1.2.2.2.1 0 8 (by decide +kernel)).trans v1
  have c2_0_8 : η2 0 8 = η 0 8 := v5
  have wb3 : wB wl_le zTr η3 := k4.1.1
  have bx4 : ((-1) : Int) ≤ x4 ∧ x4 ≤ 6 := k4.1.2.1
  have v6 : zEq (η3 0 8) (η 0 8) := (k4.1.2.2.2.1 0 8 (by decide +kernel)).trans v5
  replace e5 : x5 = η 0 8 := e5.trans v6
  have v8 : zEq (η1 0 9) (η 0 9) := (k1.1.2.2.2.1 0 9 (by decide +kernel)).trans rfl
  have v9 : zEq (η2 0 9) (η 0 9) := (k2.1.2.2.2.1 0 9 (by decide +kernel)).trans v8
  have v10 : zEq (η3 0 9) (η 0 9) := (k4.1.2.2.2.1 0 9 (by decide +kernel)).trans v9
  replace e6 : x6 = η 0 9 := e6.trans v10
  replace r6 : -2147483648 ≤ x6 ∧ x6 ≤ 2147483647 := r6
  have fm1 : zFm zMle_leafRead η η1 := zFm_tr2 zFm_rf k1.1.2.2.2.1 (by decide +kernel)
  have fm2 : zFm zMle_leafRead η η2 := zFm_tr2 fm1 k2.1.2.2.2.1 (by decide +kernel)
  have fm3 : zFm zMle_leafRead η η3 := zFm_tr2 fm2 k4.1.2.2.2.1 (by decide +kernel)
  have fmE : zFm zMle_leafRead η η3 := fm3
  have fr22_0 : ∀ j, η 22 j = η 22 j := fun _ => rfl
  have v11 : ∀ j, η1 22 j = η 22 j := fun j => k1.1.2.2.2.1 22 _ (zinr_not (by decide +kernel))
  have fr22_1 : ∀ j, η1 22 j = η 22 j := v11
  have v12 : ∀ j, η2 22 j = η 22 j := fun j => (k2.1.2.2.2.1 22 _ (zinr_not (by decide +kernel))).trans (v11 j)
  have fr22_2 : ∀ j, η2 22 j = η 22 j := v12
  have v13 : ∀ j, η3 22 j = η 22 j := fun j => (k4.1.2.2.2.1 22 _ (zinr_not (by decide +kernel))).trans (v12 j)
  have fr22_3 : ∀ j, η3 22 j = η 22 j := v13
  have fr22 : ∀ j, η3 22 j = η 22 j := v13
  have v15 : zEq (η1 0 41) (η 0 41) := (k1.1.2.2.2.1 0 41 (by decide +kernel)).trans rfl
  have v16 : zEq (η2 0 41) (η 0 41) := (k2.1.2.2.2.1 0 41 (by decide +kernel)).trans v15
  have v17 : zEq (η3 0 41) (η 0 41) := (k4.1.2.2.2.1 0 41 (by decide +kernel)).trans v16
  have f0_41 : η3 0 41 = η 0 41 := v17
  have w0_0_43 : (0 : Int) ≤ η 0 43 ∧ η 0 43 ≤ 8 := wf_ok (a := 43) (b := 43) (z := (0, 8)) hp.1 (by decide +kernel) (Nat.le_refl _) (Nat.le_refl _)
  have v19 : zEq (η1 0 43) (η 0 43) := (k1.1.2.2.2.1 0 43 (by decide +kernel)).trans rfl
  have v20 : zEq (η2 0 43) (η 0 43) := (k2.1.2.2.2.1 0 43 (by decide +kernel)).trans v19
  have v21 : zEq (η3 0 43) (η 0 43) := (k4.1.2.2.2.1 0 43 (by decide +kernel)).trans v20
  have f0_43 : η3 0 43 = η 0 43 := v21
  have v23 : zEq (η1 0 42) (η 0 42) := (k1.1.2.2.2.1 0 42 (by decide +kernel)).trans rfl
  have v24 : zEq (η2 0 42) (η 0 42) := (k2.1.2.2.2.1 0 42 (by decide +kernel)).trans v23
  have v25 : zEq (η3 0 42) (η 0 42) := (k4.1.2.2.2.1 0 42 (by decide +kernel)).trans v24
  have f0_42 : η3 0 42 = η 0 42 := v25
  have v27 : zEq (η1 0 45) (η 0 45) := (k1.1.2.2.2.1 0 45 (by decide +kernel)).trans rfl
  have v28 : zEq (η2 0 45) (η 0 45) := (k2.1.2.2.2.1 0 45 (by decide +kernel)).trans v27
  have v29 : zEq (η3 0 45) (η 0 45) := (k4.1.2.2.2.1 0 45 (by decide +kernel)).trans v28
  have f0_45 : η3 0 45 = η 0 45 := v29
  have w0_0_19 : (0 : Int) ≤ η 0 19 ∧ η 0 19 ≤ 64 := wf_ok (a := 19) (b := 19) (z := (0, 64)) hp.1 (by decide +kernel) (Nat.le_refl _) (Nat.le_refl _)
  have v31 : zEq (η1 0 19) (η 0 19) := (k1.1.2.2.2.1 0 19 (by decide +kernel)).trans rfl
  have v32 : zEq (η2 0 19) (η 0 19) := (k2.1.2.2.2.1 0 19 (by decide +kernel)).trans v31
  have v33 : zEq (η3 0 19) (η 0 19) := (k4.1.2.2.2.1 0 19 (by decide +kernel)).trans v32
  have f0_19 : η3 0 19 = η 0 19 := v33
  have w0_0_44 : (0 : Int) ≤ η 0 44 ∧ η 0 44 ≤ 64 := wf_ok (a := 44) (b := 44) (z := (0, 64)) hp.1 (by decide +kernel) (Nat.le_refl _) (Nat.le_refl _)
  have v35 : zEq (η1 0 44) (η 0 44) := (k1.1.2.2.2.1 0 44 (by decide +kernel)).trans rfl
  have v36 : zEq (η2 0 44) (η 0 44) := (k2.1.2.2.2.1 0 44 (by decide +kernel)).trans v35
  have v37 : zEq (η3 0 44) (η 0 44) := (k4.1.2.2.2.1 0 44 (by decide +kernel)).trans v36
  have f0_44 : η3 0 44 = η 0 44 := v37
  have w0_0_7 : (0 : Int) ≤ η 0 7 ∧ η 0 7 ≤ 700 := wf_ok (a := 7) (b := 7) (z := (0, 700)) hp.1 (by decide +kernel) (Nat.le_refl _) (Nat.le_refl _)
  have v39 : zEq (η1 0 7) (η 0 7) := (k1.1.2.2.2.1 0 7 (by decide +kernel)).trans rfl
  have v40 : zEq (η2 0 7) (η 0 7) := (k2.1.2.2.2.1 0 7 (by decide +kernel)).trans v39
  have v41 : zEq (η3 0 7) (η 0 7) := (k4.1.2.2.2.1 0 7 (by decide +kernel)).trans v40
  have f0_7 : η3 0 7 = η 0 7 := v41
  have w0_0_6 : (0 : Int) ≤ η 0 6 ∧ η 0 6 ≤ 700 := wf_ok (a := 6) (b := 6) (z := (0, 700)) hp.1 (by decide +kernel) (Nat.le_refl _) (Nat.le_refl _)
  have v43 : zEq (η1 0 6) (η 0 6) := (k1.1.2.2.2.1 0 6 (by decide +kernel)).trans rfl
  have v44 : zEq (η2 0 6) (η 0 6) := (k2.1.2.2.2.1 0 6 (by decide +kernel)).trans v43
  have v45 : zEq (η3 0 6) (η 0 6) := (k4.1.2.2.2.1 0 6 (by decide +kernel)).trans v44
  have f0_6 : η3 0 6 = η 0 6 := v45
  have f0_8 : η3 0 8 = η 0 8 := v6
  have wbE : wB wl_le zTr η3 := wb3
  
  have I0 : H_l 0 0 0 η := hpp.1
  have I1 : H_l 0 0 0 η1 := k1.2.1
  have I2 : H_l 0 0 0 η2 := k2.2.1
  have qk2 : η1 0 8 = 1 := k2.2.2 c2
  have I3 : H_l 0 0 0 η3 := k4.2.1
  exact I3
set_option maxHeartbeats 8000000 in
theorem zle_leafRead_o29 {ro : Nat → List Int32} (η : zE) (hp : sP wl_le zTr zPle_leafRead [] η) (hpp : pPle_leafRead [] η) : ∀ (x1 : Int) (η1 : zE), ((gC2 wl_le [(nat_lit 0, zPle_isSign, zOle_isSign, zMle_isSign), (nat_lit 1, zPle_wrong, zOle_wrong, zMle_wrong), (nat_lit 2, zPle_waitsFor0, zOle_waitsFor0, zMle_waitsFor0), (nat_lit 3, zPle_token, zOle_token, zMle_token), (nat_lit 4, zPle_isKey, zOle_isKey, zMle_isKey), (nat_lit 5, zPle_isCounted, zOle_isCounted, zMle_isCounted), (nat_lit 6, zPle_waitsFor2, zOle_waitsFor2, zMle_waitsFor2), (nat_lit 7, zPle_nameMet, zOle_nameMet, zMle_nameMet), (nat_lit 8, zPle_grown, zOle_grown, zMle_grown)] pCle_leafRead qCle_leafRead) 0).2 [40] η x1 η1 → (x1 = 0) → ∀ (x2 : Int) (η2 : zE), ((gC2 wl_le [(nat_lit 0, zPle_isSign, zOle_isSign, zMle_isSign), (nat_lit 1, zPle_wrong, zOle_wrong, zMle_wrong), (nat_lit 2, zPle_waitsFor0, zOle_waitsFor0, zMle_waitsFor0), (nat_lit 3, zPle_token, zOle_token, zMle_token), (nat_lit 4, zPle_isKey, zOle_isKey, zMle_isKey), (nat_lit 5, zPle_isCounted, zOle_isCounted, zMle_isCounted), (nat_lit 6, zPle_waitsFor2, zOle_waitsFor2, zMle_waitsFor2), (nat_lit 7, zPle_nameMet, zOle_nameMet, zMle_nameMet), (nat_lit 8, zPle_grown, zOle_grown, zMle_grown)] pCle_leafRead qCle_leafRead) 4).2 [12] η1 x2 η2 → (¬ x2 = 0) → ∀ x3 : Int, x3 = η2 0 (Int.toNat 46) → zok 1 x3 → (x3 = 0) → ∀ (x4 : Int) (η3 : zE), ((gC2 wl_le [(nat_lit 0, zPle_isSign, zOle_isSign, zMle_isSign), (nat_lit 1, zPle_wrong, zOle_wrong, zMle_wrong), (nat_lit 2, zPle_waitsFor0, zOle_waitsFor0, zMle_waitsFor0), (nat_lit 3, zPle_token, zOle_token, zMle_token), (nat_lit 4, zPle_isKey, zOle_isKey, zMle_isKey), (nat_lit 5, zPle_isCounted, zOle_isCounted, zMle_isCounted), (nat_lit 6, zPle_waitsFor2, zOle_waitsFor2, zMle_waitsFor2), (nat_lit 7, zPle_nameMet, zOle_nameMet, zMle_nameMet), (nat_lit 8, zPle_grown, zOle_grown, zMle_grown)] pCle_leafRead qCle_leafRead) 7).2 [] η2 x4 η3 → (x4 < 0) → ∀ x5 : Int, x5 = η3 0 (Int.toNat 8) → zok 0 x5 → (x5 = 3) → (x4 < 0) → ∀ x6 : Int, x6 = η3 0 (Int.toNat 9) → zok 0 x6 → (9999 < x6) → ∀ (x7 : Int) (η4 : zE), ((gC2 wl_le [(nat_lit 0, zPle_isSign, zOle_isSign, zMle_isSign), (nat_lit 1, zPle_wrong, zOle_wrong, zMle_wrong), (nat_lit 2, zPle_waitsFor0, zOle_waitsFor0, zMle_waitsFor0), (nat_lit 3, zPle_token, zOle_token, zMle_token), (nat_lit 4, zPle_isKey, zOle_isKey, zMle_isKey), (nat_lit 5, zPle_isCounted, zOle_isCounted, zMle_isCounted), (nat_lit 6, zPle_waitsFor2, zOle_waitsFor2, zMle_waitsFor2), (nat_lit 7, zPle_nameMet, zOle_nameMet, zMle_nameMet), (nat_lit 8, zPle_grown, zOle_grown, zMle_grown)] pCle_leafRead qCle_leafRead) 1).2 [2] η3 x7 η4 → (fun (_ : Nat) (y : Int) (η' : zE) => pQle_leafRead [] η y η') 0 x7 η4 := by
  intro x1 η1 h1 c1 x2 η2 h2 c2 x3 e3 r3 c3 x4 η3 h4 c4 x5 e5 r5 c5 c6 x6 e6 r6 c7 x7 η4 h7
  have y1 : fQle_isSign [40] η x1 η1 := h1.2.2
  have k1 : sQ wl_le zTr zOle_isSign zMle_isSign [40] η x1 η1 ∧ oQle_isSign [40] η x1 η1 := ⟨h1.1, h1.2.1⟩
  have y2 : fQle_isKey [12] η1 x2 η2 := h2.2.2
  have k2 : sQ wl_le zTr zOle_isKey zMle_isKey [12] η1 x2 η2 ∧ oQle_isKey [12] η1 x2 η2 := ⟨h2.1, h2.2.1⟩
  have y4 : fQle_nameMet [] η2 x4 η3 := h4.2.2
  have k4 : sQ wl_le zTr zOle_nameMet zMle_nameMet [] η2 x4 η3 ∧ oQle_nameMet [] η2 x4 η3 := ⟨h4.1, h4.2.1⟩
  have y7 : fQle_wrong [2] η3 x7 η4 := h7.2.2
  have k7 : sQ wl_le zTr zOle_wrong zMle_wrong [2] η3 x7 η4 ∧ oQle_wrong [2] η3 x7 η4 := ⟨h7.1, h7.2.1⟩
  refine yj_a ?_ ?_
  · have hw : η 0 45 = 1 := hpp.2
    have hs : η 0 7 ≤ η 0 6 := hpp.1.1.1.1
    have bd43 : (0 : Int) ≤ η 0 43 ∧ η 0 43 ≤ 8 := wf_ok (a := 43) (b := 43) (z := (0, 8)) hp.1 (by decide +kernel) (Nat.le_refl _) (Nat.le_refl _)
    have bd44 : (0 : Int) ≤ η 0 44 ∧ η 0 44 ≤ 64 := wf_ok (a := 44) (b := 44) (z := (0, 64)) hp.1 (by decide +kernel) (Nat.le_refl _) (Nat.le_refl _)
    have bd19 : (0 : Int) ≤ η 0 19 ∧ η 0 19 ≤ 64 := wf_ok (a := 19) (b := 19) (z := (0, 64)) hp.1 (by decide +kernel) (Nat.le_refl _) (Nat.le_refl _)
    have y1 : fQle_isSign [40] η x1 η1 := h1.2.2
    have k1 : sQ wl_le zTr zOle_isSign zMle_isSign [40] η x1 η1 ∧ oQle_isSign [40] η x1 η1 := ⟨h1.1, h1.2.1⟩
    have y2 : fQle_isKey [12] η1 x2 η2 := h2.2.2
    have k2 : sQ wl_le zTr zOle_isKey zMle_isKey [12] η1 x2 η2 ∧ oQle_isKey [12] η1 x2 η2 := ⟨h2.1, h2.2.1⟩
    have y4 : fQle_nameMet [] η2 x4 η3 := h4.2.2
    have k4 : sQ wl_le zTr zOle_nameMet zMle_nameMet [] η2 x4 η3 ∧ oQle_nameMet [] η2 x4 η3 := ⟨h4.1, h4.2.1⟩
    have y7 : fQle_wrong [2] η3 x7 η4 := h7.2.2
    have k7 : sQ wl_le zTr zOle_wrong zMle_wrong [2] η3 x7 η4 ∧ oQle_wrong [2] η3 x7 η4 := ⟨h7.1, h7.2.1⟩
    have w0_0_8 : (0 : Int) ≤ η 0 8 ∧ η 0 8 ≤ 6 := wf_ok (a := 8) (b := 8) (z := (0, 6)) hp.1 (by decide +kernel) (Nat.le_refl _) (Nat.le_refl _)
    have c0_0_8 : η 0 8 = η 0 8 := rfl
    have wb1 : wB wl_le zTr η1 := k1.1.1
    have bx1 : (0 : Int) ≤ x1 ∧ x1 ≤ 1 := k1.1.2.1
    have v1 : zEq (η1 0 8) (η 0 8) := (k1.1.2.2.2.1 0 8 (by decide +kernel)).trans rfl
    have c1_0_8 : η1 0 8 = η 0 8 := v1
    have wb2 : wB wl_le zTr η2 := k2.1.1
    have bx2 : (0 : Int) ≤ x2 ∧ x2 ≤ 1 := k2.1.2.1
    have v3 : zEq (η1 0 46) (η 0 46) := (k1.1.2.2.2.1 0 46 (by decide +kernel)).trans rfl
    have v4 : zEq (η2 0 46) (η 0 46) := (k2.1.2.2.2.1 0 46 (by decide +kernel)).trans v3
    replace e3 : x3 = η 0 46 := e3.trans v4
    replace r3 : 0 ≤ x3 ∧ x3 ≤ 1 := r3
    have v5 : zEq (η2 0 8) (η 0 8) := (k2.1.2.2.2.1 0 8 (by decide +kernel)).trans v1
    have c2_0_8 : η2 0 8 = η 0 8 := v5
    have wb3 : wB wl_le zTr η3 := k4.1.1
    have bx4 : ((-1) : Int) ≤ x4 ∧ x4 ≤ 6 := k4.1.2.1
    have v6 : zEq (η3 0 8) (η 0 8) := (k4.1.2.2.2.1 0 8 (by decide +kernel)).trans v5
    replace e5 : x5 = η 0 8 := e5.trans v6
    have v8 : zEq (η1 0 9) (η 0 9) := (k1.1.2.2.2.1 0 9 (by decide +kernel)).trans rfl
    have v9 : zEq (η2 0 9) (η 0 9) := (k2.1.2.2.2.1 0 9 (by decide +kernel)).trans v8
    have v10 : zEq (η3 0 9) (η 0 9) := (k4.1.2.2.2.1 0 9 (by decide +kernel)).trans v9
    replace e6 : x6 = η 0 9 := e6.trans v10
    replace r6 : -2147483648 ≤ x6 ∧ x6 ≤ 2147483647 := r6
    have c3_0_8 : η3 0 8 = η 0 8 := v6
    have wb4 : wB wl_le zTr η4 := k7.1.1
    have bx7 : (0 : Int) ≤ x7 ∧ x7 ≤ 0 := k7.1.2.1
    have fm1 : zFm zMle_leafRead η η1 := zFm_tr2 zFm_rf k1.1.2.2.2.1 (by decide +kernel)
    have fm2 : zFm zMle_leafRead η η2 := zFm_tr2 fm1 k2.1.2.2.2.1 (by decide +kernel)
    have fm3 : zFm zMle_leafRead η η3 := zFm_tr2 fm2 k4.1.2.2.2.1 (by decide +kernel)
    have fm4 : zFm zMle_leafRead η η4 := zFm_tr2 fm3 k7.1.2.2.2.1 (by decide +kernel)
    have fmE : zFm zMle_leafRead η η4 := fm4
    have fr22_0 : ∀ j, η 22 j = η 22 j := fun _ => rfl
    have v11 : ∀ j, η1 22 j = η 22 j := fun j => k1.1.2.2.2.1 22 _ (zinr_not (by decide +kernel))
    have fr22_1 : ∀ j, η1 22 j = η 22 j := v11
    have v12 : ∀ j, η2 22 j = η 22 j := fun j => (k2.1.2.2.2.1 22 _ (zinr_not (by decide +kernel))).trans (v11 j)
    have fr22_2 : ∀ j, η2 22 j = η 22 j := v12
    have v13 : ∀ j, η3 22 j = η 22 j := fun j => (k4.1.2.2.2.1 22 _ (zinr_not (by decide +kernel))).trans (v12 j)
    have fr22_3 : ∀ j, η3 22 j = η 22 j := v13
    have v14 : ∀ j, η4 22 j = η 22 j := fun j => (k7.1.2.2.2.1 22 _ (zinr_not (by decide +kernel))).trans (v13 j)
    have fr22_4 : ∀ j, η4 22 j = η 22 j := v14
    have fr22 : ∀ j, η4 22 j = η 22 j := v14
    have v16 : zEq (η1 0 41) (η 0 41) := (k1.1.2.2.2.1 0 41 (by decide +kernel)).trans rfl
    have v17 : zEq (η2 0 41) (η 0 41) := (k2.1.2.2.2.1 0 41 (by decide +kernel)).trans v16
    have v18 : zEq (η3 0 41) (η 0 41) := (k4.1.2.2.2.1 0 41 (by decide +kernel)).trans v17
    have v19 : zEq (η4 0 41) (η 0 41) := (k7.1.2.2.2.1 0 41 (by decide +kernel)).trans v18
    have f0_41 : η4 0 41 = η 0 41 := v19
    have w0_0_43 : (0 : Int) ≤ η 0 43 ∧ η 0 43 ≤ 8 := wf_ok (a := 43) (b := 43) (z := (0, 8)) hp.1 (by decide +kernel) (Nat.le_refl _) (Nat.le_refl _)
    have v21 : zEq (η1 0 43) (η 0 43) := (k1.1.2.2.2.1 0 43 (by decide +kernel)).trans rfl
    have v22 : zEq (η2 0 43) (η 0 43) := (k2.1.2.2.2.1 0 43 (by decide +kernel)).trans v21
    have v23 : zEq (η3 0 43) (η 0 43) := (k4.1.2.2.2.1 0 43 (by decide +kernel)).trans v22
    have v24 : zEq (η4 0 43) (η 0 43) := (k7.1.2.2.2.1 0 43 (by decide +kernel)).trans v23
    have f0_43 : η4 0 43 = η 0 43 := v24
    have v26 : zEq (η1 0 42) (η 0 42) := (k1.1.2.2.2.1 0 42 (by decide +kernel)).trans rfl
    have v27 : zEq (η2 0 42) (η 0 42) := (k2.1.2.2.2.1 0 42 (by decide +kernel)).trans v26
    have v28 : zEq (η3 0 42) (η 0 42) := (k4.1.2.2.2.1 0 42 (by decide +kernel)).trans v27
    have v29 : zEq (η4 0 42) (η 0 42) := (k7.1.2.2.2.1 0 42 (by decide +kernel)).trans v28
    have f0_42 : η4 0 42 = η 0 42 := v29
    have v31 : zEq (η1 0 45) (η 0 45) := (k1.1.2.2.2.1 0 45 (by decide +kernel)).trans rfl
    have v32 : zEq (η2 0 45) (η 0 45) := (k2.1.2.2.2.1 0 45 (by decide +kernel)).trans v31
    have v33 : zEq (η3 0 45) (η 0 45) := (k4.1.2.2.2.1 0 45 (by decide +kernel)).trans v32
    have v34 : zEq (η4 0 45) (η 0 45) := (k7.1.2.2.2.1 0 45 (by decide +kernel)).trans v33
    have f0_45 : η4 0 45 = η 0 45 := v34
    have w0_0_19 : (0 : Int) ≤ η 0 19 ∧ η 0 19 ≤ 64 := wf_ok (a := 19) (b := 19) (z := (0, 64)) hp.1 (by decide +kernel) (Nat.le_refl _) (Nat.le_refl _)
    have v36 : zEq (η1 0 19) (η 0 19) := (k1.1.2.2.2.1 0 19 (by decide +kernel)).trans rfl
    have v37 : zEq (η2 0 19) (η 0 19) := (k2.1.2.2.2.1 0 19 (by decide +kernel)).trans v36
    have v38 : zEq (η3 0 19) (η 0 19) := (k4.1.2.2.2.1 0 19 (by decide +kernel)).trans v37
    have v39 : zEq (η4 0 19) (η 0 19) := (k7.1.2.2.2.1 0 19 (by decide +kernel)).trans v38
    have f0_19 : η4 0 19 = η 0 19 := v39
    have w0_0_44 : (0 : Int) ≤ η 0 44 ∧ η 0 44 ≤ 64 := wf_ok (a := 44) (b := 44) (z := (0, 64)) hp.1 (by decide +kernel) (Nat.le_refl _) (Nat.le_refl _)
    have v41 : zEq (η1 0 44) (η 0 44) := (k1.1.2.2.2.1 0 44 (by decide +kernel)).trans rfl
    have v42 : zEq (η2 0 44) (η 0 44) := (k2.1.2.2.2.1 0 44 (by decide +kernel)).trans v41
    have v43 : zEq (η3 0 44) (η 0 44) := (k4.1.2.2.2.1 0 44 (by decide +kernel)).trans v42
    have v44 : zEq (η4 0 44) (η 0 44) := (k7.1.2.2.2.1 0 44 (by decide +kernel)).trans v43
    have f0_44 : η4 0 44 = η 0 44 := v44
    have w0_0_7 : (0 : Int) ≤ η 0 7 ∧ η 0 7 ≤ 700 := wf_ok (a := 7) (b := 7) (z := (0, 700)) hp.1 (by decide +kernel) (Nat.le_refl _) (Nat.le_refl _)
    have v46 : zEq (η1 0 7) (η 0 7) := (k1.1.2.2.2.1 0 7 (by decide +kernel)).trans rfl
    have v47 : zEq (η2 0 7) (η 0 7) := (k2.1.2.2.2.1 0 7 (by decide +kernel)).trans v46
    have v48 : zEq (η3 0 7) (η 0 7) := (k4.1.2.2.2.1 0 7 (by decide +kernel)).trans v47
    have v49 : zEq (η4 0 7) (η 0 7) := (k7.1.2.2.2.1 0 7 (by decide +kernel)).trans v48
    have f0_7 : η4 0 7 = η 0 7 := v49
    have w0_0_6 : (0 : Int) ≤ η 0 6 ∧ η 0 6 ≤ 700 := wf_ok (a := 6) (b := 6) (z := (0, 700)) hp.1 (by decide +kernel) (Nat.le_refl _) (Nat.le_refl _)
    have v51 : zEq (η1 0 6) (η 0 6) := (k1.1.2.2.2.1 0 6 (by decide +kernel)).trans rfl
    have v52 : zEq (η2 0 6) (η 0 6) := (k2.1.2.2.2.1 0 6 (by decide +kernel)).trans v51
    have v53 : zEq (η3 0 6) (η 0 6) := (k4.1.2.2.2.1 0 6 (by decide +kernel)).trans v52
    have v54 : zEq (η4 0 6) (η 0 6) := (k7.1.2.2.2.1 0 6 (by decide +kernel)).trans v53
    have f0_6 : η4 0 6 = η 0 6 := v54
    have v55 : zEq (η4 0 8) (η 0 8) := (k7.1.2.2.2.1 0 8 (by decide +kernel)).trans v6
    have f0_8 : η4 0 8 = η 0 8 := v55
    have wbE : wB wl_le zTr η4 := wb4
    
    have I0 : H_l 0 0 0 η := hpp.1
    have I1 : H_l 0 0 0 η1 := k1.2.1
    have I2 : H_l 0 0 0 η2 := k2.2.1
    have qk2 : η1 0 8 = 1 := k2.2.2 c2
    have I3 : H_l 0 0 0 η3 := k4.2.1
    have I4 : H_l 0 0 0 η4 := k7.2
    exact ⟨I4.1, fun w => absurd (show (x7 : Int) = 0 by apply Int.le_antisymm <;> omega) w⟩
  · obtain ⟨a1, b1⟩ : x1 = (yq_isS 40 η) ∧ η = η1 := ⟨y1.1, y1.2.symm⟩
    subst b1
    obtain ⟨a2, b2⟩ : x2 = (yq_isK 12 η) ∧ η = η2 := ⟨y2.1, y2.2.symm⟩
    subst b2
    have e3 : x3 = η 0 46 := e3
    obtain ⟨a4, b4⟩ : x4 = (yq_nm η) ∧ η = η3 := ⟨y4.1, y4.2.symm⟩
    subst b4
    have e5 : x5 = η 0 8 := e5
    have e6 : x6 = η 0 9 := e6
    obtain ⟨a7, b7⟩ : x7 = 0 ∧ η4 = (yq_wr 2 η) := y7
    show x7 = (yq_lf η).1 ∧ η4 = (yq_lf η).2
    simp only [yq_lf, yq_ct, yq_no, yq_inc, ← a1, ← a2, ← e3, ← a4, ← e5, ← e6, ← b7, a7]
    all_goals ((repeat' split) <;> first | (exfalso; omega) | exact ⟨rfl, rfl⟩ | rfl)
set_option maxHeartbeats 8000000 in
theorem zle_leafRead_o30 {ro : Nat → List Int32} (η : zE) (hp : sP wl_le zTr zPle_leafRead [] η) (hpp : pPle_leafRead [] η) : ∀ (x1 : Int) (η1 : zE), ((gC2 wl_le [(nat_lit 0, zPle_isSign, zOle_isSign, zMle_isSign), (nat_lit 1, zPle_wrong, zOle_wrong, zMle_wrong), (nat_lit 2, zPle_waitsFor0, zOle_waitsFor0, zMle_waitsFor0), (nat_lit 3, zPle_token, zOle_token, zMle_token), (nat_lit 4, zPle_isKey, zOle_isKey, zMle_isKey), (nat_lit 5, zPle_isCounted, zOle_isCounted, zMle_isCounted), (nat_lit 6, zPle_waitsFor2, zOle_waitsFor2, zMle_waitsFor2), (nat_lit 7, zPle_nameMet, zOle_nameMet, zMle_nameMet), (nat_lit 8, zPle_grown, zOle_grown, zMle_grown)] pCle_leafRead qCle_leafRead) 0).2 [40] η x1 η1 → (x1 = 0) → ∀ (x2 : Int) (η2 : zE), ((gC2 wl_le [(nat_lit 0, zPle_isSign, zOle_isSign, zMle_isSign), (nat_lit 1, zPle_wrong, zOle_wrong, zMle_wrong), (nat_lit 2, zPle_waitsFor0, zOle_waitsFor0, zMle_waitsFor0), (nat_lit 3, zPle_token, zOle_token, zMle_token), (nat_lit 4, zPle_isKey, zOle_isKey, zMle_isKey), (nat_lit 5, zPle_isCounted, zOle_isCounted, zMle_isCounted), (nat_lit 6, zPle_waitsFor2, zOle_waitsFor2, zMle_waitsFor2), (nat_lit 7, zPle_nameMet, zOle_nameMet, zMle_nameMet), (nat_lit 8, zPle_grown, zOle_grown, zMle_grown)] pCle_leafRead qCle_leafRead) 4).2 [12] η1 x2 η2 → (¬ x2 = 0) → ∀ x3 : Int, x3 = η2 0 (Int.toNat 46) → zok 1 x3 → (x3 = 0) → ∀ (x4 : Int) (η3 : zE), ((gC2 wl_le [(nat_lit 0, zPle_isSign, zOle_isSign, zMle_isSign), (nat_lit 1, zPle_wrong, zOle_wrong, zMle_wrong), (nat_lit 2, zPle_waitsFor0, zOle_waitsFor0, zMle_waitsFor0), (nat_lit 3, zPle_token, zOle_token, zMle_token), (nat_lit 4, zPle_isKey, zOle_isKey, zMle_isKey), (nat_lit 5, zPle_isCounted, zOle_isCounted, zMle_isCounted), (nat_lit 6, zPle_waitsFor2, zOle_waitsFor2, zMle_waitsFor2), (nat_lit 7, zPle_nameMet, zOle_nameMet, zMle_nameMet), (nat_lit 8, zPle_grown, zOle_grown, zMle_grown)] pCle_leafRead qCle_leafRead) 7).2 [] η2 x4 η3 → (x4 < 0) → ∀ x5 : Int, x5 = η3 0 (Int.toNat 8) → zok 0 x5 → (¬ x5 = 3) → ((gC2 wl_le [(nat_lit 0, zPle_isSign, zOle_isSign, zMle_isSign), (nat_lit 1, zPle_wrong, zOle_wrong, zMle_wrong), (nat_lit 2, zPle_waitsFor0, zOle_waitsFor0, zMle_waitsFor0), (nat_lit 3, zPle_token, zOle_token, zMle_token), (nat_lit 4, zPle_isKey, zOle_isKey, zMle_isKey), (nat_lit 5, zPle_isCounted, zOle_isCounted, zMle_isCounted), (nat_lit 6, zPle_waitsFor2, zOle_waitsFor2, zMle_waitsFor2), (nat_lit 7, zPle_nameMet, zOle_nameMet, zMle_nameMet), (nat_lit 8, zPle_grown, zOle_grown, zMle_grown)] pCle_leafRead qCle_leafRead) 1).1 [1] η3 := by
  have hw : η 0 45 = 1 := hpp.2
  have hs : η 0 7 ≤ η 0 6 := hpp.1.1.1.1
  have bd43 : (0 : Int) ≤ η 0 43 ∧ η 0 43 ≤ 8 := wf_ok (a := 43) (b := 43) (z := (0, 8)) hp.1 (by decide +kernel) (Nat.le_refl _) (Nat.le_refl _)
  have bd44 : (0 : Int) ≤ η 0 44 ∧ η 0 44 ≤ 64 := wf_ok (a := 44) (b := 44) (z := (0, 64)) hp.1 (by decide +kernel) (Nat.le_refl _) (Nat.le_refl _)
  have bd19 : (0 : Int) ≤ η 0 19 ∧ η 0 19 ≤ 64 := wf_ok (a := 19) (b := 19) (z := (0, 64)) hp.1 (by decide +kernel) (Nat.le_refl _) (Nat.le_refl _)
  intro x1 η1 h1 c1 x2 η2 h2 c2 x3 e3 r3 c3 x4 η3 h4 c4 x5 e5 r5 c5
  have y1 : fQle_isSign [40] η x1 η1 := h1.2.2
  have k1 : sQ wl_le zTr zOle_isSign zMle_isSign [40] η x1 η1 ∧ oQle_isSign [40] η x1 η1 := ⟨h1.1, h1.2.1⟩
  have y2 : fQle_isKey [12] η1 x2 η2 := h2.2.2
  have k2 : sQ wl_le zTr zOle_isKey zMle_isKey [12] η1 x2 η2 ∧ oQle_isKey [12] η1 x2 η2 := ⟨h2.1, h2.2.1⟩
  have y4 : fQle_nameMet [] η2 x4 η3 := h4.2.2
  have k4 : sQ wl_le zTr zOle_nameMet zMle_nameMet [] η2 x4 η3 ∧ oQle_nameMet [] η2 x4 η3 := ⟨h4.1, h4.2.1⟩
  have w0_0_8 : (0 : Int) ≤ η 0 8 ∧ η 0 8 ≤ 6 := wf_ok (a := 8) (b := 8) (z := (0, 6)) hp.1 (by decide +kernel) (Nat.le_refl _) (Nat.le_refl _)
  have c0_0_8 : η 0 8 = η 0 8 := rfl
  have wb1 : wB wl_le zTr η1 := k1.1.1
  have bx1 : (0 : Int) ≤ x1 ∧ x1 ≤ 1 := k1.1.2.1
  have v1 : zEq (η1 0 8) (η 0 8) := (k1.1.2.2.2.1 0 8 (by decide +kernel)).trans rfl
  have c1_0_8 : η1 0 8 = η 0 8 := v1
  have wb2 : wB wl_le zTr η2 := k2.1.1
  have bx2 : (0 : Int) ≤ x2 ∧ x2 ≤ 1 := k2.1.2.1
  have v3 : zEq (η1 0 46) (η 0 46) := (k1.1.2.2.2.1 0 46 (by decide +kernel)).trans rfl
  have v4 : zEq (η2 0 46) (η 0 46) := (k2.1.2.2.2.1 0 46 (by decide +kernel)).trans v3
  replace e3 : x3 = η 0 46 := e3.trans v4
  replace r3 : 0 ≤ x3 ∧ x3 ≤ 1 := r3
  have v5 : zEq (η2 0 8) (η 0 8) := (k2.1.2.2.2.1 0 8 (by decide +kernel)).trans v1
  have c2_0_8 : η2 0 8 = η 0 8 := v5
  have wb3 : wB wl_le zTr η3 := k4.1.1
  have bx4 : ((-1) : Int) ≤ x4 ∧ x4 ≤ 6 := k4.1.2.1
  have v6 : zEq (η3 0 8) (η 0 8) := (k4.1.2.2.2.1 0 8 (by decide +kernel)).trans v5
  replace e5 : x5 = η 0 8 := e5.trans v6
  have fm1 : zFm zMle_leafRead η η1 := zFm_tr2 zFm_rf k1.1.2.2.2.1 (by decide +kernel)
  have fm2 : zFm zMle_leafRead η η2 := zFm_tr2 fm1 k2.1.2.2.2.1 (by decide +kernel)
  have fm3 : zFm zMle_leafRead η η3 := zFm_tr2 fm2 k4.1.2.2.2.1 (by decide +kernel)
  have fmE : zFm zMle_leafRead η η3 := fm3
  have fr22_0 : ∀ j, η 22 j = η 22 j := fun _ => rfl
  have v7 : ∀ j, η1 22 j = η 22 j := fun j => k1.1.2.2.2.1 22 _ (zinr_not (by decide +kernel))
  have fr22_1 : ∀ j, η1 22 j = η 22 j := v7
  have v8 : ∀ j, η2 22 j = η 22 j := fun j => (k2.1.2.2.2.1 22 _ (zinr_not (by decide +kernel))).trans (v7 j)
  have fr22_2 : ∀ j, η2 22 j = η 22 j := v8
  have v9 : ∀ j, η3 22 j = η 22 j := fun j => (k4.1.2.2.2.1 22 _ (zinr_not (by decide +kernel))).trans (v8 j)
  have fr22_3 : ∀ j, η3 22 j = η 22 j := v9
  have fr22 : ∀ j, η3 22 j = η 22 j := v9
  have v11 : zEq (η1 0 41) (η 0 41) := (k1.1.2.2.2.1 0 41 (by decide +kernel)).trans rfl
  have v12 : zEq (η2 0 41) (η 0 41) := (k2.1.2.2.2.1 0 41 (by decide +kernel)).trans v11
  have v13 : zEq (η3 0 41) (η 0 41) := (k4.1.2.2.2.1 0 41 (by decide +kernel)).trans v12
  have f0_41 : η3 0 41 = η 0 41 := v13
  have w0_0_43 : (0 : Int) ≤ η 0 43 ∧ η 0 43 ≤ 8 := wf_ok (a := 43) (b := 43) (z := (0, 8)) hp.1 (by decide +kernel) (Nat.le_refl _) (Nat.le_refl _)
  have v15 : zEq (η1 0 43) (η 0 43) := (k1.1.2.2.2.1 0 43 (by decide +kernel)).trans rfl
  have v16 : zEq (η2 0 43) (η 0 43) := (k2.1.2.2.2.1 0 43 (by decide +kernel)).trans v15
  have v17 : zEq (η3 0 43) (η 0 43) := (k4.1.2.2.2.1 0 43 (by decide +kernel)).trans v16
  have f0_43 : η3 0 43 = η 0 43 := v17
  have v19 : zEq (η1 0 42) (η 0 42) := (k1.1.2.2.2.1 0 42 (by decide +kernel)).trans rfl
  have v20 : zEq (η2 0 42) (η 0 42) := (k2.1.2.2.2.1 0 42 (by decide +kernel)).trans v19
  have v21 : zEq (η3 0 42) (η 0 42) := (k4.1.2.2.2.1 0 42 (by decide +kernel)).trans v20
  have f0_42 : η3 0 42 = η 0 42 := v21
  have v23 : zEq (η1 0 45) (η 0 45) := (k1.1.2.2.2.1 0 45 (by decide +kernel)).trans rfl
  have v24 : zEq (η2 0 45) (η 0 45) := (k2.1.2.2.2.1 0 45 (by decide +kernel)).trans v23
  have v25 : zEq (η3 0 45) (η 0 45) := (k4.1.2.2.2.1 0 45 (by decide +kernel)).trans v24
  have f0_45 : η3 0 45 = η 0 45 := v25
  have w0_0_19 : (0 : Int) ≤ η 0 19 ∧ η 0 19 ≤ 64 := wf_ok (a := 19) (b := 19) (z := (0, 64)) hp.1 (by decide +kernel) (Nat.le_refl _) (Nat.le_refl _)
  have v27 : zEq (η1 0 19) (η 0 19) := (k1.1.2.2.2.1 0 19 (by decide +kernel)).trans rfl
  have v28 : zEq (η2 0 19) (η 0 19) := (k2.1.2.2.2.1 0 19 (by decide +kernel)).trans v27
  have v29 : zEq (η3 0 19) (η 0 19) := (k4.1.2.2.2.1 0 19 (by decide +kernel)).trans v28
  have f0_19 : η3 0 19 = η 0 19 := v29
  have w0_0_44 : (0 : Int) ≤ η 0 44 ∧ η 0 44 ≤ 64 := wf_ok (a := 44) (b := 44) (z := (0, 64)) hp.1 (by decide +kernel) (Nat.le_refl _) (Nat.le_refl _)
  have v31 : zEq (η1 0 44) (η 0 44) := (k1.1.2.2.2.1 0 44 (by decide +kernel)).trans rfl
  have v32 : zEq (η2 0 44) (η 0 44) := (k2.1.2.2.2.1 0 44 (by decide +kernel)).trans v31
  have v33 : zEq (η3 0 44) (η 0 44) := (k4.1.2.2.2.1 0 44 (by decide +kernel)).trans v32
  have f0_44 : η3 0 44 = η 0 44 := v33
  have w0_0_7 : (0 : Int) ≤ η 0 7 ∧ η 0 7 ≤ 700 := wf_ok (a := 7) (b := 7) (z := (0, 700)) hp.1 (by decide +kernel) (Nat.le_refl _) (Nat.le_refl _)
  have v35 : zEq (η1 0 7) (η 0 7) := (k1.1.2.2.2.1 0 7 (by decide +kernel)).trans rfl
  have v36 : zEq (η2 0 7) (η 0 7) := (k2.1.2.2.2.1 0 7 (by decide +kernel)).trans v35
  have v37 : zEq (η3 0 7) (η 0 7) := (k4.1.2.2.2.1 0 7 (by decide +kernel)).trans v36
  have f0_7 : η3 0 7 = η 0 7 := v37
  have w0_0_6 : (0 : Int) ≤ η 0 6 ∧ η 0 6 ≤ 700 := wf_ok (a := 6) (b := 6) (z := (0, 700)) hp.1 (by decide +kernel) (Nat.le_refl _) (Nat.le_refl _)
  have v39 : zEq (η1 0 6) (η 0 6) := (k1.1.2.2.2.1 0 6 (by decide +kernel)).trans rfl
  have v40 : zEq (η2 0 6) (η 0 6) := (k2.1.2.2.2.1 0 6 (by decide +kernel)).trans v39
  have v41 : zEq (η3 0 6) (η 0 6) := (k4.1.2.2.2.1 0 6 (by decide +kernel)).trans v40
  have f0_6 : η3 0 6 = η 0 6 := v41
  have f0_8 : η3 0 8 = η 0 8 := v6
  have wbE : wB wl_le zTr η3 := wb3
  
  have I0 : H_l 0 0 0 η := hpp.1
  have I1 : H_l 0 0 0 η1 := k1.2.1
  have I2 : H_l 0 0 0 η2 := k2.2.1
  have qk2 : η1 0 8 = 1 := k2.2.2 c2
  have I3 : H_l 0 0 0 η3 := k4.2.1
  exact I3
set_option maxHeartbeats 8000000 in
theorem zle_leafRead_o31 {ro : Nat → List Int32} (η : zE) (hp : sP wl_le zTr zPle_leafRead [] η) (hpp : pPle_leafRead [] η) : ∀ (x1 : Int) (η1 : zE), ((gC2 wl_le [(nat_lit 0, zPle_isSign, zOle_isSign, zMle_isSign), (nat_lit 1, zPle_wrong, zOle_wrong, zMle_wrong), (nat_lit 2, zPle_waitsFor0, zOle_waitsFor0, zMle_waitsFor0), (nat_lit 3, zPle_token, zOle_token, zMle_token), (nat_lit 4, zPle_isKey, zOle_isKey, zMle_isKey), (nat_lit 5, zPle_isCounted, zOle_isCounted, zMle_isCounted), (nat_lit 6, zPle_waitsFor2, zOle_waitsFor2, zMle_waitsFor2), (nat_lit 7, zPle_nameMet, zOle_nameMet, zMle_nameMet), (nat_lit 8, zPle_grown, zOle_grown, zMle_grown)] pCle_leafRead qCle_leafRead) 0).2 [40] η x1 η1 → (x1 = 0) → ∀ (x2 : Int) (η2 : zE), ((gC2 wl_le [(nat_lit 0, zPle_isSign, zOle_isSign, zMle_isSign), (nat_lit 1, zPle_wrong, zOle_wrong, zMle_wrong), (nat_lit 2, zPle_waitsFor0, zOle_waitsFor0, zMle_waitsFor0), (nat_lit 3, zPle_token, zOle_token, zMle_token), (nat_lit 4, zPle_isKey, zOle_isKey, zMle_isKey), (nat_lit 5, zPle_isCounted, zOle_isCounted, zMle_isCounted), (nat_lit 6, zPle_waitsFor2, zOle_waitsFor2, zMle_waitsFor2), (nat_lit 7, zPle_nameMet, zOle_nameMet, zMle_nameMet), (nat_lit 8, zPle_grown, zOle_grown, zMle_grown)] pCle_leafRead qCle_leafRead) 4).2 [12] η1 x2 η2 → (¬ x2 = 0) → ∀ x3 : Int, x3 = η2 0 (Int.toNat 46) → zok 1 x3 → (x3 = 0) → ∀ (x4 : Int) (η3 : zE), ((gC2 wl_le [(nat_lit 0, zPle_isSign, zOle_isSign, zMle_isSign), (nat_lit 1, zPle_wrong, zOle_wrong, zMle_wrong), (nat_lit 2, zPle_waitsFor0, zOle_waitsFor0, zMle_waitsFor0), (nat_lit 3, zPle_token, zOle_token, zMle_token), (nat_lit 4, zPle_isKey, zOle_isKey, zMle_isKey), (nat_lit 5, zPle_isCounted, zOle_isCounted, zMle_isCounted), (nat_lit 6, zPle_waitsFor2, zOle_waitsFor2, zMle_waitsFor2), (nat_lit 7, zPle_nameMet, zOle_nameMet, zMle_nameMet), (nat_lit 8, zPle_grown, zOle_grown, zMle_grown)] pCle_leafRead qCle_leafRead) 7).2 [] η2 x4 η3 → (x4 < 0) → ∀ x5 : Int, x5 = η3 0 (Int.toNat 8) → zok 0 x5 → (¬ x5 = 3) → ∀ (x6 : Int) (η4 : zE), ((gC2 wl_le [(nat_lit 0, zPle_isSign, zOle_isSign, zMle_isSign), (nat_lit 1, zPle_wrong, zOle_wrong, zMle_wrong), (nat_lit 2, zPle_waitsFor0, zOle_waitsFor0, zMle_waitsFor0), (nat_lit 3, zPle_token, zOle_token, zMle_token), (nat_lit 4, zPle_isKey, zOle_isKey, zMle_isKey), (nat_lit 5, zPle_isCounted, zOle_isCounted, zMle_isCounted), (nat_lit 6, zPle_waitsFor2, zOle_waitsFor2, zMle_waitsFor2), (nat_lit 7, zPle_nameMet, zOle_nameMet, zMle_nameMet), (nat_lit 8, zPle_grown, zOle_grown, zMle_grown)] pCle_leafRead qCle_leafRead) 1).2 [1] η3 x6 η4 → (fun (_ : Nat) (y : Int) (η' : zE) => pQle_leafRead [] η y η') 0 x6 η4 := by
  intro x1 η1 h1 c1 x2 η2 h2 c2 x3 e3 r3 c3 x4 η3 h4 c4 x5 e5 r5 c5 x6 η4 h6
  have y1 : fQle_isSign [40] η x1 η1 := h1.2.2
  have k1 : sQ wl_le zTr zOle_isSign zMle_isSign [40] η x1 η1 ∧ oQle_isSign [40] η x1 η1 := ⟨h1.1, h1.2.1⟩
  have y2 : fQle_isKey [12] η1 x2 η2 := h2.2.2
  have k2 : sQ wl_le zTr zOle_isKey zMle_isKey [12] η1 x2 η2 ∧ oQle_isKey [12] η1 x2 η2 := ⟨h2.1, h2.2.1⟩
  have y4 : fQle_nameMet [] η2 x4 η3 := h4.2.2
  have k4 : sQ wl_le zTr zOle_nameMet zMle_nameMet [] η2 x4 η3 ∧ oQle_nameMet [] η2 x4 η3 := ⟨h4.1, h4.2.1⟩
  have y6 : fQle_wrong [1] η3 x6 η4 := h6.2.2
  have k6 : sQ wl_le zTr zOle_wrong zMle_wrong [1] η3 x6 η4 ∧ oQle_wrong [1] η3 x6 η4 := ⟨h6.1, h6.2.1⟩
  refine yj_a ?_ ?_
  · have hw : η 0 45 = 1 := hpp.2
    have hs : η 0 7 ≤ η 0 6 := hpp.1.1.1.1
    have bd43 : (0 : Int) ≤ η 0 43 ∧ η 0 43 ≤ 8 := wf_ok (a := 43) (b := 43) (z := (0, 8)) hp.1 (by decide +kernel) (Nat.le_refl _) (Nat.le_refl _)
    have bd44 : (0 : Int) ≤ η 0 44 ∧ η 0 44 ≤ 64 := wf_ok (a := 44) (b := 44) (z := (0, 64)) hp.1 (by decide +kernel) (Nat.le_refl _) (Nat.le_refl _)
    have bd19 : (0 : Int) ≤ η 0 19 ∧ η 0 19 ≤ 64 := wf_ok (a := 19) (b := 19) (z := (0, 64)) hp.1 (by decide +kernel) (Nat.le_refl _) (Nat.le_refl _)
    have y1 : fQle_isSign [40] η x1 η1 := h1.2.2
    have k1 : sQ wl_le zTr zOle_isSign zMle_isSign [40] η x1 η1 ∧ oQle_isSign [40] η x1 η1 := ⟨h1.1, h1.2.1⟩
    have y2 : fQle_isKey [12] η1 x2 η2 := h2.2.2
    have k2 : sQ wl_le zTr zOle_isKey zMle_isKey [12] η1 x2 η2 ∧ oQle_isKey [12] η1 x2 η2 := ⟨h2.1, h2.2.1⟩
    have y4 : fQle_nameMet [] η2 x4 η3 := h4.2.2
    have k4 : sQ wl_le zTr zOle_nameMet zMle_nameMet [] η2 x4 η3 ∧ oQle_nameMet [] η2 x4 η3 := ⟨h4.1, h4.2.1⟩
    have y6 : fQle_wrong [1] η3 x6 η4 := h6.2.2
    have k6 : sQ wl_le zTr zOle_wrong zMle_wrong [1] η3 x6 η4 ∧ oQle_wrong [1] η3 x6 η4 := ⟨h6.1, h6.2.1⟩
    have w0_0_8 : (0 : Int) ≤ η 0 8 ∧ η 0 8 ≤ 6 := wf_ok (a := 8) (b := 8) (z := (0, 6)) hp.1 (by decide +kernel) (Nat.le_refl _) (Nat.le_refl _)
    have c0_0_8 : η 0 8 = η 0 8 := rfl
    have wb1 : wB wl_le zTr η1 := k1.1.1
    have bx1 : (0 : Int) ≤ x1 ∧ x1 ≤ 1 := k1.1.2.1
    have v1 : zEq (η1 0 8) (η 0 8) := (k1.1.2.2.2.1 0 8 (by decide +kernel)).trans rfl
    have c1_0_8 : η1 0 8 = η 0 8 := v1
    have wb2 : wB wl_le zTr η2 := k2.1.1
    have bx2 : (0 : Int) ≤ x2 ∧ x2 ≤ 1 := k2.1.2.1
    have v3 : zEq (η1 0 46) (η 0 46) := (k1.1.2.2.2.1 0 46 (by decide +kernel)).trans rfl
    have v4 : zEq (η2 0 46) (η 0 46) := (k2.1.2.2.2.1 0 46 (by decide +kernel)).trans v3
    replace e3 : x3 = η 0 46 := e3.trans v4
    replace r3 : 0 ≤ x3 ∧ x3 ≤ 1 := r3
    have v5 : zEq (η2 0 8) (η 0 8) := (k2.1.2.2.2.1 0 8 (by decide +kernel)).trans v1
    have c2_0_8 : η2 0 8 = η 0 8 := v5
    have wb3 : wB wl_le zTr η3 := k4.1.1
    have bx4 : ((-1) : Int) ≤ x4 ∧ x4 ≤ 6 := k4.1.2.1
    have v6 : zEq (η3 0 8) (η 0 8) := (k4.1.2.2.2.1 0 8 (by decide +kernel)).trans v5
    replace e5 : x5 = η 0 8 := e5.trans v6
    have c3_0_8 : η3 0 8 = η 0 8 := v6
    have wb4 : wB wl_le zTr η4 := k6.1.1
    have bx6 : (0 : Int) ≤ x6 ∧ x6 ≤ 0 := k6.1.2.1
    have fm1 : zFm zMle_leafRead η η1 := zFm_tr2 zFm_rf k1.1.2.2.2.1 (by decide +kernel)
    have fm2 : zFm zMle_leafRead η η2 := zFm_tr2 fm1 k2.1.2.2.2.1 (by decide +kernel)
    have fm3 : zFm zMle_leafRead η η3 := zFm_tr2 fm2 k4.1.2.2.2.1 (by decide +kernel)
    have fm4 : zFm zMle_leafRead η η4 := zFm_tr2 fm3 k6.1.2.2.2.1 (by decide +kernel)
    have fmE : zFm zMle_leafRead η η4 := fm4
    have fr22_0 : ∀ j, η 22 j = η 22 j := fun _ => rfl
    have v7 : ∀ j, η1 22 j = η 22 j := fun j => k1.1.2.2.2.1 22 _ (zinr_not (by decide +kernel))
    have fr22_1 : ∀ j, η1 22 j = η 22 j := v7
    have v8 : ∀ j, η2 22 j = η 22 j := fun j => (k2.1.2.2.2.1 22 _ (zinr_not (by decide +kernel))).trans (v7 j)
    have fr22_2 : ∀ j, η2 22 j = η 22 j := v8
    have v9 : ∀ j, η3 22 j = η 22 j := fun j => (k4.1.2.2.2.1 22 _ (zinr_not (by decide +kernel))).trans (v8 j)
    have fr22_3 : ∀ j, η3 22 j = η 22 j := v9
    have v10 : ∀ j, η4 22 j = η 22 j := fun j => (k6.1.2.2.2.1 22 _ (zinr_not (by decide +kernel))).trans (v9 j)
    have fr22_4 : ∀ j, η4 22 j = η 22 j := v10
    have fr22 : ∀ j, η4 22 j = η 22 j := v10
    have v12 : zEq (η1 0 41) (η 0 41) := (k1.1.2.2.2.1 0 41 (by decide +kernel)).trans rfl
    have v13 : zEq (η2 0 41) (η 0 41) := (k2.1.2.2.2.1 0 41 (by decide +kernel)).trans v12
    have v14 : zEq (η3 0 41) (η 0 41) := (k4.1.2.2.2.1 0 41 (by decide +kernel)).trans v13
    have v15 : zEq (η4 0 41) (η 0 41) := (k6.1.2.2.2.1 0 41 (by decide +kernel)).trans v14
    have f0_41 : η4 0 41 = η 0 41 := v15
    have w0_0_43 : (0 : Int) ≤ η 0 43 ∧ η 0 43 ≤ 8 := wf_ok (a := 43) (b := 43) (z := (0, 8)) hp.1 (by decide +kernel) (Nat.le_refl _) (Nat.le_refl _)
    have v17 : zEq (η1 0 43) (η 0 43) := (k1.1.2.2.2.1 0 43 (by decide +kernel)).trans rfl
    have v18 : zEq (η2 0 43) (η 0 43) := (k2.1.2.2.2.1 0 43 (by decide +kernel)).trans v17
    have v19 : zEq (η3 0 43) (η 0 43) := (k4.1.2.2.2.1 0 43 (by decide +kernel)).trans v18
    have v20 : zEq (η4 0 43) (η 0 43) := (k6.1.2.2.2.1 0 43 (by decide +kernel)).trans v19
    have f0_43 : η4 0 43 = η 0 43 := v20
    have v22 : zEq (η1 0 42) (η 0 42) := (k1.1.2.2.2.1 0 42 (by decide +kernel)).trans rfl
    have v23 : zEq (η2 0 42) (η 0 42) := (k2.1.2.2.2.1 0 42 (by decide +kernel)).trans v22
    have v24 : zEq (η3 0 42) (η 0 42) := (k4.1.2.2.2.1 0 42 (by decide +kernel)).trans v23
    have v25 : zEq (η4 0 42) (η 0 42) := (k6.1.2.2.2.1 0 42 (by decide +kernel)).trans v24
    have f0_42 : η4 0 42 = η 0 42 := v25
    have v27 : zEq (η1 0 45) (η 0 45) := (k1.1.2.2.2.1 0 45 (by decide +kernel)).trans rfl
    have v28 : zEq (η2 0 45) (η 0 45) := (k2.1.2.2.2.1 0 45 (by decide +kernel)).trans v27
    have v29 : zEq (η3 0 45) (η 0 45) := (k4.1.2.2.2.1 0 45 (by decide +kernel)).trans v28
    have v30 : zEq (η4 0 45) (η 0 45) := (k6.1.2.2.2.1 0 45 (by decide +kernel)).trans v29
    have f0_45 : η4 0 45 = η 0 45 := v30
    have w0_0_19 : (0 : Int) ≤ η 0 19 ∧ η 0 19 ≤ 64 := wf_ok (a := 19) (b := 19) (z := (0, 64)) hp.1 (by decide +kernel) (Nat.le_refl _) (Nat.le_refl _)
    have v32 : zEq (η1 0 19) (η 0 19) := (k1.1.2.2.2.1 0 19 (by decide +kernel)).trans rfl
    have v33 : zEq (η2 0 19) (η 0 19) := (k2.1.2.2.2.1 0 19 (by decide +kernel)).trans v32
    have v34 : zEq (η3 0 19) (η 0 19) := (k4.1.2.2.2.1 0 19 (by decide +kernel)).trans v33
    have v35 : zEq (η4 0 19) (η 0 19) := (k6.1.2.2.2.1 0 19 (by decide +kernel)).trans v34
    have f0_19 : η4 0 19 = η 0 19 := v35
    have w0_0_44 : (0 : Int) ≤ η 0 44 ∧ η 0 44 ≤ 64 := wf_ok (a := 44) (b := 44) (z := (0, 64)) hp.1 (by decide +kernel) (Nat.le_refl _) (Nat.le_refl _)
    have v37 : zEq (η1 0 44) (η 0 44) := (k1.1.2.2.2.1 0 44 (by decide +kernel)).trans rfl
    have v38 : zEq (η2 0 44) (η 0 44) := (k2.1.2.2.2.1 0 44 (by decide +kernel)).trans v37
    have v39 : zEq (η3 0 44) (η 0 44) := (k4.1.2.2.2.1 0 44 (by decide +kernel)).trans v38
    have v40 : zEq (η4 0 44) (η 0 44) := (k6.1.2.2.2.1 0 44 (by decide +kernel)).trans v39
    have f0_44 : η4 0 44 = η 0 44 := v40
    have w0_0_7 : (0 : Int) ≤ η 0 7 ∧ η 0 7 ≤ 700 := wf_ok (a := 7) (b := 7) (z := (0, 700)) hp.1 (by decide +kernel) (Nat.le_refl _) (Nat.le_refl _)
    have v42 : zEq (η1 0 7) (η 0 7) := (k1.1.2.2.2.1 0 7 (by decide +kernel)).trans rfl
    have v43 : zEq (η2 0 7) (η 0 7) := (k2.1.2.2.2.1 0 7 (by decide +kernel)).trans v42
    have v44 : zEq (η3 0 7) (η 0 7) := (k4.1.2.2.2.1 0 7 (by decide +kernel)).trans v43
    have v45 : zEq (η4 0 7) (η 0 7) := (k6.1.2.2.2.1 0 7 (by decide +kernel)).trans v44
    have f0_7 : η4 0 7 = η 0 7 := v45
    have w0_0_6 : (0 : Int) ≤ η 0 6 ∧ η 0 6 ≤ 700 := wf_ok (a := 6) (b := 6) (z := (0, 700)) hp.1 (by decide +kernel) (Nat.le_refl _) (Nat.le_refl _)
    have v47 : zEq (η1 0 6) (η 0 6) := (k1.1.2.2.2.1 0 6 (by decide +kernel)).trans rfl
    have v48 : zEq (η2 0 6) (η 0 6) := (k2.1.2.2.2.1 0 6 (by decide +kernel)).trans v47
    have v49 : zEq (η3 0 6) (η 0 6) := (k4.1.2.2.2.1 0 6 (by decide +kernel)).trans v48
    have v50 : zEq (η4 0 6) (η 0 6) := (k6.1.2.2.2.1 0 6 (by decide +kernel)).trans v49
    have f0_6 : η4 0 6 = η 0 6 := v50
    have v51 : zEq (η4 0 8) (η 0 8) := (k6.1.2.2.2.1 0 8 (by decide +kernel)).trans v6
    have f0_8 : η4 0 8 = η 0 8 := v51
    have wbE : wB wl_le zTr η4 := wb4
    
    have I0 : H_l 0 0 0 η := hpp.1
    have I1 : H_l 0 0 0 η1 := k1.2.1
    have I2 : H_l 0 0 0 η2 := k2.2.1
    have qk2 : η1 0 8 = 1 := k2.2.2 c2
    have I3 : H_l 0 0 0 η3 := k4.2.1
    have I4 : H_l 0 0 0 η4 := k6.2
    exact ⟨I4.1, fun w => absurd (show (x6 : Int) = 0 by apply Int.le_antisymm <;> omega) w⟩
  · obtain ⟨a1, b1⟩ : x1 = (yq_isS 40 η) ∧ η = η1 := ⟨y1.1, y1.2.symm⟩
    subst b1
    obtain ⟨a2, b2⟩ : x2 = (yq_isK 12 η) ∧ η = η2 := ⟨y2.1, y2.2.symm⟩
    subst b2
    have e3 : x3 = η 0 46 := e3
    obtain ⟨a4, b4⟩ : x4 = (yq_nm η) ∧ η = η3 := ⟨y4.1, y4.2.symm⟩
    subst b4
    have e5 : x5 = η 0 8 := e5
    obtain ⟨a6, b6⟩ : x6 = 0 ∧ η4 = (yq_wr 1 η) := y6
    show x6 = (yq_lf η).1 ∧ η4 = (yq_lf η).2
    simp only [yq_lf, yq_ct, yq_no, yq_inc, ← a1, ← a2, ← e3, ← a4, ← e5, ← b6, a6]
    all_goals ((repeat' split) <;> first | (exfalso; omega) | exact ⟨rfl, rfl⟩ | rfl)
set_option maxHeartbeats 8000000 in
theorem zle_leafRead_o32 {ro : Nat → List Int32} (η : zE) (hp : sP wl_le zTr zPle_leafRead [] η) (hpp : pPle_leafRead [] η) : ∀ (x1 : Int) (η1 : zE), ((gC2 wl_le [(nat_lit 0, zPle_isSign, zOle_isSign, zMle_isSign), (nat_lit 1, zPle_wrong, zOle_wrong, zMle_wrong), (nat_lit 2, zPle_waitsFor0, zOle_waitsFor0, zMle_waitsFor0), (nat_lit 3, zPle_token, zOle_token, zMle_token), (nat_lit 4, zPle_isKey, zOle_isKey, zMle_isKey), (nat_lit 5, zPle_isCounted, zOle_isCounted, zMle_isCounted), (nat_lit 6, zPle_waitsFor2, zOle_waitsFor2, zMle_waitsFor2), (nat_lit 7, zPle_nameMet, zOle_nameMet, zMle_nameMet), (nat_lit 8, zPle_grown, zOle_grown, zMle_grown)] pCle_leafRead qCle_leafRead) 0).2 [40] η x1 η1 → (x1 = 0) → ∀ (x2 : Int) (η2 : zE), ((gC2 wl_le [(nat_lit 0, zPle_isSign, zOle_isSign, zMle_isSign), (nat_lit 1, zPle_wrong, zOle_wrong, zMle_wrong), (nat_lit 2, zPle_waitsFor0, zOle_waitsFor0, zMle_waitsFor0), (nat_lit 3, zPle_token, zOle_token, zMle_token), (nat_lit 4, zPle_isKey, zOle_isKey, zMle_isKey), (nat_lit 5, zPle_isCounted, zOle_isCounted, zMle_isCounted), (nat_lit 6, zPle_waitsFor2, zOle_waitsFor2, zMle_waitsFor2), (nat_lit 7, zPle_nameMet, zOle_nameMet, zMle_nameMet), (nat_lit 8, zPle_grown, zOle_grown, zMle_grown)] pCle_leafRead qCle_leafRead) 4).2 [12] η1 x2 η2 → (¬ x2 = 0) → ∀ x3 : Int, x3 = η2 0 (Int.toNat 46) → zok 1 x3 → (¬ x3 = 0) → ((gC2 wl_le [(nat_lit 0, zPle_isSign, zOle_isSign, zMle_isSign), (nat_lit 1, zPle_wrong, zOle_wrong, zMle_wrong), (nat_lit 2, zPle_waitsFor0, zOle_waitsFor0, zMle_waitsFor0), (nat_lit 3, zPle_token, zOle_token, zMle_token), (nat_lit 4, zPle_isKey, zOle_isKey, zMle_isKey), (nat_lit 5, zPle_isCounted, zOle_isCounted, zMle_isCounted), (nat_lit 6, zPle_waitsFor2, zOle_waitsFor2, zMle_waitsFor2), (nat_lit 7, zPle_nameMet, zOle_nameMet, zMle_nameMet), (nat_lit 8, zPle_grown, zOle_grown, zMle_grown)] pCle_leafRead qCle_leafRead) 5).1 [] η2 := by
  have hw : η 0 45 = 1 := hpp.2
  have hs : η 0 7 ≤ η 0 6 := hpp.1.1.1.1
  have bd43 : (0 : Int) ≤ η 0 43 ∧ η 0 43 ≤ 8 := wf_ok (a := 43) (b := 43) (z := (0, 8)) hp.1 (by decide +kernel) (Nat.le_refl _) (Nat.le_refl _)
  have bd44 : (0 : Int) ≤ η 0 44 ∧ η 0 44 ≤ 64 := wf_ok (a := 44) (b := 44) (z := (0, 64)) hp.1 (by decide +kernel) (Nat.le_refl _) (Nat.le_refl _)
  have bd19 : (0 : Int) ≤ η 0 19 ∧ η 0 19 ≤ 64 := wf_ok (a := 19) (b := 19) (z := (0, 64)) hp.1 (by decide +kernel) (Nat.le_refl _) (Nat.le_refl _)
  intro x1 η1 h1 c1 x2 η2 h2 c2 x3 e3 r3 c3
  have y1 : fQle_isSign [40] η x1 η1 := h1.2.2
  have k1 : sQ wl_le zTr zOle_isSign zMle_isSign [40] η x1 η1 ∧ oQle_isSign [40] η x1 η1 := ⟨h1.1, h1.2.1⟩
  have y2 : fQle_isKey [12] η1 x2 η2 := h2.2.2
  have k2 : sQ wl_le zTr zOle_isKey zMle_isKey [12] η1 x2 η2 ∧ oQle_isKey [12] η1 x2 η2 := ⟨h2.1, h2.2.1⟩
  have w0_0_8 : (0 : Int) ≤ η 0 8 ∧ η 0 8 ≤ 6 := wf_ok (a := 8) (b := 8) (z := (0, 6)) hp.1 (by decide +kernel) (Nat.le_refl _) (Nat.le_refl _)
  have c0_0_8 : η 0 8 = η 0 8 := rfl
  have wb1 : wB wl_le zTr η1 := k1.1.1
  have bx1 : (0 : Int) ≤ x1 ∧ x1 ≤ 1 := k1.1.2.1
  have v1 : zEq (η1 0 8) (η 0 8) := (k1.1.2.2.2.1 0 8 (by decide +kernel)).trans rfl
  have c1_0_8 : η1 0 8 = η 0 8 := v1
  have wb2 : wB wl_le zTr η2 := k2.1.1
  have bx2 : (0 : Int) ≤ x2 ∧ x2 ≤ 1 := k2.1.2.1
  have v3 : zEq (η1 0 46) (η 0 46) := (k1.1.2.2.2.1 0 46 (by decide +kernel)).trans rfl
  have v4 : zEq (η2 0 46) (η 0 46) := (k2.1.2.2.2.1 0 46 (by decide +kernel)).trans v3
  replace e3 : x3 = η 0 46 := e3.trans v4
  replace r3 : 0 ≤ x3 ∧ x3 ≤ 1 := r3
  have fm1 : zFm zMle_leafRead η η1 := zFm_tr2 zFm_rf k1.1.2.2.2.1 (by decide +kernel)
  have fm2 : zFm zMle_leafRead η η2 := zFm_tr2 fm1 k2.1.2.2.2.1 (by decide +kernel)
  have fmE : zFm zMle_leafRead η η2 := fm2
  have fr22_0 : ∀ j, η 22 j = η 22 j := fun _ => rfl
  have v5 : ∀ j, η1 22 j = η 22 j := fun j => k1.1.2.2.2.1 22 _ (zinr_not (by decide +kernel))
  have fr22_1 : ∀ j, η1 22 j = η 22 j := v5
  have v6 : ∀ j, η2 22 j = η 22 j := fun j => (k2.1.2.2.2.1 22 _ (zinr_not (by decide +kernel))).trans (v5 j)
  have fr22_2 : ∀ j, η2 22 j = η 22 j := v6
  have fr22 : ∀ j, η2 22 j = η 22 j := v6
  have v8 : zEq (η1 0 41) (η 0 41) := (k1.1.2.2.2.1 0 41 (by decide +kernel)).trans rfl
  have v9 : zEq (η2 0 41) (η 0 41) := (k2.1.2.2.2.1 0 41 (by decide +kernel)).trans v8
  have f0_41 : η2 0 41 = η 0 41 := v9
  have w0_0_43 : (0 : Int) ≤ η 0 43 ∧ η 0 43 ≤ 8 := wf_ok (a := 43) (b := 43) (z := (0, 8)) hp.1 (by decide +kernel) (Nat.le_refl _) (Nat.le_refl _)
  have v11 : zEq (η1 0 43) (η 0 43) := (k1.1.2.2.2.1 0 43 (by decide +kernel)).trans rfl
  have v12 : zEq (η2 0 43) (η 0 43) := (k2.1.2.2.2.1 0 43 (by decide +kernel)).trans v11
  have f0_43 : η2 0 43 = η 0 43 := v12
  have v14 : zEq (η1 0 42) (η 0 42) := (k1.1.2.2.2.1 0 42 (by decide +kernel)).trans rfl
  have v15 : zEq (η2 0 42) (η 0 42) := (k2.1.2.2.2.1 0 42 (by decide +kernel)).trans v14
  have f0_42 : η2 0 42 = η 0 42 := v15
  have v17 : zEq (η1 0 45) (η 0 45) := (k1.1.2.2.2.1 0 45 (by decide +kernel)).trans rfl
  have v18 : zEq (η2 0 45) (η 0 45) := (k2.1.2.2.2.1 0 45 (by decide +kernel)).trans v17
  have f0_45 : η2 0 45 = η 0 45 := v18
  have w0_0_19 : (0 : Int) ≤ η 0 19 ∧ η 0 19 ≤ 64 := wf_ok (a := 19) (b := 19) (z := (0, 64)) hp.1 (by decide +kernel) (Nat.le_refl _) (Nat.le_refl _)
  have v20 : zEq (η1 0 19) (η 0 19) := (k1.1.2.2.2.1 0 19 (by decide +kernel)).trans rfl
  have v21 : zEq (η2 0 19) (η 0 19) := (k2.1.2.2.2.1 0 19 (by decide +kernel)).trans v20
  have f0_19 : η2 0 19 = η 0 19 := v21
  have w0_0_44 : (0 : Int) ≤ η 0 44 ∧ η 0 44 ≤ 64 := wf_ok (a := 44) (b := 44) (z := (0, 64)) hp.1 (by decide +kernel) (Nat.le_refl _) (Nat.le_refl _)
  have v23 : zEq (η1 0 44) (η 0 44) := (k1.1.2.2.2.1 0 44 (by decide +kernel)).trans rfl
  have v24 : zEq (η2 0 44) (η 0 44) := (k2.1.2.2.2.1 0 44 (by decide +kernel)).trans v23
  have f0_44 : η2 0 44 = η 0 44 := v24
  have w0_0_7 : (0 : Int) ≤ η 0 7 ∧ η 0 7 ≤ 700 := wf_ok (a := 7) (b := 7) (z := (0, 700)) hp.1 (by decide +kernel) (Nat.le_refl _) (Nat.le_refl _)
  have v26 : zEq (η1 0 7) (η 0 7) := (k1.1.2.2.2.1 0 7 (by decide +kernel)).trans rfl
  have v27 : zEq (η2 0 7) (η 0 7) := (k2.1.2.2.2.1 0 7 (by decide +kernel)).trans v26
  have f0_7 : η2 0 7 = η 0 7 := v27
  have w0_0_6 : (0 : Int) ≤ η 0 6 ∧ η 0 6 ≤ 700 := wf_ok (a := 6) (b := 6) (z := (0, 700)) hp.1 (by decide +kernel) (Nat.le_refl _) (Nat.le_refl _)
  have v29 : zEq (η1 0 6) (η 0 6) := (k1.1.2.2.2.1 0 6 (by decide +kernel)).trans rfl
  have v30 : zEq (η2 0 6) (η 0 6) := (k2.1.2.2.2.1 0 6 (by decide +kernel)).trans v29
  have f0_6 : η2 0 6 = η 0 6 := v30
  have v31 : zEq (η2 0 8) (η 0 8) := (k2.1.2.2.2.1 0 8 (by decide +kernel)).trans v1
  have f0_8 : η2 0 8 = η 0 8 := v31
  have wbE : wB wl_le zTr η2 := wb2
  
  have I0 : H_l 0 0 0 η := hpp.1
  have I1 : H_l 0 0 0 η1 := k1.2.1
  have I2 : H_l 0 0 0 η2 := k2.2.1
  have qk2 : η1 0 8 = 1 := k2.2.2 c2
  exact I2
set_option maxHeartbeats 8000000 in
theorem zle_leafRead_o33 {ro : Nat → List Int32} (η : zE) (hp : sP wl_le zTr zPle_leafRead [] η) (hpp : pPle_leafRead [] η) : ∀ (x1 : Int) (η1 : zE), ((gC2 wl_le [(nat_lit 0, zPle_isSign, zOle_isSign, zMle_isSign), (nat_lit 1, zPle_wrong, zOle_wrong, zMle_wrong), (nat_lit 2, zPle_waitsFor0, zOle_waitsFor0, zMle_waitsFor0), (nat_lit 3, zPle_token, zOle_token, zMle_token), (nat_lit 4, zPle_isKey, zOle_isKey, zMle_isKey), (nat_lit 5, zPle_isCounted, zOle_isCounted, zMle_isCounted), (nat_lit 6, zPle_waitsFor2, zOle_waitsFor2, zMle_waitsFor2), (nat_lit 7, zPle_nameMet, zOle_nameMet, zMle_nameMet), (nat_lit 8, zPle_grown, zOle_grown, zMle_grown)] pCle_leafRead qCle_leafRead) 0).2 [40] η x1 η1 → (x1 = 0) → ∀ (x2 : Int) (η2 : zE), ((gC2 wl_le [(nat_lit 0, zPle_isSign, zOle_isSign, zMle_isSign), (nat_lit 1, zPle_wrong, zOle_wrong, zMle_wrong), (nat_lit 2, zPle_waitsFor0, zOle_waitsFor0, zMle_waitsFor0), (nat_lit 3, zPle_token, zOle_token, zMle_token), (nat_lit 4, zPle_isKey, zOle_isKey, zMle_isKey), (nat_lit 5, zPle_isCounted, zOle_isCounted, zMle_isCounted), (nat_lit 6, zPle_waitsFor2, zOle_waitsFor2, zMle_waitsFor2), (nat_lit 7, zPle_nameMet, zOle_nameMet, zMle_nameMet), (nat_lit 8, zPle_grown, zOle_grown, zMle_grown)] pCle_leafRead qCle_leafRead) 4).2 [12] η1 x2 η2 → (¬ x2 = 0) → ∀ x3 : Int, x3 = η2 0 (Int.toNat 46) → zok 1 x3 → (¬ x3 = 0) → ∀ (x4 : Int) (η3 : zE), ((gC2 wl_le [(nat_lit 0, zPle_isSign, zOle_isSign, zMle_isSign), (nat_lit 1, zPle_wrong, zOle_wrong, zMle_wrong), (nat_lit 2, zPle_waitsFor0, zOle_waitsFor0, zMle_waitsFor0), (nat_lit 3, zPle_token, zOle_token, zMle_token), (nat_lit 4, zPle_isKey, zOle_isKey, zMle_isKey), (nat_lit 5, zPle_isCounted, zOle_isCounted, zMle_isCounted), (nat_lit 6, zPle_waitsFor2, zOle_waitsFor2, zMle_waitsFor2), (nat_lit 7, zPle_nameMet, zOle_nameMet, zMle_nameMet), (nat_lit 8, zPle_grown, zOle_grown, zMle_grown)] pCle_leafRead qCle_leafRead) 5).2 [] η2 x4 η3 → (¬ x4 = 0) → ((gC2 wl_le [(nat_lit 0, zPle_isSign, zOle_isSign, zMle_isSign), (nat_lit 1, zPle_wrong, zOle_wrong, zMle_wrong), (nat_lit 2, zPle_waitsFor0, zOle_waitsFor0, zMle_waitsFor0), (nat_lit 3, zPle_token, zOle_token, zMle_token), (nat_lit 4, zPle_isKey, zOle_isKey, zMle_isKey), (nat_lit 5, zPle_isCounted, zOle_isCounted, zMle_isCounted), (nat_lit 6, zPle_waitsFor2, zOle_waitsFor2, zMle_waitsFor2), (nat_lit 7, zPle_nameMet, zOle_nameMet, zMle_nameMet), (nat_lit 8, zPle_grown, zOle_grown, zMle_grown)] pCle_leafRead qCle_leafRead) 6).1 [] η3 := by
  have hw : η 0 45 = 1 := hpp.2
  have hs : η 0 7 ≤ η 0 6 := hpp.1.1.1.1
  have bd43 : (0 : Int) ≤ η 0 43 ∧ η 0 43 ≤ 8 := wf_ok (a := 43) (b := 43) (z := (0, 8)) hp.1 (by decide +kernel) (Nat.le_refl _) (Nat.le_refl _)
  have bd44 : (0 : Int) ≤ η 0 44 ∧ η 0 44 ≤ 64 := wf_ok (a := 44) (b := 44) (z := (0, 64)) hp.1 (by decide +kernel) (Nat.le_refl _) (Nat.le_refl _)
  have bd19 : (0 : Int) ≤ η 0 19 ∧ η 0 19 ≤ 64 := wf_ok (a := 19) (b := 19) (z := (0, 64)) hp.1 (by decide +kernel) (Nat.le_refl _) (Nat.le_refl _)
  intro x1 η1 h1 c1 x2 η2 h2 c2 x3 e3 r3 c3 x4 η3 h4 c4
  have y1 : fQle_isSign [40] η x1 η1 := h1.2.2
  have k1 : sQ wl_le zTr zOle_isSign zMle_isSign [40] η x1 η1 ∧ oQle_isSign [40] η x1 η1 := ⟨h1.1, h1.2.1⟩
  have y2 : fQle_isKey [12] η1 x2 η2 := h2.2.2
  have k2 : sQ wl_le zTr zOle_isKey zMle_isKey [12] η1 x2 η2 ∧ oQle_isKey [12] η1 x2 η2 := ⟨h2.1, h2.2.1⟩
  have y4 : fQle_isCounted [] η2 x4 η3 := h4.2.2
  have k4 : sQ wl_le zTr zOle_isCounted zMle_isCounted [] η2 x4 η3 ∧ oQle_isCounted [] η2 x4 η3 := ⟨h4.1, h4.2.1⟩
  have w0_0_8 : (0 : Int) ≤ η 0 8 ∧ η 0 8 ≤ 6 := wf_ok (a := 8) (b := 8) (z := (0, 6)) hp.1 (by decide +kernel) (Nat.le_refl _) (Nat.le_refl _)
  have c0_0_8 : η 0 8 = η 0 8 := rfl
  have wb1 : wB wl_le zTr η1 := k1.1.1
  have bx1 : (0 : Int) ≤ x1 ∧ x1 ≤ 1 := k1.1.2.1
  have v1 : zEq (η1 0 8) (η 0 8) := (k1.1.2.2.2.1 0 8 (by decide +kernel)).trans rfl
  have c1_0_8 : η1 0 8 = η 0 8 := v1
  have wb2 : wB wl_le zTr η2 := k2.1.1
  have bx2 : (0 : Int) ≤ x2 ∧ x2 ≤ 1 := k2.1.2.1
  have v3 : zEq (η1 0 46) (η 0 46) := (k1.1.2.2.2.1 0 46 (by decide +kernel)).trans rfl
  have v4 : zEq (η2 0 46) (η 0 46) := (k2.1.2.2.2.1 0 46 (by decide +kernel)).trans v3
  replace e3 : x3 = η 0 46 := e3.trans v4
  replace r3 : 0 ≤ x3 ∧ x3 ≤ 1 := r3
  have v5 : zEq (η2 0 8) (η 0 8) := (k2.1.2.2.2.1 0 8 (by decide +kernel)).trans v1
  have c2_0_8 : η2 0 8 = η 0 8 := v5
  have wb3 : wB wl_le zTr η3 := k4.1.1
  have bx4 : (0 : Int) ≤ x4 ∧ x4 ≤ 1 := k4.1.2.1
  have fm1 : zFm zMle_leafRead η η1 := zFm_tr2 zFm_rf k1.1.2.2.2.1 (by decide +kernel)
  have fm2 : zFm zMle_leafRead η η2 := zFm_tr2 fm1 k2.1.2.2.2.1 (by decide +kernel)
  have fm3 : zFm zMle_leafRead η η3 := zFm_tr2 fm2 k4.1.2.2.2.1 (by decide +kernel)
  have fmE : zFm zMle_leafRead η η3 := fm3
  have fr22_0 : ∀ j, η 22 j = η 22 j := fun _ => rfl
  have v6 : ∀ j, η1 22 j = η 22 j := fun j => k1.1.2.2.2.1 22 _ (zinr_not (by decide +kernel))
  have fr22_1 : ∀ j, η1 22 j = η 22 j := v6
  have v7 : ∀ j, η2 22 j = η 22 j := fun j => (k2.1.2.2.2.1 22 _ (zinr_not (by decide +kernel))).trans (v6 j)
  have fr22_2 : ∀ j, η2 22 j = η 22 j := v7
  have v8 : ∀ j, η3 22 j = η 22 j := fun j => (k4.1.2.2.2.1 22 _ (zinr_not (by decide +kernel))).trans (v7 j)
  have fr22_3 : ∀ j, η3 22 j = η 22 j := v8
  have fr22 : ∀ j, η3 22 j = η 22 j := v8
  have v10 : zEq (η1 0 41) (η 0 41) := (k1.1.2.2.2.1 0 41 (by decide +kernel)).trans rfl
  have v11 : zEq (η2 0 41) (η 0 41) := (k2.1.2.2.2.1 0 41 (by decide +kernel)).trans v10
  have v12 : zEq (η3 0 41) (η 0 41) := (k4.1.2.2.2.1 0 41 (by decide +kernel)).trans v11
  have f0_41 : η3 0 41 = η 0 41 := v12
  have w0_0_43 : (0 : Int) ≤ η 0 43 ∧ η 0 43 ≤ 8 := wf_ok (a := 43) (b := 43) (z := (0, 8)) hp.1 (by decide +kernel) (Nat.le_refl _) (Nat.le_refl _)
  have v14 : zEq (η1 0 43) (η 0 43) := (k1.1.2.2.2.1 0 43 (by decide +kernel)).trans rfl
  have v15 : zEq (η2 0 43) (η 0 43) := (k2.1.2.2.2.1 0 43 (by decide +kernel)).trans v14
  have v16 : zEq (η3 0 43) (η 0 43) := (k4.1.2.2.2.1 0 43 (by decide +kernel)).trans v15
  have f0_43 : η3 0 43 = η 0 43 := v16
  have v18 : zEq (η1 0 42) (η 0 42) := (k1.1.2.2.2.1 0 42 (by decide +kernel)).trans rfl
  have v19 : zEq (η2 0 42) (η 0 42) := (k2.1.2.2.2.1 0 42 (by decide +kernel)).trans v18
  have v20 : zEq (η3 0 42) (η 0 42) := (k4.1.2.2.2.1 0 42 (by decide +kernel)).trans v19
  have f0_42 : η3 0 42 = η 0 42 := v20
  have v22 : zEq (η1 0 45) (η 0 45) := (k1.1.2.2.2.1 0 45 (by decide +kernel)).trans rfl
  have v23 : zEq (η2 0 45) (η 0 45) := (k2.1.2.2.2.1 0 45 (by decide +kernel)).trans v22
  have v24 : zEq (η3 0 45) (η 0 45) := (k4.1.2.2.2.1 0 45 (by decide +kernel)).trans v23
  have f0_45 : η3 0 45 = η 0 45 := v24
  have w0_0_19 : (0 : Int) ≤ η 0 19 ∧ η 0 19 ≤ 64 := wf_ok (a := 19) (b := 19) (z := (0, 64)) hp.1 (by decide +kernel) (Nat.le_refl _) (Nat.le_refl _)
  have v26 : zEq (η1 0 19) (η 0 19) := (k1.1.2.2.2.1 0 19 (by decide +kernel)).trans rfl
  have v27 : zEq (η2 0 19) (η 0 19) := (k2.1.2.2.2.1 0 19 (by decide +kernel)).trans v26
  have v28 : zEq (η3 0 19) (η 0 19) := (k4.1.2.2.2.1 0 19 (by decide +kernel)).trans v27
  have f0_19 : η3 0 19 = η 0 19 := v28
  have w3_0_44 : (0 : Int) ≤ η3 0 44 ∧ η3 0 44 ≤ 64 := wf_ok (a := 44) (b := 44) (z := (0, 64)) k4.1.1 (by decide +kernel) (Nat.le_refl _) (Nat.le_refl _)
  have f0_44 : η3 0 44 = η3 0 44 := rfl
  have w0_0_7 : (0 : Int) ≤ η 0 7 ∧ η 0 7 ≤ 700 := wf_ok (a := 7) (b := 7) (z := (0, 700)) hp.1 (by decide +kernel) (Nat.le_refl _) (Nat.le_refl _)
  have v31 : zEq (η1 0 7) (η 0 7) := (k1.1.2.2.2.1 0 7 (by decide +kernel)).trans rfl
  have v32 : zEq (η2 0 7) (η 0 7) := (k2.1.2.2.2.1 0 7 (by decide +kernel)).trans v31
  have v33 : zEq (η3 0 7) (η 0 7) := (k4.1.2.2.2.1 0 7 (by decide +kernel)).trans v32
  have f0_7 : η3 0 7 = η 0 7 := v33
  have w0_0_6 : (0 : Int) ≤ η 0 6 ∧ η 0 6 ≤ 700 := wf_ok (a := 6) (b := 6) (z := (0, 700)) hp.1 (by decide +kernel) (Nat.le_refl _) (Nat.le_refl _)
  have v35 : zEq (η1 0 6) (η 0 6) := (k1.1.2.2.2.1 0 6 (by decide +kernel)).trans rfl
  have v36 : zEq (η2 0 6) (η 0 6) := (k2.1.2.2.2.1 0 6 (by decide +kernel)).trans v35
  have v37 : zEq (η3 0 6) (η 0 6) := (k4.1.2.2.2.1 0 6 (by decide +kernel)).trans v36
  have f0_6 : η3 0 6 = η 0 6 := v37
  have v38 : zEq (η3 0 8) (η 0 8) := (k4.1.2.2.2.1 0 8 (by decide +kernel)).trans v5
  have f0_8 : η3 0 8 = η 0 8 := v38
  have wbE : wB wl_le zTr η3 := wb3
  
  have I0 : H_l 0 0 0 η := hpp.1
  have I1 : H_l 0 0 0 η1 := k1.2.1
  have I2 : H_l 0 0 0 η2 := k2.2.1
  have qk2 : η1 0 8 = 1 := k2.2.2 c2
  have I3 : H_l 1 0 0 η3 := k4.2.1 c4
  exact I3
set_option maxHeartbeats 8000000 in
theorem zle_leafRead_o34 {ro : Nat → List Int32} (η : zE) (hp : sP wl_le zTr zPle_leafRead [] η) (hpp : pPle_leafRead [] η) : ∀ (x1 : Int) (η1 : zE), ((gC2 wl_le [(nat_lit 0, zPle_isSign, zOle_isSign, zMle_isSign), (nat_lit 1, zPle_wrong, zOle_wrong, zMle_wrong), (nat_lit 2, zPle_waitsFor0, zOle_waitsFor0, zMle_waitsFor0), (nat_lit 3, zPle_token, zOle_token, zMle_token), (nat_lit 4, zPle_isKey, zOle_isKey, zMle_isKey), (nat_lit 5, zPle_isCounted, zOle_isCounted, zMle_isCounted), (nat_lit 6, zPle_waitsFor2, zOle_waitsFor2, zMle_waitsFor2), (nat_lit 7, zPle_nameMet, zOle_nameMet, zMle_nameMet), (nat_lit 8, zPle_grown, zOle_grown, zMle_grown)] pCle_leafRead qCle_leafRead) 0).2 [40] η x1 η1 → (x1 = 0) → ∀ (x2 : Int) (η2 : zE), ((gC2 wl_le [(nat_lit 0, zPle_isSign, zOle_isSign, zMle_isSign), (nat_lit 1, zPle_wrong, zOle_wrong, zMle_wrong), (nat_lit 2, zPle_waitsFor0, zOle_waitsFor0, zMle_waitsFor0), (nat_lit 3, zPle_token, zOle_token, zMle_token), (nat_lit 4, zPle_isKey, zOle_isKey, zMle_isKey), (nat_lit 5, zPle_isCounted, zOle_isCounted, zMle_isCounted), (nat_lit 6, zPle_waitsFor2, zOle_waitsFor2, zMle_waitsFor2), (nat_lit 7, zPle_nameMet, zOle_nameMet, zMle_nameMet), (nat_lit 8, zPle_grown, zOle_grown, zMle_grown)] pCle_leafRead qCle_leafRead) 4).2 [12] η1 x2 η2 → (¬ x2 = 0) → ∀ x3 : Int, x3 = η2 0 (Int.toNat 46) → zok 1 x3 → (¬ x3 = 0) → ∀ (x4 : Int) (η3 : zE), ((gC2 wl_le [(nat_lit 0, zPle_isSign, zOle_isSign, zMle_isSign), (nat_lit 1, zPle_wrong, zOle_wrong, zMle_wrong), (nat_lit 2, zPle_waitsFor0, zOle_waitsFor0, zMle_waitsFor0), (nat_lit 3, zPle_token, zOle_token, zMle_token), (nat_lit 4, zPle_isKey, zOle_isKey, zMle_isKey), (nat_lit 5, zPle_isCounted, zOle_isCounted, zMle_isCounted), (nat_lit 6, zPle_waitsFor2, zOle_waitsFor2, zMle_waitsFor2), (nat_lit 7, zPle_nameMet, zOle_nameMet, zMle_nameMet), (nat_lit 8, zPle_grown, zOle_grown, zMle_grown)] pCle_leafRead qCle_leafRead) 5).2 [] η2 x4 η3 → (¬ x4 = 0) → ∀ (x5 : Int) (η4 : zE), ((gC2 wl_le [(nat_lit 0, zPle_isSign, zOle_isSign, zMle_isSign), (nat_lit 1, zPle_wrong, zOle_wrong, zMle_wrong), (nat_lit 2, zPle_waitsFor0, zOle_waitsFor0, zMle_waitsFor0), (nat_lit 3, zPle_token, zOle_token, zMle_token), (nat_lit 4, zPle_isKey, zOle_isKey, zMle_isKey), (nat_lit 5, zPle_isCounted, zOle_isCounted, zMle_isCounted), (nat_lit 6, zPle_waitsFor2, zOle_waitsFor2, zMle_waitsFor2), (nat_lit 7, zPle_nameMet, zOle_nameMet, zMle_nameMet), (nat_lit 8, zPle_grown, zOle_grown, zMle_grown)] pCle_leafRead qCle_leafRead) 6).2 [] η3 x5 η4 → ((gC2 wl_le [(nat_lit 0, zPle_isSign, zOle_isSign, zMle_isSign), (nat_lit 1, zPle_wrong, zOle_wrong, zMle_wrong), (nat_lit 2, zPle_waitsFor0, zOle_waitsFor0, zMle_waitsFor0), (nat_lit 3, zPle_token, zOle_token, zMle_token), (nat_lit 4, zPle_isKey, zOle_isKey, zMle_isKey), (nat_lit 5, zPle_isCounted, zOle_isCounted, zMle_isCounted), (nat_lit 6, zPle_waitsFor2, zOle_waitsFor2, zMle_waitsFor2), (nat_lit 7, zPle_nameMet, zOle_nameMet, zMle_nameMet), (nat_lit 8, zPle_grown, zOle_grown, zMle_grown)] pCle_leafRead qCle_leafRead) 3).1 [] η4 := by
  intro x1 η1 h1 c1 x2 η2 h2 c2 x3 e3 r3 c3 x4 η3 h4 c4 x5 η4 h5
  have y1 : fQle_isSign [40] η x1 η1 := h1.2.2
  have k1 : sQ wl_le zTr zOle_isSign zMle_isSign [40] η x1 η1 ∧ oQle_isSign [40] η x1 η1 := ⟨h1.1, h1.2.1⟩
  have y2 : fQle_isKey [12] η1 x2 η2 := h2.2.2
  have k2 : sQ wl_le zTr zOle_isKey zMle_isKey [12] η1 x2 η2 ∧ oQle_isKey [12] η1 x2 η2 := ⟨h2.1, h2.2.1⟩
  have y4 : fQle_isCounted [] η2 x4 η3 := h4.2.2
  have k4 : sQ wl_le zTr zOle_isCounted zMle_isCounted [] η2 x4 η3 ∧ oQle_isCounted [] η2 x4 η3 := ⟨h4.1, h4.2.1⟩
  have y5 : fQle_waitsFor2 [] η3 x5 η4 := h5.2.2
  have k5 : sQ wl_le zTr zOle_waitsFor2 zMle_waitsFor2 [] η3 x5 η4 ∧ oQle_waitsFor2 [] η3 x5 η4 := ⟨h5.1, h5.2.1⟩
  exact k5.2
set_option maxHeartbeats 8000000 in
theorem zle_leafRead_o35 {ro : Nat → List Int32} (η : zE) (hp : sP wl_le zTr zPle_leafRead [] η) (hpp : pPle_leafRead [] η) : ∀ (x1 : Int) (η1 : zE), ((gC2 wl_le [(nat_lit 0, zPle_isSign, zOle_isSign, zMle_isSign), (nat_lit 1, zPle_wrong, zOle_wrong, zMle_wrong), (nat_lit 2, zPle_waitsFor0, zOle_waitsFor0, zMle_waitsFor0), (nat_lit 3, zPle_token, zOle_token, zMle_token), (nat_lit 4, zPle_isKey, zOle_isKey, zMle_isKey), (nat_lit 5, zPle_isCounted, zOle_isCounted, zMle_isCounted), (nat_lit 6, zPle_waitsFor2, zOle_waitsFor2, zMle_waitsFor2), (nat_lit 7, zPle_nameMet, zOle_nameMet, zMle_nameMet), (nat_lit 8, zPle_grown, zOle_grown, zMle_grown)] pCle_leafRead qCle_leafRead) 0).2 [40] η x1 η1 → (x1 = 0) → ∀ (x2 : Int) (η2 : zE), ((gC2 wl_le [(nat_lit 0, zPle_isSign, zOle_isSign, zMle_isSign), (nat_lit 1, zPle_wrong, zOle_wrong, zMle_wrong), (nat_lit 2, zPle_waitsFor0, zOle_waitsFor0, zMle_waitsFor0), (nat_lit 3, zPle_token, zOle_token, zMle_token), (nat_lit 4, zPle_isKey, zOle_isKey, zMle_isKey), (nat_lit 5, zPle_isCounted, zOle_isCounted, zMle_isCounted), (nat_lit 6, zPle_waitsFor2, zOle_waitsFor2, zMle_waitsFor2), (nat_lit 7, zPle_nameMet, zOle_nameMet, zMle_nameMet), (nat_lit 8, zPle_grown, zOle_grown, zMle_grown)] pCle_leafRead qCle_leafRead) 4).2 [12] η1 x2 η2 → (¬ x2 = 0) → ∀ x3 : Int, x3 = η2 0 (Int.toNat 46) → zok 1 x3 → (¬ x3 = 0) → ∀ (x4 : Int) (η3 : zE), ((gC2 wl_le [(nat_lit 0, zPle_isSign, zOle_isSign, zMle_isSign), (nat_lit 1, zPle_wrong, zOle_wrong, zMle_wrong), (nat_lit 2, zPle_waitsFor0, zOle_waitsFor0, zMle_waitsFor0), (nat_lit 3, zPle_token, zOle_token, zMle_token), (nat_lit 4, zPle_isKey, zOle_isKey, zMle_isKey), (nat_lit 5, zPle_isCounted, zOle_isCounted, zMle_isCounted), (nat_lit 6, zPle_waitsFor2, zOle_waitsFor2, zMle_waitsFor2), (nat_lit 7, zPle_nameMet, zOle_nameMet, zMle_nameMet), (nat_lit 8, zPle_grown, zOle_grown, zMle_grown)] pCle_leafRead qCle_leafRead) 5).2 [] η2 x4 η3 → (¬ x4 = 0) → ∀ (x5 : Int) (η4 : zE), ((gC2 wl_le [(nat_lit 0, zPle_isSign, zOle_isSign, zMle_isSign), (nat_lit 1, zPle_wrong, zOle_wrong, zMle_wrong), (nat_lit 2, zPle_waitsFor0, zOle_waitsFor0, zMle_waitsFor0), (nat_lit 3, zPle_token, zOle_token, zMle_token), (nat_lit 4, zPle_isKey, zOle_isKey, zMle_isKey), (nat_lit 5, zPle_isCounted, zOle_isCounted, zMle_isCounted), (nat_lit 6, zPle_waitsFor2, zOle_waitsFor2, zMle_waitsFor2), (nat_lit 7, zPle_nameMet, zOle_nameMet, zMle_nameMet), (nat_lit 8, zPle_grown, zOle_grown, zMle_grown)] pCle_leafRead qCle_leafRead) 6).2 [] η3 x5 η4 → ∀ (x6 : Int) (η5 : zE), ((gC2 wl_le [(nat_lit 0, zPle_isSign, zOle_isSign, zMle_isSign), (nat_lit 1, zPle_wrong, zOle_wrong, zMle_wrong), (nat_lit 2, zPle_waitsFor0, zOle_waitsFor0, zMle_waitsFor0), (nat_lit 3, zPle_token, zOle_token, zMle_token), (nat_lit 4, zPle_isKey, zOle_isKey, zMle_isKey), (nat_lit 5, zPle_isCounted, zOle_isCounted, zMle_isCounted), (nat_lit 6, zPle_waitsFor2, zOle_waitsFor2, zMle_waitsFor2), (nat_lit 7, zPle_nameMet, zOle_nameMet, zMle_nameMet), (nat_lit 8, zPle_grown, zOle_grown, zMle_grown)] pCle_leafRead qCle_leafRead) 3).2 [] η4 x6 η5 → (fun (_ : Nat) (y : Int) (η' : zE) => pQle_leafRead [] η y η') 0 1 η5 := by
  intro x1 η1 h1 c1 x2 η2 h2 c2 x3 e3 r3 c3 x4 η3 h4 c4 x5 η4 h5 x6 η5 h6
  have y1 : fQle_isSign [40] η x1 η1 := h1.2.2
  have k1 : sQ wl_le zTr zOle_isSign zMle_isSign [40] η x1 η1 ∧ oQle_isSign [40] η x1 η1 := ⟨h1.1, h1.2.1⟩
  have y2 : fQle_isKey [12] η1 x2 η2 := h2.2.2
  have k2 : sQ wl_le zTr zOle_isKey zMle_isKey [12] η1 x2 η2 ∧ oQle_isKey [12] η1 x2 η2 := ⟨h2.1, h2.2.1⟩
  have y4 : fQle_isCounted [] η2 x4 η3 := h4.2.2
  have k4 : sQ wl_le zTr zOle_isCounted zMle_isCounted [] η2 x4 η3 ∧ oQle_isCounted [] η2 x4 η3 := ⟨h4.1, h4.2.1⟩
  have y5 : fQle_waitsFor2 [] η3 x5 η4 := h5.2.2
  have k5 : sQ wl_le zTr zOle_waitsFor2 zMle_waitsFor2 [] η3 x5 η4 ∧ oQle_waitsFor2 [] η3 x5 η4 := ⟨h5.1, h5.2.1⟩
  have y6 : fQle_token [] η4 x6 η5 := h6.2.2
  have k6 : sQ wl_le zTr zOle_token zMle_token [] η4 x6 η5 ∧ oQle_token [] η4 x6 η5 := ⟨h6.1, h6.2.1⟩
  refine yj_a ?_ ?_
  · have hw : η 0 45 = 1 := hpp.2
    have hs : η 0 7 ≤ η 0 6 := hpp.1.1.1.1
    have bd43 : (0 : Int) ≤ η 0 43 ∧ η 0 43 ≤ 8 := wf_ok (a := 43) (b := 43) (z := (0, 8)) hp.1 (by decide +kernel) (Nat.le_refl _) (Nat.le_refl _)
    have bd44 : (0 : Int) ≤ η 0 44 ∧ η 0 44 ≤ 64 := wf_ok (a := 44) (b := 44) (z := (0, 64)) hp.1 (by decide +kernel) (Nat.le_refl _) (Nat.le_refl _)
    have bd19 : (0 : Int) ≤ η 0 19 ∧ η 0 19 ≤ 64 := wf_ok (a := 19) (b := 19) (z := (0, 64)) hp.1 (by decide +kernel) (Nat.le_refl _) (Nat.le_refl _)
    have y1 : fQle_isSign [40] η x1 η1 := h1.2.2
    have k1 : sQ wl_le zTr zOle_isSign zMle_isSign [40] η x1 η1 ∧ oQle_isSign [40] η x1 η1 := ⟨h1.1, h1.2.1⟩
    have y2 : fQle_isKey [12] η1 x2 η2 := h2.2.2
    have k2 : sQ wl_le zTr zOle_isKey zMle_isKey [12] η1 x2 η2 ∧ oQle_isKey [12] η1 x2 η2 := ⟨h2.1, h2.2.1⟩
    have y4 : fQle_isCounted [] η2 x4 η3 := h4.2.2
    have k4 : sQ wl_le zTr zOle_isCounted zMle_isCounted [] η2 x4 η3 ∧ oQle_isCounted [] η2 x4 η3 := ⟨h4.1, h4.2.1⟩
    have y5 : fQle_waitsFor2 [] η3 x5 η4 := h5.2.2
    have k5 : sQ wl_le zTr zOle_waitsFor2 zMle_waitsFor2 [] η3 x5 η4 ∧ oQle_waitsFor2 [] η3 x5 η4 := ⟨h5.1, h5.2.1⟩
    have y6 : fQle_token [] η4 x6 η5 := h6.2.2
    have k6 : sQ wl_le zTr zOle_token zMle_token [] η4 x6 η5 ∧ oQle_token [] η4 x6 η5 := ⟨h6.1, h6.2.1⟩
    have w0_0_8 : (0 : Int) ≤ η 0 8 ∧ η 0 8 ≤ 6 := wf_ok (a := 8) (b := 8) (z := (0, 6)) hp.1 (by decide +kernel) (Nat.le_refl _) (Nat.le_refl _)
    have c0_0_8 : η 0 8 = η 0 8 := rfl
    have wb1 : wB wl_le zTr η1 := k1.1.1
    have bx1 : (0 : Int) ≤ x1 ∧ x1 ≤ 1 := k1.1.2.1
    have v1 : zEq (η1 0 8) (η 0 8) := (k1.1.2.2.2.1 0 8 (by decide +kernel)).trans rfl
    have c1_0_8 : η1 0 8 = η 0 8 := v1
    have wb2 : wB wl_le zTr η2 := k2.1.1
    have bx2 : (0 : Int) ≤ x2 ∧ x2 ≤ 1 := k2.1.2.1
    have v3 : zEq (η1 0 46) (η 0 46) := (k1.1.2.2.2.1 0 46 (by decide +kernel)).trans rfl
    have v4 : zEq (η2 0 46) (η 0 46) := (k2.1.2.2.2.1 0 46 (by decide +kernel)).trans v3
    replace e3 : x3 = η 0 46 := e3.trans v4
    replace r3 : 0 ≤ x3 ∧ x3 ≤ 1 := r3
    have v5 : zEq (η2 0 8) (η 0 8) := (k2.1.2.2.2.1 0 8 (by decide +kernel)).trans v1
    have c2_0_8 : η2 0 8 = η 0 8 := v5
    have wb3 : wB wl_le zTr η3 := k4.1.1
    have bx4 : (0 : Int) ≤ x4 ∧ x4 ≤ 1 := k4.1.2.1
    have v6 : zEq (η3 0 8) (η 0 8) := (k4.1.2.2.2.1 0 8 (by decide +kernel)).trans v5
    have c3_0_8 : η3 0 8 = η 0 8 := v6
    have wb4 : wB wl_le zTr η4 := k5.1.1
    have bx5 : (0 : Int) ≤ x5 ∧ x5 ≤ 0 := k5.1.2.1
    have w0_0_7 : (0 : Int) ≤ η 0 7 ∧ η 0 7 ≤ 700 := wf_ok (a := 7) (b := 7) (z := (0, 700)) hp.1 (by decide +kernel) (Nat.le_refl _) (Nat.le_refl _)
    have v8 : zEq (η1 0 7) (η 0 7) := (k1.1.2.2.2.1 0 7 (by decide +kernel)).trans rfl
    have v9 : zEq (η2 0 7) (η 0 7) := (k2.1.2.2.2.1 0 7 (by decide +kernel)).trans v8
    have v10 : zEq (η3 0 7) (η 0 7) := (k4.1.2.2.2.1 0 7 (by decide +kernel)).trans v9
    have v11 : zEq (η4 0 7) (η 0 7) := (k5.1.2.2.2.1 0 7 (by decide +kernel)).trans v10
    have c4_0_7 : η4 0 7 = η 0 7 := v11
    have w0_0_6 : (0 : Int) ≤ η 0 6 ∧ η 0 6 ≤ 700 := wf_ok (a := 6) (b := 6) (z := (0, 700)) hp.1 (by decide +kernel) (Nat.le_refl _) (Nat.le_refl _)
    have v13 : zEq (η1 0 6) (η 0 6) := (k1.1.2.2.2.1 0 6 (by decide +kernel)).trans rfl
    have v14 : zEq (η2 0 6) (η 0 6) := (k2.1.2.2.2.1 0 6 (by decide +kernel)).trans v13
    have v15 : zEq (η3 0 6) (η 0 6) := (k4.1.2.2.2.1 0 6 (by decide +kernel)).trans v14
    have v16 : zEq (η4 0 6) (η 0 6) := (k5.1.2.2.2.1 0 6 (by decide +kernel)).trans v15
    have c4_0_6 : η4 0 6 = η 0 6 := v16
    have v17 : zEq (η4 0 8) (η 0 8) := (k5.1.2.2.2.1 0 8 (by decide +kernel)).trans v6
    have c4_0_8 : η4 0 8 = η 0 8 := v17
    have wb5 : wB wl_le zTr η5 := k6.1.1
    have bx6 : (0 : Int) ≤ x6 ∧ x6 ≤ 0 := k6.1.2.1
    have fm1 : zFm zMle_leafRead η η1 := zFm_tr2 zFm_rf k1.1.2.2.2.1 (by decide +kernel)
    have fm2 : zFm zMle_leafRead η η2 := zFm_tr2 fm1 k2.1.2.2.2.1 (by decide +kernel)
    have fm3 : zFm zMle_leafRead η η3 := zFm_tr2 fm2 k4.1.2.2.2.1 (by decide +kernel)
    have fm4 : zFm zMle_leafRead η η4 := zFm_tr2 fm3 k5.1.2.2.2.1 (by decide +kernel)
    have fm5 : zFm zMle_leafRead η η5 := zFm_tr2 fm4 k6.1.2.2.2.1 (by decide +kernel)
    have fmE : zFm zMle_leafRead η η5 := fm5
    have fr22_0 : ∀ j, η 22 j = η 22 j := fun _ => rfl
    have v18 : ∀ j, η1 22 j = η 22 j := fun j => k1.1.2.2.2.1 22 _ (zinr_not (by decide +kernel))
    have fr22_1 : ∀ j, η1 22 j = η 22 j := v18
    have v19 : ∀ j, η2 22 j = η 22 j := fun j => (k2.1.2.2.2.1 22 _ (zinr_not (by decide +kernel))).trans (v18 j)
    have fr22_2 : ∀ j, η2 22 j = η 22 j := v19
    have v20 : ∀ j, η3 22 j = η 22 j := fun j => (k4.1.2.2.2.1 22 _ (zinr_not (by decide +kernel))).trans (v19 j)
    have fr22_3 : ∀ j, η3 22 j = η 22 j := v20
    have fr22_4 : ∀ j, η4 22 j = η4 22 j := fun _ => rfl
    have v22 : ∀ j, η5 22 j = η4 22 j := fun j => k6.1.2.2.2.1 22 _ (zinr_not (by decide +kernel))
    have fr22_5 : ∀ j, η5 22 j = η4 22 j := v22
    have fr22 : ∀ j, η5 22 j = η4 22 j := v22
    have v24 : zEq (η5 0 41) (η4 0 41) := (k6.1.2.2.2.1 0 41 (by decide +kernel)).trans rfl
    have f0_41 : η5 0 41 = η4 0 41 := v24
    have w0_0_43 : (0 : Int) ≤ η 0 43 ∧ η 0 43 ≤ 8 := wf_ok (a := 43) (b := 43) (z := (0, 8)) hp.1 (by decide +kernel) (Nat.le_refl _) (Nat.le_refl _)
    have v26 : zEq (η1 0 43) (η 0 43) := (k1.1.2.2.2.1 0 43 (by decide +kernel)).trans rfl
    have v27 : zEq (η2 0 43) (η 0 43) := (k2.1.2.2.2.1 0 43 (by decide +kernel)).trans v26
    have v28 : zEq (η3 0 43) (η 0 43) := (k4.1.2.2.2.1 0 43 (by decide +kernel)).trans v27
    have v29 : zEq (η4 0 43) (η 0 43) := (k5.1.2.2.2.1 0 43 (by decide +kernel)).trans v28
    have v30 : zEq (η5 0 43) (η 0 43) := (k6.1.2.2.2.1 0 43 (by decide +kernel)).trans v29
    have f0_43 : η5 0 43 = η 0 43 := v30
    have v32 : zEq (η1 0 42) (η 0 42) := (k1.1.2.2.2.1 0 42 (by decide +kernel)).trans rfl
    have v33 : zEq (η2 0 42) (η 0 42) := (k2.1.2.2.2.1 0 42 (by decide +kernel)).trans v32
    have v34 : zEq (η3 0 42) (η 0 42) := (k4.1.2.2.2.1 0 42 (by decide +kernel)).trans v33
    have v35 : zEq (η4 0 42) (η 0 42) := (k5.1.2.2.2.1 0 42 (by decide +kernel)).trans v34
    have v36 : zEq (η5 0 42) (η 0 42) := (k6.1.2.2.2.1 0 42 (by decide +kernel)).trans v35
    have f0_42 : η5 0 42 = η 0 42 := v36
    have v38 : zEq (η1 0 45) (η 0 45) := (k1.1.2.2.2.1 0 45 (by decide +kernel)).trans rfl
    have v39 : zEq (η2 0 45) (η 0 45) := (k2.1.2.2.2.1 0 45 (by decide +kernel)).trans v38
    have v40 : zEq (η3 0 45) (η 0 45) := (k4.1.2.2.2.1 0 45 (by decide +kernel)).trans v39
    have v41 : zEq (η4 0 45) (η 0 45) := (k5.1.2.2.2.1 0 45 (by decide +kernel)).trans v40
    have v42 : zEq (η5 0 45) (η 0 45) := (k6.1.2.2.2.1 0 45 (by decide +kernel)).trans v41
    have f0_45 : η5 0 45 = η 0 45 := v42
    have w0_0_19 : (0 : Int) ≤ η 0 19 ∧ η 0 19 ≤ 64 := wf_ok (a := 19) (b := 19) (z := (0, 64)) hp.1 (by decide +kernel) (Nat.le_refl _) (Nat.le_refl _)
    have v44 : zEq (η1 0 19) (η 0 19) := (k1.1.2.2.2.1 0 19 (by decide +kernel)).trans rfl
    have v45 : zEq (η2 0 19) (η 0 19) := (k2.1.2.2.2.1 0 19 (by decide +kernel)).trans v44
    have v46 : zEq (η3 0 19) (η 0 19) := (k4.1.2.2.2.1 0 19 (by decide +kernel)).trans v45
    have v47 : zEq (η4 0 19) (η 0 19) := (k5.1.2.2.2.1 0 19 (by decide +kernel)).trans v46
    have v48 : zEq (η5 0 19) (η 0 19) := (k6.1.2.2.2.1 0 19 (by decide +kernel)).trans v47
    have f0_19 : η5 0 19 = η 0 19 := v48
    have w3_0_44 : (0 : Int) ≤ η3 0 44 ∧ η3 0 44 ≤ 64 := wf_ok (a := 44) (b := 44) (z := (0, 64)) k4.1.1 (by decide +kernel) (Nat.le_refl _) (Nat.le_refl _)
    have v50 : zEq (η4 0 44) (η3 0 44) := (k5.1.2.2.2.1 0 44 (by decide +kernel)).trans rfl
    have v51 : zEq (η5 0 44) (η3 0 44) := (k6.1.2.2.2.1 0 44 (by decide +kernel)).trans v50
    have f0_44 : η5 0 44 = η3 0 44 := v51
    have w5_0_7 : (0 : Int) ≤ η5 0 7 ∧ η5 0 7 ≤ 700 := wf_ok (a := 7) (b := 7) (z := (0, 700)) k6.1.1 (by decide +kernel) (Nat.le_refl _) (Nat.le_refl _)
    have f0_7 : η5 0 7 = η5 0 7 := rfl
    have v53 : zEq (η5 0 6) (η 0 6) := (k6.1.2.2.2.1 0 6 (by decide +kernel)).trans v16
    have f0_6 : η5 0 6 = η 0 6 := v53
    have w5_0_8 : (0 : Int) ≤ η5 0 8 ∧ η5 0 8 ≤ 6 := wf_ok (a := 8) (b := 8) (z := (0, 6)) k6.1.1 (by decide +kernel) (Nat.le_refl _) (Nat.le_refl _)
    have f0_8 : η5 0 8 = η5 0 8 := rfl
    have wbE : wB wl_le zTr η5 := wb5
    
    have I0 : H_l 0 0 0 η := hpp.1
    have I1 : H_l 0 0 0 η1 := k1.2.1
    have I2 : H_l 0 0 0 η2 := k2.2.1
    have qk2 : η1 0 8 = 1 := k2.2.2 c2
    have I3 : H_l 1 0 0 η3 := k4.2.1 c4
    have I4 : H_l 0 0 0 η4 := k5.2
    have I5 : H_l 0 0 0 η5 := k6.2.1
    have qt6 : ¬ η4 0 8 = 0 → 10 * (η5 0 6 - η5 0 7) + η5 0 8 < 10 * (η4 0 6 - η4 0 7) + η4 0 8 := k6.2.2
    refine ⟨I5.1, fun _ => ⟨I5, show 10 * (η5 0 6 - η5 0 7) + η5 0 8 < 10 * (η 0 6 - η 0 7) + η 0 8 by omega, fun w => ?_⟩⟩
    have w : η5 0 45 = 0 := w
    omega
  · obtain ⟨a1, b1⟩ : x1 = (yq_isS 40 η) ∧ η = η1 := ⟨y1.1, y1.2.symm⟩
    subst b1
    obtain ⟨a2, b2⟩ : x2 = (yq_isK 12 η) ∧ η = η2 := ⟨y2.1, y2.2.symm⟩
    subst b2
    have e3 : x3 = η 0 46 := e3
    obtain ⟨a4, b4⟩ : x4 = (yq_cny η) ∧ η3 = (yq_cns η) := y4
    have b5 : η4 = (yq_wai 2 η3) := y5
    have b6 : η5 = (yq_tok η4) := y6
    show 1 = (yq_lf η).1 ∧ η5 = (yq_lf η).2
    simp only [yq_lf, yq_ct, yq_no, yq_inc, ← a1, ← a2, ← e3, ← a4, ← b4, ← b5, ← b6]
    all_goals ((repeat' split) <;> first | (exfalso; omega) | exact ⟨rfl, rfl⟩ | rfl)
set_option maxHeartbeats 8000000 in
theorem zle_leafRead_o36 {ro : Nat → List Int32} (η : zE) (hp : sP wl_le zTr zPle_leafRead [] η) (hpp : pPle_leafRead [] η) : ∀ (x1 : Int) (η1 : zE), ((gC2 wl_le [(nat_lit 0, zPle_isSign, zOle_isSign, zMle_isSign), (nat_lit 1, zPle_wrong, zOle_wrong, zMle_wrong), (nat_lit 2, zPle_waitsFor0, zOle_waitsFor0, zMle_waitsFor0), (nat_lit 3, zPle_token, zOle_token, zMle_token), (nat_lit 4, zPle_isKey, zOle_isKey, zMle_isKey), (nat_lit 5, zPle_isCounted, zOle_isCounted, zMle_isCounted), (nat_lit 6, zPle_waitsFor2, zOle_waitsFor2, zMle_waitsFor2), (nat_lit 7, zPle_nameMet, zOle_nameMet, zMle_nameMet), (nat_lit 8, zPle_grown, zOle_grown, zMle_grown)] pCle_leafRead qCle_leafRead) 0).2 [40] η x1 η1 → (x1 = 0) → ∀ (x2 : Int) (η2 : zE), ((gC2 wl_le [(nat_lit 0, zPle_isSign, zOle_isSign, zMle_isSign), (nat_lit 1, zPle_wrong, zOle_wrong, zMle_wrong), (nat_lit 2, zPle_waitsFor0, zOle_waitsFor0, zMle_waitsFor0), (nat_lit 3, zPle_token, zOle_token, zMle_token), (nat_lit 4, zPle_isKey, zOle_isKey, zMle_isKey), (nat_lit 5, zPle_isCounted, zOle_isCounted, zMle_isCounted), (nat_lit 6, zPle_waitsFor2, zOle_waitsFor2, zMle_waitsFor2), (nat_lit 7, zPle_nameMet, zOle_nameMet, zMle_nameMet), (nat_lit 8, zPle_grown, zOle_grown, zMle_grown)] pCle_leafRead qCle_leafRead) 4).2 [12] η1 x2 η2 → (¬ x2 = 0) → ∀ x3 : Int, x3 = η2 0 (Int.toNat 46) → zok 1 x3 → (¬ x3 = 0) → ∀ (x4 : Int) (η3 : zE), ((gC2 wl_le [(nat_lit 0, zPle_isSign, zOle_isSign, zMle_isSign), (nat_lit 1, zPle_wrong, zOle_wrong, zMle_wrong), (nat_lit 2, zPle_waitsFor0, zOle_waitsFor0, zMle_waitsFor0), (nat_lit 3, zPle_token, zOle_token, zMle_token), (nat_lit 4, zPle_isKey, zOle_isKey, zMle_isKey), (nat_lit 5, zPle_isCounted, zOle_isCounted, zMle_isCounted), (nat_lit 6, zPle_waitsFor2, zOle_waitsFor2, zMle_waitsFor2), (nat_lit 7, zPle_nameMet, zOle_nameMet, zMle_nameMet), (nat_lit 8, zPle_grown, zOle_grown, zMle_grown)] pCle_leafRead qCle_leafRead) 5).2 [] η2 x4 η3 → (x4 = 0) → (fun (_ : Nat) (y : Int) (η' : zE) => pQle_leafRead [] η y η') 0 0 η3 := by
  intro x1 η1 h1 c1 x2 η2 h2 c2 x3 e3 r3 c3 x4 η3 h4 c4
  have y1 : fQle_isSign [40] η x1 η1 := h1.2.2
  have k1 : sQ wl_le zTr zOle_isSign zMle_isSign [40] η x1 η1 ∧ oQle_isSign [40] η x1 η1 := ⟨h1.1, h1.2.1⟩
  have y2 : fQle_isKey [12] η1 x2 η2 := h2.2.2
  have k2 : sQ wl_le zTr zOle_isKey zMle_isKey [12] η1 x2 η2 ∧ oQle_isKey [12] η1 x2 η2 := ⟨h2.1, h2.2.1⟩
  have y4 : fQle_isCounted [] η2 x4 η3 := h4.2.2
  have k4 : sQ wl_le zTr zOle_isCounted zMle_isCounted [] η2 x4 η3 ∧ oQle_isCounted [] η2 x4 η3 := ⟨h4.1, h4.2.1⟩
  refine yj_a ?_ ?_
  · have hw : η 0 45 = 1 := hpp.2
    have hs : η 0 7 ≤ η 0 6 := hpp.1.1.1.1
    have bd43 : (0 : Int) ≤ η 0 43 ∧ η 0 43 ≤ 8 := wf_ok (a := 43) (b := 43) (z := (0, 8)) hp.1 (by decide +kernel) (Nat.le_refl _) (Nat.le_refl _)
    have bd44 : (0 : Int) ≤ η 0 44 ∧ η 0 44 ≤ 64 := wf_ok (a := 44) (b := 44) (z := (0, 64)) hp.1 (by decide +kernel) (Nat.le_refl _) (Nat.le_refl _)
    have bd19 : (0 : Int) ≤ η 0 19 ∧ η 0 19 ≤ 64 := wf_ok (a := 19) (b := 19) (z := (0, 64)) hp.1 (by decide +kernel) (Nat.le_refl _) (Nat.le_refl _)
    have y1 : fQle_isSign [40] η x1 η1 := h1.2.2
    have k1 : sQ wl_le zTr zOle_isSign zMle_isSign [40] η x1 η1 ∧ oQle_isSign [40] η x1 η1 := ⟨h1.1, h1.2.1⟩
    have y2 : fQle_isKey [12] η1 x2 η2 := h2.2.2
    have k2 : sQ wl_le zTr zOle_isKey zMle_isKey [12] η1 x2 η2 ∧ oQle_isKey [12] η1 x2 η2 := ⟨h2.1, h2.2.1⟩
    have y4 : fQle_isCounted [] η2 x4 η3 := h4.2.2
    have k4 : sQ wl_le zTr zOle_isCounted zMle_isCounted [] η2 x4 η3 ∧ oQle_isCounted [] η2 x4 η3 := ⟨h4.1, h4.2.1⟩
    have w0_0_8 : (0 : Int) ≤ η 0 8 ∧ η 0 8 ≤ 6 := wf_ok (a := 8) (b := 8) (z := (0, 6)) hp.1 (by decide +kernel) (Nat.le_refl _) (Nat.le_refl _)
    have c0_0_8 : η 0 8 = η 0 8 := rfl
    have wb1 : wB wl_le zTr η1 := k1.1.1
    have bx1 : (0 : Int) ≤ x1 ∧ x1 ≤ 1 := k1.1.2.1
    have v1 : zEq (η1 0 8) (η 0 8) := (k1.1.2.2.2.1 0 8 (by decide +kernel)).trans rfl
    have c1_0_8 : η1 0 8 = η 0 8 := v1
    have wb2 : wB wl_le zTr η2 := k2.1.1
    have bx2 : (0 : Int) ≤ x2 ∧ x2 ≤ 1 := k2.1.2.1
    have v3 : zEq (η1 0 46) (η 0 46) := (k1.1.2.2.2.1 0 46 (by decide +kernel)).trans rfl
    have v4 : zEq (η2 0 46) (η 0 46) := (k2.1.2.2.2.1 0 46 (by decide +kernel)).trans v3
    replace e3 : x3 = η 0 46 := e3.trans v4
    replace r3 : 0 ≤ x3 ∧ x3 ≤ 1 := r3
    have v5 : zEq (η2 0 8) (η 0 8) := (k2.1.2.2.2.1 0 8 (by decide +kernel)).trans v1
    have c2_0_8 : η2 0 8 = η 0 8 := v5
    have wb3 : wB wl_le zTr η3 := k4.1.1
    have bx4 : (0 : Int) ≤ x4 ∧ x4 ≤ 1 := k4.1.2.1
    have fm1 : zFm zMle_leafRead η η1 := zFm_tr2 zFm_rf k1.1.2.2.2.1 (by decide +kernel)
    have fm2 : zFm zMle_leafRead η η2 := zFm_tr2 fm1 k2.1.2.2.2.1 (by decide +kernel)
    have fm3 : zFm zMle_leafRead η η3 := zFm_tr2 fm2 k4.1.2.2.2.1 (by decide +kernel)
    have fmE : zFm zMle_leafRead η η3 := fm3
    have fr22_0 : ∀ j, η 22 j = η 22 j := fun _ => rfl
    have v6 : ∀ j, η1 22 j = η 22 j := fun j => k1.1.2.2.2.1 22 _ (zinr_not (by decide +kernel))
    have fr22_1 : ∀ j, η1 22 j = η 22 j := v6
    have v7 : ∀ j, η2 22 j = η 22 j := fun j => (k2.1.2.2.2.1 22 _ (zinr_not (by decide +kernel))).trans (v6 j)
    have fr22_2 : ∀ j, η2 22 j = η 22 j := v7
    have v8 : ∀ j, η3 22 j = η 22 j := fun j => (k4.1.2.2.2.1 22 _ (zinr_not (by decide +kernel))).trans (v7 j)
    have fr22_3 : ∀ j, η3 22 j = η 22 j := v8
    have fr22 : ∀ j, η3 22 j = η 22 j := v8
    have v10 : zEq (η1 0 41) (η 0 41) := (k1.1.2.2.2.1 0 41 (by decide +kernel)).trans rfl
    have v11 : zEq (η2 0 41) (η 0 41) := (k2.1.2.2.2.1 0 41 (by decide +kernel)).trans v10
    have v12 : zEq (η3 0 41) (η 0 41) := (k4.1.2.2.2.1 0 41 (by decide +kernel)).trans v11
    have f0_41 : η3 0 41 = η 0 41 := v12
    have w0_0_43 : (0 : Int) ≤ η 0 43 ∧ η 0 43 ≤ 8 := wf_ok (a := 43) (b := 43) (z := (0, 8)) hp.1 (by decide +kernel) (Nat.le_refl _) (Nat.le_refl _)
    have v14 : zEq (η1 0 43) (η 0 43) := (k1.1.2.2.2.1 0 43 (by decide +kernel)).trans rfl
    have v15 : zEq (η2 0 43) (η 0 43) := (k2.1.2.2.2.1 0 43 (by decide +kernel)).trans v14
    have v16 : zEq (η3 0 43) (η 0 43) := (k4.1.2.2.2.1 0 43 (by decide +kernel)).trans v15
    have f0_43 : η3 0 43 = η 0 43 := v16
    have v18 : zEq (η1 0 42) (η 0 42) := (k1.1.2.2.2.1 0 42 (by decide +kernel)).trans rfl
    have v19 : zEq (η2 0 42) (η 0 42) := (k2.1.2.2.2.1 0 42 (by decide +kernel)).trans v18
    have v20 : zEq (η3 0 42) (η 0 42) := (k4.1.2.2.2.1 0 42 (by decide +kernel)).trans v19
    have f0_42 : η3 0 42 = η 0 42 := v20
    have v22 : zEq (η1 0 45) (η 0 45) := (k1.1.2.2.2.1 0 45 (by decide +kernel)).trans rfl
    have v23 : zEq (η2 0 45) (η 0 45) := (k2.1.2.2.2.1 0 45 (by decide +kernel)).trans v22
    have v24 : zEq (η3 0 45) (η 0 45) := (k4.1.2.2.2.1 0 45 (by decide +kernel)).trans v23
    have f0_45 : η3 0 45 = η 0 45 := v24
    have w0_0_19 : (0 : Int) ≤ η 0 19 ∧ η 0 19 ≤ 64 := wf_ok (a := 19) (b := 19) (z := (0, 64)) hp.1 (by decide +kernel) (Nat.le_refl _) (Nat.le_refl _)
    have v26 : zEq (η1 0 19) (η 0 19) := (k1.1.2.2.2.1 0 19 (by decide +kernel)).trans rfl
    have v27 : zEq (η2 0 19) (η 0 19) := (k2.1.2.2.2.1 0 19 (by decide +kernel)).trans v26
    have v28 : zEq (η3 0 19) (η 0 19) := (k4.1.2.2.2.1 0 19 (by decide +kernel)).trans v27
    have f0_19 : η3 0 19 = η 0 19 := v28
    have w3_0_44 : (0 : Int) ≤ η3 0 44 ∧ η3 0 44 ≤ 64 := wf_ok (a := 44) (b := 44) (z := (0, 64)) k4.1.1 (by decide +kernel) (Nat.le_refl _) (Nat.le_refl _)
    have f0_44 : η3 0 44 = η3 0 44 := rfl
    have w0_0_7 : (0 : Int) ≤ η 0 7 ∧ η 0 7 ≤ 700 := wf_ok (a := 7) (b := 7) (z := (0, 700)) hp.1 (by decide +kernel) (Nat.le_refl _) (Nat.le_refl _)
    have v31 : zEq (η1 0 7) (η 0 7) := (k1.1.2.2.2.1 0 7 (by decide +kernel)).trans rfl
    have v32 : zEq (η2 0 7) (η 0 7) := (k2.1.2.2.2.1 0 7 (by decide +kernel)).trans v31
    have v33 : zEq (η3 0 7) (η 0 7) := (k4.1.2.2.2.1 0 7 (by decide +kernel)).trans v32
    have f0_7 : η3 0 7 = η 0 7 := v33
    have w0_0_6 : (0 : Int) ≤ η 0 6 ∧ η 0 6 ≤ 700 := wf_ok (a := 6) (b := 6) (z := (0, 700)) hp.1 (by decide +kernel) (Nat.le_refl _) (Nat.le_refl _)
    have v35 : zEq (η1 0 6) (η 0 6) := (k1.1.2.2.2.1 0 6 (by decide +kernel)).trans rfl
    have v36 : zEq (η2 0 6) (η 0 6) := (k2.1.2.2.2.1 0 6 (by decide +kernel)).trans v35
    have v37 : zEq (η3 0 6) (η 0 6) := (k4.1.2.2.2.1 0 6 (by decide +kernel)).trans v36
    have f0_6 : η3 0 6 = η 0 6 := v37
    have v38 : zEq (η3 0 8) (η 0 8) := (k4.1.2.2.2.1 0 8 (by decide +kernel)).trans v5
    have f0_8 : η3 0 8 = η 0 8 := v38
    have wbE : wB wl_le zTr η3 := wb3
    
    have I0 : H_l 0 0 0 η := hpp.1
    have I1 : H_l 0 0 0 η1 := k1.2.1
    have I2 : H_l 0 0 0 η2 := k2.2.1
    have qk2 : η1 0 8 = 1 := k2.2.2 c2
    have I3 : H_l 0 0 0 η3 := k4.2.2 c4
    exact ⟨I3.1, fun w => absurd (show (0 : Int) = 0 by apply Int.le_antisymm <;> omega) w⟩
  · obtain ⟨a1, b1⟩ : x1 = (yq_isS 40 η) ∧ η = η1 := ⟨y1.1, y1.2.symm⟩
    subst b1
    obtain ⟨a2, b2⟩ : x2 = (yq_isK 12 η) ∧ η = η2 := ⟨y2.1, y2.2.symm⟩
    subst b2
    have e3 : x3 = η 0 46 := e3
    obtain ⟨a4, b4⟩ : x4 = (yq_cny η) ∧ η3 = (yq_cns η) := y4
    show 0 = (yq_lf η).1 ∧ η3 = (yq_lf η).2
    simp only [yq_lf, yq_ct, yq_no, yq_inc, ← a1, ← a2, ← e3, ← a4, ← b4]
    all_goals ((repeat' split) <;> first | (exfalso; omega) | exact ⟨rfl, rfl⟩ | rfl)
set_option maxHeartbeats 8000000 in
theorem zle_leafRead_o37 {ro : Nat → List Int32} (η : zE) (hp : sP wl_le zTr zPle_leafRead [] η) (hpp : pPle_leafRead [] η) : ∀ (x1 : Int) (η1 : zE), ((gC2 wl_le [(nat_lit 0, zPle_isSign, zOle_isSign, zMle_isSign), (nat_lit 1, zPle_wrong, zOle_wrong, zMle_wrong), (nat_lit 2, zPle_waitsFor0, zOle_waitsFor0, zMle_waitsFor0), (nat_lit 3, zPle_token, zOle_token, zMle_token), (nat_lit 4, zPle_isKey, zOle_isKey, zMle_isKey), (nat_lit 5, zPle_isCounted, zOle_isCounted, zMle_isCounted), (nat_lit 6, zPle_waitsFor2, zOle_waitsFor2, zMle_waitsFor2), (nat_lit 7, zPle_nameMet, zOle_nameMet, zMle_nameMet), (nat_lit 8, zPle_grown, zOle_grown, zMle_grown)] pCle_leafRead qCle_leafRead) 0).2 [40] η x1 η1 → (¬ x1 = 0) → ∀ x2 : Int, x2 = η1 0 (Int.toNat 43) → zok 0 x2 → (¬ x2 = 8) → ∀ x3 : Int, x3 = η1 0 (Int.toNat 43) → zok 0 x3 → ∀ x4 : Int, x4 = zd 0 1 x3 1 → ∀ η2 : zE, η2 = zup η1 0 (Int.toNat 43) x4 → ((gC2 wl_le [(nat_lit 0, zPle_isSign, zOle_isSign, zMle_isSign), (nat_lit 1, zPle_wrong, zOle_wrong, zMle_wrong), (nat_lit 2, zPle_waitsFor0, zOle_waitsFor0, zMle_waitsFor0), (nat_lit 3, zPle_token, zOle_token, zMle_token), (nat_lit 4, zPle_isKey, zOle_isKey, zMle_isKey), (nat_lit 5, zPle_isCounted, zOle_isCounted, zMle_isCounted), (nat_lit 6, zPle_waitsFor2, zOle_waitsFor2, zMle_waitsFor2), (nat_lit 7, zPle_nameMet, zOle_nameMet, zMle_nameMet), (nat_lit 8, zPle_grown, zOle_grown, zMle_grown)] pCle_leafRead qCle_leafRead) 2).1 [] η2 := by
  have hw : η 0 45 = 1 := hpp.2
  have hs : η 0 7 ≤ η 0 6 := hpp.1.1.1.1
  have bd43 : (0 : Int) ≤ η 0 43 ∧ η 0 43 ≤ 8 := wf_ok (a := 43) (b := 43) (z := (0, 8)) hp.1 (by decide +kernel) (Nat.le_refl _) (Nat.le_refl _)
  have bd44 : (0 : Int) ≤ η 0 44 ∧ η 0 44 ≤ 64 := wf_ok (a := 44) (b := 44) (z := (0, 64)) hp.1 (by decide +kernel) (Nat.le_refl _) (Nat.le_refl _)
  have bd19 : (0 : Int) ≤ η 0 19 ∧ η 0 19 ≤ 64 := wf_ok (a := 19) (b := 19) (z := (0, 64)) hp.1 (by decide +kernel) (Nat.le_refl _) (Nat.le_refl _)
  intro x1 η1 h1 c1 x2 e2 r2 c2 x3 e3 r3 x4 e4 η2 eη2
  replace e4 := zEq_i e4
  have y1 : fQle_isSign [40] η x1 η1 := h1.2.2
  have k1 : sQ wl_le zTr zOle_isSign zMle_isSign [40] η x1 η1 ∧ oQle_isSign [40] η x1 η1 := ⟨h1.1, h1.2.1⟩
  have w0_0_8 : (0 : Int) ≤ η 0 8 ∧ η 0 8 ≤ 6 := wf_ok (a := 8) (b := 8) (z := (0, 6)) hp.1 (by decide +kernel) (Nat.le_refl _) (Nat.le_refl _)
  have c0_0_8 : η 0 8 = η 0 8 := rfl
  have wb1 : wB wl_le zTr η1 := k1.1.1
  have bx1 : (0 : Int) ≤ x1 ∧ x1 ≤ 1 := k1.1.2.1
  have w0_0_43 : (0 : Int) ≤ η 0 43 ∧ η 0 43 ≤ 8 := wf_ok (a := 43) (b := 43) (z := (0, 8)) hp.1 (by decide +kernel) (Nat.le_refl _) (Nat.le_refl _)
  have v2 : zEq (η1 0 43) (η 0 43) := (k1.1.2.2.2.1 0 43 (by decide +kernel)).trans rfl
  replace e2 : x2 = η 0 43 := e2.trans v2
  replace e3 : x3 = η 0 43 := e3.trans v2
  first
  | replace e4 : x4 = x3 + 1 := zd_a2 (zEq_o e4) (by clear e4; exact ⟨by omega, by omega⟩)
  | clear e4
  have c1_0_43 : η1 0 43 = η 0 43 := v2
  have wb2 : wB wl_le zTr η2 := by rw [eη2]; exact wk_ok (a := 43) (b := 43) (z := (0, 8)) zTr_k (GR := []) wb1 (by decide +kernel) (by decide) (by decide) (show (0 : Int) ≤ x4 by omega) (show x4 ≤ (8 : Int) by omega)
  have fm1 : zFm zMle_leafRead η η1 := zFm_tr2 zFm_rf k1.1.2.2.2.1 (by decide +kernel)
  have fm2 : zFm zMle_leafRead η η2 := by rw [eη2]; exact zFm_up fm1 rfl
  have fmE : zFm zMle_leafRead η η2 := fm2
  have fr22_0 : ∀ j, η 22 j = η 22 j := fun _ => rfl
  have v3 : ∀ j, η1 22 j = η 22 j := fun j => k1.1.2.2.2.1 22 _ (zinr_not (by decide +kernel))
  have fr22_1 : ∀ j, η1 22 j = η 22 j := v3
  have v4 : ∀ j, η2 22 j = η 22 j := fun j => by rw [eη2]; exact (zup_ne (fun e _ => absurd e (by decide))).trans (v3 j)
  have fr22_2 : ∀ j, η2 22 j = η 22 j := v4
  have fr22 : ∀ j, η2 22 j = η 22 j := v4
  have v6 : zEq (η1 0 41) (η 0 41) := (k1.1.2.2.2.1 0 41 (by decide +kernel)).trans rfl
  have v7 : zEq (η2 0 41) (η 0 41) := by rw [eη2]; exact (zup_ne (fun _ e => absurd e (by decide))).trans v6
  have f0_41 : η2 0 41 = η 0 41 := v7
  have v8 : zEq (η2 0 43) (x4) := by rw [eη2]; exact zup_eq
  have f0_43 : η2 0 43 = x4 := v8
  have v10 : zEq (η1 0 42) (η 0 42) := (k1.1.2.2.2.1 0 42 (by decide +kernel)).trans rfl
  have v11 : zEq (η2 0 42) (η 0 42) := by rw [eη2]; exact (zup_ne (fun _ e => absurd e (by decide))).trans v10
  have f0_42 : η2 0 42 = η 0 42 := v11
  have v13 : zEq (η1 0 45) (η 0 45) := (k1.1.2.2.2.1 0 45 (by decide +kernel)).trans rfl
  have v14 : zEq (η2 0 45) (η 0 45) := by rw [eη2]; exact (zup_ne (fun _ e => absurd e (by decide))).trans v13
  have f0_45 : η2 0 45 = η 0 45 := v14
  have w0_0_19 : (0 : Int) ≤ η 0 19 ∧ η 0 19 ≤ 64 := wf_ok (a := 19) (b := 19) (z := (0, 64)) hp.1 (by decide +kernel) (Nat.le_refl _) (Nat.le_refl _)
  have v16 : zEq (η1 0 19) (η 0 19) := (k1.1.2.2.2.1 0 19 (by decide +kernel)).trans rfl
  have v17 : zEq (η2 0 19) (η 0 19) := by rw [eη2]; exact (zup_ne (fun _ e => absurd e (by decide))).trans v16
  have f0_19 : η2 0 19 = η 0 19 := v17
  have w0_0_44 : (0 : Int) ≤ η 0 44 ∧ η 0 44 ≤ 64 := wf_ok (a := 44) (b := 44) (z := (0, 64)) hp.1 (by decide +kernel) (Nat.le_refl _) (Nat.le_refl _)
  have v19 : zEq (η1 0 44) (η 0 44) := (k1.1.2.2.2.1 0 44 (by decide +kernel)).trans rfl
  have v20 : zEq (η2 0 44) (η 0 44) := by rw [eη2]; exact (zup_ne (fun _ e => absurd e (by decide))).trans v19
  have f0_44 : η2 0 44 = η 0 44 := v20
  have w0_0_7 : (0 : Int) ≤ η 0 7 ∧ η 0 7 ≤ 700 := wf_ok (a := 7) (b := 7) (z := (0, 700)) hp.1 (by decide +kernel) (Nat.le_refl _) (Nat.le_refl _)
  have v22 : zEq (η1 0 7) (η 0 7) := (k1.1.2.2.2.1 0 7 (by decide +kernel)).trans rfl
  have v23 : zEq (η2 0 7) (η 0 7) := by rw [eη2]; exact (zup_ne (fun _ e => absurd e (by decide))).trans v22
  have f0_7 : η2 0 7 = η 0 7 := v23
  have w0_0_6 : (0 : Int) ≤ η 0 6 ∧ η 0 6 ≤ 700 := wf_ok (a := 6) (b := 6) (z := (0, 700)) hp.1 (by decide +kernel) (Nat.le_refl _) (Nat.le_refl _)
  have v25 : zEq (η1 0 6) (η 0 6) := (k1.1.2.2.2.1 0 6 (by decide +kernel)).trans rfl
  have v26 : zEq (η2 0 6) (η 0 6) := by rw [eη2]; exact (zup_ne (fun _ e => absurd e (by decide))).trans v25
  have f0_6 : η2 0 6 = η 0 6 := v26
  have v27 : zEq (η1 0 8) (η 0 8) := (k1.1.2.2.2.1 0 8 (by decide +kernel)).trans rfl
  have v28 : zEq (η2 0 8) (η 0 8) := by rw [eη2]; exact (zup_ne (fun _ e => absurd e (by decide))).trans v27
  have f0_8 : η2 0 8 = η 0 8 := v28
  have wbE : wB wl_le zTr η2 := wb2
  
  have I0 : H_l 0 0 0 η := hpp.1
  have I1 : H_l 0 0 0 η1 := k1.2.1
  have qk1 : η 0 8 = 4 := k1.2.2 c1
  have I2 : H_l 0 1 0 η2 := by rw [eη2]; exact h_eq (br_up I1 (by apply Int.le_antisymm <;> omega)) rfl (by apply Int.le_antisymm <;> omega) rfl
  exact I2
set_option maxHeartbeats 8000000 in
theorem zle_leafRead_o38 {ro : Nat → List Int32} (η : zE) (hp : sP wl_le zTr zPle_leafRead [] η) (hpp : pPle_leafRead [] η) : ∀ (x1 : Int) (η1 : zE), ((gC2 wl_le [(nat_lit 0, zPle_isSign, zOle_isSign, zMle_isSign), (nat_lit 1, zPle_wrong, zOle_wrong, zMle_wrong), (nat_lit 2, zPle_waitsFor0, zOle_waitsFor0, zMle_waitsFor0), (nat_lit 3, zPle_token, zOle_token, zMle_token), (nat_lit 4, zPle_isKey, zOle_isKey, zMle_isKey), (nat_lit 5, zPle_isCounted, zOle_isCounted, zMle_isCounted), (nat_lit 6, zPle_waitsFor2, zOle_waitsFor2, zMle_waitsFor2), (nat_lit 7, zPle_nameMet, zOle_nameMet, zMle_nameMet), (nat_lit 8, zPle_grown, zOle_grown, zMle_grown)] pCle_leafRead qCle_leafRead) 0).2 [40] η x1 η1 → (¬ x1 = 0) → ∀ x2 : Int, x2 = η1 0 (Int.toNat 43) → zok 0 x2 → (¬ x2 = 8) → ∀ x3 : Int, x3 = η1 0 (Int.toNat 43) → zok 0 x3 → ∀ x4 : Int, x4 = zd 0 1 x3 1 → ∀ η2 : zE, η2 = zup η1 0 (Int.toNat 43) x4 → ∀ (x5 : Int) (η3 : zE), ((gC2 wl_le [(nat_lit 0, zPle_isSign, zOle_isSign, zMle_isSign), (nat_lit 1, zPle_wrong, zOle_wrong, zMle_wrong), (nat_lit 2, zPle_waitsFor0, zOle_waitsFor0, zMle_waitsFor0), (nat_lit 3, zPle_token, zOle_token, zMle_token), (nat_lit 4, zPle_isKey, zOle_isKey, zMle_isKey), (nat_lit 5, zPle_isCounted, zOle_isCounted, zMle_isCounted), (nat_lit 6, zPle_waitsFor2, zOle_waitsFor2, zMle_waitsFor2), (nat_lit 7, zPle_nameMet, zOle_nameMet, zMle_nameMet), (nat_lit 8, zPle_grown, zOle_grown, zMle_grown)] pCle_leafRead qCle_leafRead) 2).2 [] η2 x5 η3 → ∀ η4 : zE, η4 = zup η3 0 (Int.toNat 46) 1 → ((gC2 wl_le [(nat_lit 0, zPle_isSign, zOle_isSign, zMle_isSign), (nat_lit 1, zPle_wrong, zOle_wrong, zMle_wrong), (nat_lit 2, zPle_waitsFor0, zOle_waitsFor0, zMle_waitsFor0), (nat_lit 3, zPle_token, zOle_token, zMle_token), (nat_lit 4, zPle_isKey, zOle_isKey, zMle_isKey), (nat_lit 5, zPle_isCounted, zOle_isCounted, zMle_isCounted), (nat_lit 6, zPle_waitsFor2, zOle_waitsFor2, zMle_waitsFor2), (nat_lit 7, zPle_nameMet, zOle_nameMet, zMle_nameMet), (nat_lit 8, zPle_grown, zOle_grown, zMle_grown)] pCle_leafRead qCle_leafRead) 3).1 [] η4 := by
  intro x1 η1 h1 c1 x2 e2 r2 c2 x3 e3 r3 x4 e4 η2 eη2 x5 η3 h5 η4 eη4
  have y1 : fQle_isSign [40] η x1 η1 := h1.2.2
  have k1 : sQ wl_le zTr zOle_isSign zMle_isSign [40] η x1 η1 ∧ oQle_isSign [40] η x1 η1 := ⟨h1.1, h1.2.1⟩
  have y5 : fQle_waitsFor0 [] η2 x5 η3 := h5.2.2
  have k5 : sQ wl_le zTr zOle_waitsFor0 zMle_waitsFor0 [] η2 x5 η3 ∧ oQle_waitsFor0 [] η2 x5 η3 := ⟨h5.1, h5.2.1⟩
  have g1 : G_le η4 := by rw [eη4]; exact zGk_upc gk_le k5.2 (by decide +kernel)
  exact g1
set_option maxHeartbeats 8000000 in
theorem zle_leafRead_o39 {ro : Nat → List Int32} (η : zE) (hp : sP wl_le zTr zPle_leafRead [] η) (hpp : pPle_leafRead [] η) : ∀ (x1 : Int) (η1 : zE), ((gC2 wl_le [(nat_lit 0, zPle_isSign, zOle_isSign, zMle_isSign), (nat_lit 1, zPle_wrong, zOle_wrong, zMle_wrong), (nat_lit 2, zPle_waitsFor0, zOle_waitsFor0, zMle_waitsFor0), (nat_lit 3, zPle_token, zOle_token, zMle_token), (nat_lit 4, zPle_isKey, zOle_isKey, zMle_isKey), (nat_lit 5, zPle_isCounted, zOle_isCounted, zMle_isCounted), (nat_lit 6, zPle_waitsFor2, zOle_waitsFor2, zMle_waitsFor2), (nat_lit 7, zPle_nameMet, zOle_nameMet, zMle_nameMet), (nat_lit 8, zPle_grown, zOle_grown, zMle_grown)] pCle_leafRead qCle_leafRead) 0).2 [40] η x1 η1 → (¬ x1 = 0) → ∀ x2 : Int, x2 = η1 0 (Int.toNat 43) → zok 0 x2 → (¬ x2 = 8) → ∀ x3 : Int, x3 = η1 0 (Int.toNat 43) → zok 0 x3 → ∀ x4 : Int, x4 = zd 0 1 x3 1 → ∀ η2 : zE, η2 = zup η1 0 (Int.toNat 43) x4 → ∀ (x5 : Int) (η3 : zE), ((gC2 wl_le [(nat_lit 0, zPle_isSign, zOle_isSign, zMle_isSign), (nat_lit 1, zPle_wrong, zOle_wrong, zMle_wrong), (nat_lit 2, zPle_waitsFor0, zOle_waitsFor0, zMle_waitsFor0), (nat_lit 3, zPle_token, zOle_token, zMle_token), (nat_lit 4, zPle_isKey, zOle_isKey, zMle_isKey), (nat_lit 5, zPle_isCounted, zOle_isCounted, zMle_isCounted), (nat_lit 6, zPle_waitsFor2, zOle_waitsFor2, zMle_waitsFor2), (nat_lit 7, zPle_nameMet, zOle_nameMet, zMle_nameMet), (nat_lit 8, zPle_grown, zOle_grown, zMle_grown)] pCle_leafRead qCle_leafRead) 2).2 [] η2 x5 η3 → ∀ η4 : zE, η4 = zup η3 0 (Int.toNat 46) 1 → ∀ (x6 : Int) (η5 : zE), ((gC2 wl_le [(nat_lit 0, zPle_isSign, zOle_isSign, zMle_isSign), (nat_lit 1, zPle_wrong, zOle_wrong, zMle_wrong), (nat_lit 2, zPle_waitsFor0, zOle_waitsFor0, zMle_waitsFor0), (nat_lit 3, zPle_token, zOle_token, zMle_token), (nat_lit 4, zPle_isKey, zOle_isKey, zMle_isKey), (nat_lit 5, zPle_isCounted, zOle_isCounted, zMle_isCounted), (nat_lit 6, zPle_waitsFor2, zOle_waitsFor2, zMle_waitsFor2), (nat_lit 7, zPle_nameMet, zOle_nameMet, zMle_nameMet), (nat_lit 8, zPle_grown, zOle_grown, zMle_grown)] pCle_leafRead qCle_leafRead) 3).2 [] η4 x6 η5 → (fun (_ : Nat) (y : Int) (η' : zE) => pQle_leafRead [] η y η') 0 1 η5 := by
  intro x1 η1 h1 c1 x2 e2 r2 c2 x3 e3 r3 x4 e4 η2 eη2 x5 η3 h5 η4 eη4 x6 η5 h6
  have y1 : fQle_isSign [40] η x1 η1 := h1.2.2
  have k1 : sQ wl_le zTr zOle_isSign zMle_isSign [40] η x1 η1 ∧ oQle_isSign [40] η x1 η1 := ⟨h1.1, h1.2.1⟩
  have y5 : fQle_waitsFor0 [] η2 x5 η3 := h5.2.2
  have k5 : sQ wl_le zTr zOle_waitsFor0 zMle_waitsFor0 [] η2 x5 η3 ∧ oQle_waitsFor0 [] η2 x5 η3 := ⟨h5.1, h5.2.1⟩
  have y6 : fQle_token [] η4 x6 η5 := h6.2.2
  have k6 : sQ wl_le zTr zOle_token zMle_token [] η4 x6 η5 ∧ oQle_token [] η4 x6 η5 := ⟨h6.1, h6.2.1⟩
  refine yj_a ?_ ?_
  · have hw : η 0 45 = 1 := hpp.2
    have hs : η 0 7 ≤ η 0 6 := hpp.1.1.1.1
    have bd43 : (0 : Int) ≤ η 0 43 ∧ η 0 43 ≤ 8 := wf_ok (a := 43) (b := 43) (z := (0, 8)) hp.1 (by decide +kernel) (Nat.le_refl _) (Nat.le_refl _)
    have bd44 : (0 : Int) ≤ η 0 44 ∧ η 0 44 ≤ 64 := wf_ok (a := 44) (b := 44) (z := (0, 64)) hp.1 (by decide +kernel) (Nat.le_refl _) (Nat.le_refl _)
    have bd19 : (0 : Int) ≤ η 0 19 ∧ η 0 19 ≤ 64 := wf_ok (a := 19) (b := 19) (z := (0, 64)) hp.1 (by decide +kernel) (Nat.le_refl _) (Nat.le_refl _)
    replace e4 := zEq_i e4
    have y1 : fQle_isSign [40] η x1 η1 := h1.2.2
    have k1 : sQ wl_le zTr zOle_isSign zMle_isSign [40] η x1 η1 ∧ oQle_isSign [40] η x1 η1 := ⟨h1.1, h1.2.1⟩
    have y5 : fQle_waitsFor0 [] η2 x5 η3 := h5.2.2
    have k5 : sQ wl_le zTr zOle_waitsFor0 zMle_waitsFor0 [] η2 x5 η3 ∧ oQle_waitsFor0 [] η2 x5 η3 := ⟨h5.1, h5.2.1⟩
    have y6 : fQle_token [] η4 x6 η5 := h6.2.2
    have k6 : sQ wl_le zTr zOle_token zMle_token [] η4 x6 η5 ∧ oQle_token [] η4 x6 η5 := ⟨h6.1, h6.2.1⟩
    have w0_0_8 : (0 : Int) ≤ η 0 8 ∧ η 0 8 ≤ 6 := wf_ok (a := 8) (b := 8) (z := (0, 6)) hp.1 (by decide +kernel) (Nat.le_refl _) (Nat.le_refl _)
    have c0_0_8 : η 0 8 = η 0 8 := rfl
    have wb1 : wB wl_le zTr η1 := k1.1.1
    have bx1 : (0 : Int) ≤ x1 ∧ x1 ≤ 1 := k1.1.2.1
    have w0_0_43 : (0 : Int) ≤ η 0 43 ∧ η 0 43 ≤ 8 := wf_ok (a := 43) (b := 43) (z := (0, 8)) hp.1 (by decide +kernel) (Nat.le_refl _) (Nat.le_refl _)
    have v2 : zEq (η1 0 43) (η 0 43) := (k1.1.2.2.2.1 0 43 (by decide +kernel)).trans rfl
    replace e2 : x2 = η 0 43 := e2.trans v2
    replace e3 : x3 = η 0 43 := e3.trans v2
    first
    | replace e4 : x4 = x3 + 1 := zd_a2 (zEq_o e4) (by clear e4; exact ⟨by omega, by omega⟩)
    | clear e4
    have c1_0_43 : η1 0 43 = η 0 43 := v2
    have wb2 : wB wl_le zTr η2 := by rw [eη2]; exact wk_ok (a := 43) (b := 43) (z := (0, 8)) zTr_k (GR := []) wb1 (by decide +kernel) (by decide) (by decide) (show (0 : Int) ≤ x4 by omega) (show x4 ≤ (8 : Int) by omega)
    have v3 : zEq (η1 0 8) (η 0 8) := (k1.1.2.2.2.1 0 8 (by decide +kernel)).trans rfl
    have v4 : zEq (η2 0 8) (η 0 8) := by rw [eη2]; exact (zup_ne (fun _ e => absurd e (by decide))).trans v3
    have c2_0_8 : η2 0 8 = η 0 8 := v4
    have wb3 : wB wl_le zTr η3 := k5.1.1
    have bx5 : (0 : Int) ≤ x5 ∧ x5 ≤ 0 := k5.1.2.1
    have wb4 : wB wl_le zTr η4 := by rw [eη4]; exact wk_ok (a := 46) (b := 46) (z := ((-2147483648), 2147483647)) zTr_k (GR := []) wb3 (by decide +kernel) (by decide) (by decide) (show ((-2147483648) : Int) ≤ 1 by omega) (show 1 ≤ (2147483647 : Int) by omega)
    have w0_0_7 : (0 : Int) ≤ η 0 7 ∧ η 0 7 ≤ 700 := wf_ok (a := 7) (b := 7) (z := (0, 700)) hp.1 (by decide +kernel) (Nat.le_refl _) (Nat.le_refl _)
    have v6 : zEq (η1 0 7) (η 0 7) := (k1.1.2.2.2.1 0 7 (by decide +kernel)).trans rfl
    have v7 : zEq (η2 0 7) (η 0 7) := by rw [eη2]; exact (zup_ne (fun _ e => absurd e (by decide))).trans v6
    have v8 : zEq (η3 0 7) (η 0 7) := (k5.1.2.2.2.1 0 7 (by decide +kernel)).trans v7
    have v9 : zEq (η4 0 7) (η 0 7) := by rw [eη4]; exact (zup_ne (fun _ e => absurd e (by decide))).trans v8
    have c4_0_7 : η4 0 7 = η 0 7 := v9
    have w0_0_6 : (0 : Int) ≤ η 0 6 ∧ η 0 6 ≤ 700 := wf_ok (a := 6) (b := 6) (z := (0, 700)) hp.1 (by decide +kernel) (Nat.le_refl _) (Nat.le_refl _)
    have v11 : zEq (η1 0 6) (η 0 6) := (k1.1.2.2.2.1 0 6 (by decide +kernel)).trans rfl
    have v12 : zEq (η2 0 6) (η 0 6) := by rw [eη2]; exact (zup_ne (fun _ e => absurd e (by decide))).trans v11
    have v13 : zEq (η3 0 6) (η 0 6) := (k5.1.2.2.2.1 0 6 (by decide +kernel)).trans v12
    have v14 : zEq (η4 0 6) (η 0 6) := by rw [eη4]; exact (zup_ne (fun _ e => absurd e (by decide))).trans v13
    have c4_0_6 : η4 0 6 = η 0 6 := v14
    have v15 : zEq (η3 0 8) (η 0 8) := (k5.1.2.2.2.1 0 8 (by decide +kernel)).trans v4
    have v16 : zEq (η4 0 8) (η 0 8) := by rw [eη4]; exact (zup_ne (fun _ e => absurd e (by decide))).trans v15
    have c4_0_8 : η4 0 8 = η 0 8 := v16
    have wb5 : wB wl_le zTr η5 := k6.1.1
    have bx6 : (0 : Int) ≤ x6 ∧ x6 ≤ 0 := k6.1.2.1
    have fm1 : zFm zMle_leafRead η η1 := zFm_tr2 zFm_rf k1.1.2.2.2.1 (by decide +kernel)
    have fm2 : zFm zMle_leafRead η η2 := by rw [eη2]; exact zFm_up fm1 rfl
    have fm3 : zFm zMle_leafRead η η3 := zFm_tr2 fm2 k5.1.2.2.2.1 (by decide +kernel)
    have fm4 : zFm zMle_leafRead η η4 := by rw [eη4]; exact zFm_up fm3 rfl
    have fm5 : zFm zMle_leafRead η η5 := zFm_tr2 fm4 k6.1.2.2.2.1 (by decide +kernel)
    have fmE : zFm zMle_leafRead η η5 := fm5
    have fr22_0 : ∀ j, η 22 j = η 22 j := fun _ => rfl
    have v17 : ∀ j, η1 22 j = η 22 j := fun j => k1.1.2.2.2.1 22 _ (zinr_not (by decide +kernel))
    have fr22_1 : ∀ j, η1 22 j = η 22 j := v17
    have v18 : ∀ j, η2 22 j = η 22 j := fun j => by rw [eη2]; exact (zup_ne (fun e _ => absurd e (by decide))).trans (v17 j)
    have fr22_2 : ∀ j, η2 22 j = η 22 j := v18
    have fr22_3 : ∀ j, η3 22 j = η3 22 j := fun _ => rfl
    have v20 : ∀ j, η4 22 j = η3 22 j := fun j => by rw [eη4]; exact zup_ne (fun e _ => absurd e (by decide))
    have fr22_4 : ∀ j, η4 22 j = η3 22 j := v20
    have v21 : ∀ j, η5 22 j = η3 22 j := fun j => (k6.1.2.2.2.1 22 _ (zinr_not (by decide +kernel))).trans (v20 j)
    have fr22_5 : ∀ j, η5 22 j = η3 22 j := v21
    have fr22 : ∀ j, η5 22 j = η3 22 j := v21
    have v23 : zEq (η4 0 41) (η3 0 41) := by rw [eη4]; exact (zup_ne (fun _ e => absurd e (by decide))).trans rfl
    have v24 : zEq (η5 0 41) (η3 0 41) := (k6.1.2.2.2.1 0 41 (by decide +kernel)).trans v23
    have f0_41 : η5 0 41 = η3 0 41 := v24
    have v25 : zEq (η2 0 43) (x4) := by rw [eη2]; exact zup_eq
    have v26 : zEq (η3 0 43) (x4) := (k5.1.2.2.2.1 0 43 (by decide +kernel)).trans v25
    have v27 : zEq (η4 0 43) (x4) := by rw [eη4]; exact (zup_ne (fun _ e => absurd e (by decide))).trans v26
    have v28 : zEq (η5 0 43) (x4) := (k6.1.2.2.2.1 0 43 (by decide +kernel)).trans v27
    have f0_43 : η5 0 43 = x4 := v28
    have v30 : zEq (η1 0 42) (η 0 42) := (k1.1.2.2.2.1 0 42 (by decide +kernel)).trans rfl
    have v31 : zEq (η2 0 42) (η 0 42) := by rw [eη2]; exact (zup_ne (fun _ e => absurd e (by decide))).trans v30
    have v32 : zEq (η3 0 42) (η 0 42) := (k5.1.2.2.2.1 0 42 (by decide +kernel)).trans v31
    have v33 : zEq (η4 0 42) (η 0 42) := by rw [eη4]; exact (zup_ne (fun _ e => absurd e (by decide))).trans v32
    have v34 : zEq (η5 0 42) (η 0 42) := (k6.1.2.2.2.1 0 42 (by decide +kernel)).trans v33
    have f0_42 : η5 0 42 = η 0 42 := v34
    have v36 : zEq (η1 0 45) (η 0 45) := (k1.1.2.2.2.1 0 45 (by decide +kernel)).trans rfl
    have v37 : zEq (η2 0 45) (η 0 45) := by rw [eη2]; exact (zup_ne (fun _ e => absurd e (by decide))).trans v36
    have v38 : zEq (η3 0 45) (η 0 45) := (k5.1.2.2.2.1 0 45 (by decide +kernel)).trans v37
    have v39 : zEq (η4 0 45) (η 0 45) := by rw [eη4]; exact (zup_ne (fun _ e => absurd e (by decide))).trans v38
    have v40 : zEq (η5 0 45) (η 0 45) := (k6.1.2.2.2.1 0 45 (by decide +kernel)).trans v39
    have f0_45 : η5 0 45 = η 0 45 := v40
    have w0_0_19 : (0 : Int) ≤ η 0 19 ∧ η 0 19 ≤ 64 := wf_ok (a := 19) (b := 19) (z := (0, 64)) hp.1 (by decide +kernel) (Nat.le_refl _) (Nat.le_refl _)
    have v42 : zEq (η1 0 19) (η 0 19) := (k1.1.2.2.2.1 0 19 (by decide +kernel)).trans rfl
    have v43 : zEq (η2 0 19) (η 0 19) := by rw [eη2]; exact (zup_ne (fun _ e => absurd e (by decide))).trans v42
    have v44 : zEq (η3 0 19) (η 0 19) := (k5.1.2.2.2.1 0 19 (by decide +kernel)).trans v43
    have v45 : zEq (η4 0 19) (η 0 19) := by rw [eη4]; exact (zup_ne (fun _ e => absurd e (by decide))).trans v44
    have v46 : zEq (η5 0 19) (η 0 19) := (k6.1.2.2.2.1 0 19 (by decide +kernel)).trans v45
    have f0_19 : η5 0 19 = η 0 19 := v46
    have w0_0_44 : (0 : Int) ≤ η 0 44 ∧ η 0 44 ≤ 64 := wf_ok (a := 44) (b := 44) (z := (0, 64)) hp.1 (by decide +kernel) (Nat.le_refl _) (Nat.le_refl _)
    have v48 : zEq (η1 0 44) (η 0 44) := (k1.1.2.2.2.1 0 44 (by decide +kernel)).trans rfl
    have v49 : zEq (η2 0 44) (η 0 44) := by rw [eη2]; exact (zup_ne (fun _ e => absurd e (by decide))).trans v48
    have v50 : zEq (η3 0 44) (η 0 44) := (k5.1.2.2.2.1 0 44 (by decide +kernel)).trans v49
    have v51 : zEq (η4 0 44) (η 0 44) := by rw [eη4]; exact (zup_ne (fun _ e => absurd e (by decide))).trans v50
    have v52 : zEq (η5 0 44) (η 0 44) := (k6.1.2.2.2.1 0 44 (by decide +kernel)).trans v51
    have f0_44 : η5 0 44 = η 0 44 := v52
    have w5_0_7 : (0 : Int) ≤ η5 0 7 ∧ η5 0 7 ≤ 700 := wf_ok (a := 7) (b := 7) (z := (0, 700)) k6.1.1 (by decide +kernel) (Nat.le_refl _) (Nat.le_refl _)
    have f0_7 : η5 0 7 = η5 0 7 := rfl
    have v54 : zEq (η5 0 6) (η 0 6) := (k6.1.2.2.2.1 0 6 (by decide +kernel)).trans v14
    have f0_6 : η5 0 6 = η 0 6 := v54
    have w5_0_8 : (0 : Int) ≤ η5 0 8 ∧ η5 0 8 ≤ 6 := wf_ok (a := 8) (b := 8) (z := (0, 6)) k6.1.1 (by decide +kernel) (Nat.le_refl _) (Nat.le_refl _)
    have f0_8 : η5 0 8 = η5 0 8 := rfl
    have wbE : wB wl_le zTr η5 := wb5
    
    have I0 : H_l 0 0 0 η := hpp.1
    have I1 : H_l 0 0 0 η1 := k1.2.1
    have qk1 : η 0 8 = 4 := k1.2.2 c1
    have I2 : H_l 0 1 0 η2 := by rw [eη2]; exact h_eq (br_up I1 (by apply Int.le_antisymm <;> omega)) rfl (by apply Int.le_antisymm <;> omega) rfl
    have I3 : H_l 0 0 0 η3 := k5.2
    have I4 : H_l 0 0 0 η4 := by rw [eη4]; exact zGk_upc hk_l I3 (by decide +kernel)
    have I5 : H_l 0 0 0 η5 := k6.2.1
    have qt6 : ¬ η4 0 8 = 0 → 10 * (η5 0 6 - η5 0 7) + η5 0 8 < 10 * (η4 0 6 - η4 0 7) + η4 0 8 := k6.2.2
    refine ⟨I5.1, fun _ => ⟨I5, show 10 * (η5 0 6 - η5 0 7) + η5 0 8 < 10 * (η 0 6 - η 0 7) + η 0 8 by omega, fun w => ?_⟩⟩
    have w : η5 0 45 = 0 := w
    omega
  · obtain ⟨a1, b1⟩ : x1 = (yq_isS 40 η) ∧ η = η1 := ⟨y1.1, y1.2.symm⟩
    subst b1
    have e2 : x2 = η 0 43 := e2
    have e3 : x3 = η 0 43 := e3
    have f3 : x2 = x3 := e2.trans e3.symm
    subst f3
    have e4 : x4 = zd 0 1 x2 1 := e4
    have eη2 : η2 = zup η 0 43 x4 := eη2
    have b5 : η3 = (yq_wai 0 η2) := y5
    have eη4 : η4 = zup η3 0 46 1 := eη4
    have b6 : η5 = (yq_tok η4) := y6
    show 1 = (yq_lf η).1 ∧ η5 = (yq_lf η).2
    simp only [yq_lf, yq_ct, yq_no, yq_inc, ← a1, ← e2, ← e4, ← eη2, ← b5, ← eη4, ← b6]
    all_goals clear e4
    all_goals ((repeat' split) <;> first | (exfalso; omega) | exact ⟨rfl, rfl⟩ | rfl)
set_option maxHeartbeats 8000000 in
theorem zle_leafRead_o40 {ro : Nat → List Int32} (η : zE) (hp : sP wl_le zTr zPle_leafRead [] η) (hpp : pPle_leafRead [] η) : ∀ (x1 : Int) (η1 : zE), ((gC2 wl_le [(nat_lit 0, zPle_isSign, zOle_isSign, zMle_isSign), (nat_lit 1, zPle_wrong, zOle_wrong, zMle_wrong), (nat_lit 2, zPle_waitsFor0, zOle_waitsFor0, zMle_waitsFor0), (nat_lit 3, zPle_token, zOle_token, zMle_token), (nat_lit 4, zPle_isKey, zOle_isKey, zMle_isKey), (nat_lit 5, zPle_isCounted, zOle_isCounted, zMle_isCounted), (nat_lit 6, zPle_waitsFor2, zOle_waitsFor2, zMle_waitsFor2), (nat_lit 7, zPle_nameMet, zOle_nameMet, zMle_nameMet), (nat_lit 8, zPle_grown, zOle_grown, zMle_grown)] pCle_leafRead qCle_leafRead) 0).2 [40] η x1 η1 → (¬ x1 = 0) → ∀ x2 : Int, x2 = η1 0 (Int.toNat 43) → zok 0 x2 → (x2 = 8) → ((gC2 wl_le [(nat_lit 0, zPle_isSign, zOle_isSign, zMle_isSign), (nat_lit 1, zPle_wrong, zOle_wrong, zMle_wrong), (nat_lit 2, zPle_waitsFor0, zOle_waitsFor0, zMle_waitsFor0), (nat_lit 3, zPle_token, zOle_token, zMle_token), (nat_lit 4, zPle_isKey, zOle_isKey, zMle_isKey), (nat_lit 5, zPle_isCounted, zOle_isCounted, zMle_isCounted), (nat_lit 6, zPle_waitsFor2, zOle_waitsFor2, zMle_waitsFor2), (nat_lit 7, zPle_nameMet, zOle_nameMet, zMle_nameMet), (nat_lit 8, zPle_grown, zOle_grown, zMle_grown)] pCle_leafRead qCle_leafRead) 1).1 [2] η1 := by
  have hw : η 0 45 = 1 := hpp.2
  have hs : η 0 7 ≤ η 0 6 := hpp.1.1.1.1
  have bd43 : (0 : Int) ≤ η 0 43 ∧ η 0 43 ≤ 8 := wf_ok (a := 43) (b := 43) (z := (0, 8)) hp.1 (by decide +kernel) (Nat.le_refl _) (Nat.le_refl _)
  have bd44 : (0 : Int) ≤ η 0 44 ∧ η 0 44 ≤ 64 := wf_ok (a := 44) (b := 44) (z := (0, 64)) hp.1 (by decide +kernel) (Nat.le_refl _) (Nat.le_refl _)
  have bd19 : (0 : Int) ≤ η 0 19 ∧ η 0 19 ≤ 64 := wf_ok (a := 19) (b := 19) (z := (0, 64)) hp.1 (by decide +kernel) (Nat.le_refl _) (Nat.le_refl _)
  intro x1 η1 h1 c1 x2 e2 r2 c2
  have y1 : fQle_isSign [40] η x1 η1 := h1.2.2
  have k1 : sQ wl_le zTr zOle_isSign zMle_isSign [40] η x1 η1 ∧ oQle_isSign [40] η x1 η1 := ⟨h1.1, h1.2.1⟩
  have w0_0_8 : (0 : Int) ≤ η 0 8 ∧ η 0 8 ≤ 6 := wf_ok (a := 8) (b := 8) (z := (0, 6)) hp.1 (by decide +kernel) (Nat.le_refl _) (Nat.le_refl _)
  have c0_0_8 : η 0 8 = η 0 8 := rfl
  have wb1 : wB wl_le zTr η1 := k1.1.1
  have bx1 : (0 : Int) ≤ x1 ∧ x1 ≤ 1 := k1.1.2.1
  have w0_0_43 : (0 : Int) ≤ η 0 43 ∧ η 0 43 ≤ 8 := wf_ok (a := 43) (b := 43) (z := (0, 8)) hp.1 (by decide +kernel) (Nat.le_refl _) (Nat.le_refl _)
  have v2 : zEq (η1 0 43) (η 0 43) := (k1.1.2.2.2.1 0 43 (by decide +kernel)).trans rfl
  replace e2 : x2 = η 0 43 := e2.trans v2
  have fm1 : zFm zMle_leafRead η η1 := zFm_tr2 zFm_rf k1.1.2.2.2.1 (by decide +kernel)
  have fmE : zFm zMle_leafRead η η1 := fm1
  have fr22_0 : ∀ j, η 22 j = η 22 j := fun _ => rfl
  have v3 : ∀ j, η1 22 j = η 22 j := fun j => k1.1.2.2.2.1 22 _ (zinr_not (by decide +kernel))
  have fr22_1 : ∀ j, η1 22 j = η 22 j := v3
  have fr22 : ∀ j, η1 22 j = η 22 j := v3
  have v5 : zEq (η1 0 41) (η 0 41) := (k1.1.2.2.2.1 0 41 (by decide +kernel)).trans rfl
  have f0_41 : η1 0 41 = η 0 41 := v5
  have f0_43 : η1 0 43 = η 0 43 := v2
  have v7 : zEq (η1 0 42) (η 0 42) := (k1.1.2.2.2.1 0 42 (by decide +kernel)).trans rfl
  have f0_42 : η1 0 42 = η 0 42 := v7
  have v9 : zEq (η1 0 45) (η 0 45) := (k1.1.2.2.2.1 0 45 (by decide +kernel)).trans rfl
  have f0_45 : η1 0 45 = η 0 45 := v9
  have w0_0_19 : (0 : Int) ≤ η 0 19 ∧ η 0 19 ≤ 64 := wf_ok (a := 19) (b := 19) (z := (0, 64)) hp.1 (by decide +kernel) (Nat.le_refl _) (Nat.le_refl _)
  have v11 : zEq (η1 0 19) (η 0 19) := (k1.1.2.2.2.1 0 19 (by decide +kernel)).trans rfl
  have f0_19 : η1 0 19 = η 0 19 := v11
  have w0_0_44 : (0 : Int) ≤ η 0 44 ∧ η 0 44 ≤ 64 := wf_ok (a := 44) (b := 44) (z := (0, 64)) hp.1 (by decide +kernel) (Nat.le_refl _) (Nat.le_refl _)
  have v13 : zEq (η1 0 44) (η 0 44) := (k1.1.2.2.2.1 0 44 (by decide +kernel)).trans rfl
  have f0_44 : η1 0 44 = η 0 44 := v13
  have w0_0_7 : (0 : Int) ≤ η 0 7 ∧ η 0 7 ≤ 700 := wf_ok (a := 7) (b := 7) (z := (0, 700)) hp.1 (by decide +kernel) (Nat.le_refl _) (Nat.le_refl _)
  have v15 : zEq (η1 0 7) (η 0 7) := (k1.1.2.2.2.1 0 7 (by decide +kernel)).trans rfl
  have f0_7 : η1 0 7 = η 0 7 := v15
  have w0_0_6 : (0 : Int) ≤ η 0 6 ∧ η 0 6 ≤ 700 := wf_ok (a := 6) (b := 6) (z := (0, 700)) hp.1 (by decide +kernel) (Nat.le_refl _) (Nat.le_refl _)
  have v17 : zEq (η1 0 6) (η 0 6) := (k1.1.2.2.2.1 0 6 (by decide +kernel)).trans rfl
  have f0_6 : η1 0 6 = η 0 6 := v17
  have v18 : zEq (η1 0 8) (η 0 8) := (k1.1.2.2.2.1 0 8 (by decide +kernel)).trans rfl
  have f0_8 : η1 0 8 = η 0 8 := v18
  have wbE : wB wl_le zTr η1 := wb1
  
  have I0 : H_l 0 0 0 η := hpp.1
  have I1 : H_l 0 0 0 η1 := k1.2.1
  have qk1 : η 0 8 = 4 := k1.2.2 c1
  exact I1
set_option maxHeartbeats 8000000 in
theorem zle_leafRead_o41 {ro : Nat → List Int32} (η : zE) (hp : sP wl_le zTr zPle_leafRead [] η) (hpp : pPle_leafRead [] η) : ∀ (x1 : Int) (η1 : zE), ((gC2 wl_le [(nat_lit 0, zPle_isSign, zOle_isSign, zMle_isSign), (nat_lit 1, zPle_wrong, zOle_wrong, zMle_wrong), (nat_lit 2, zPle_waitsFor0, zOle_waitsFor0, zMle_waitsFor0), (nat_lit 3, zPle_token, zOle_token, zMle_token), (nat_lit 4, zPle_isKey, zOle_isKey, zMle_isKey), (nat_lit 5, zPle_isCounted, zOle_isCounted, zMle_isCounted), (nat_lit 6, zPle_waitsFor2, zOle_waitsFor2, zMle_waitsFor2), (nat_lit 7, zPle_nameMet, zOle_nameMet, zMle_nameMet), (nat_lit 8, zPle_grown, zOle_grown, zMle_grown)] pCle_leafRead qCle_leafRead) 0).2 [40] η x1 η1 → (¬ x1 = 0) → ∀ x2 : Int, x2 = η1 0 (Int.toNat 43) → zok 0 x2 → (x2 = 8) → ∀ (x3 : Int) (η2 : zE), ((gC2 wl_le [(nat_lit 0, zPle_isSign, zOle_isSign, zMle_isSign), (nat_lit 1, zPle_wrong, zOle_wrong, zMle_wrong), (nat_lit 2, zPle_waitsFor0, zOle_waitsFor0, zMle_waitsFor0), (nat_lit 3, zPle_token, zOle_token, zMle_token), (nat_lit 4, zPle_isKey, zOle_isKey, zMle_isKey), (nat_lit 5, zPle_isCounted, zOle_isCounted, zMle_isCounted), (nat_lit 6, zPle_waitsFor2, zOle_waitsFor2, zMle_waitsFor2), (nat_lit 7, zPle_nameMet, zOle_nameMet, zMle_nameMet), (nat_lit 8, zPle_grown, zOle_grown, zMle_grown)] pCle_leafRead qCle_leafRead) 1).2 [2] η1 x3 η2 → (fun (_ : Nat) (y : Int) (η' : zE) => pQle_leafRead [] η y η') 0 x3 η2 := by
  intro x1 η1 h1 c1 x2 e2 r2 c2 x3 η2 h3
  have y1 : fQle_isSign [40] η x1 η1 := h1.2.2
  have k1 : sQ wl_le zTr zOle_isSign zMle_isSign [40] η x1 η1 ∧ oQle_isSign [40] η x1 η1 := ⟨h1.1, h1.2.1⟩
  have y3 : fQle_wrong [2] η1 x3 η2 := h3.2.2
  have k3 : sQ wl_le zTr zOle_wrong zMle_wrong [2] η1 x3 η2 ∧ oQle_wrong [2] η1 x3 η2 := ⟨h3.1, h3.2.1⟩
  refine yj_a ?_ ?_
  · have hw : η 0 45 = 1 := hpp.2
    have hs : η 0 7 ≤ η 0 6 := hpp.1.1.1.1
    have bd43 : (0 : Int) ≤ η 0 43 ∧ η 0 43 ≤ 8 := wf_ok (a := 43) (b := 43) (z := (0, 8)) hp.1 (by decide +kernel) (Nat.le_refl _) (Nat.le_refl _)
    have bd44 : (0 : Int) ≤ η 0 44 ∧ η 0 44 ≤ 64 := wf_ok (a := 44) (b := 44) (z := (0, 64)) hp.1 (by decide +kernel) (Nat.le_refl _) (Nat.le_refl _)
    have bd19 : (0 : Int) ≤ η 0 19 ∧ η 0 19 ≤ 64 := wf_ok (a := 19) (b := 19) (z := (0, 64)) hp.1 (by decide +kernel) (Nat.le_refl _) (Nat.le_refl _)
    have y1 : fQle_isSign [40] η x1 η1 := h1.2.2
    have k1 : sQ wl_le zTr zOle_isSign zMle_isSign [40] η x1 η1 ∧ oQle_isSign [40] η x1 η1 := ⟨h1.1, h1.2.1⟩
    have y3 : fQle_wrong [2] η1 x3 η2 := h3.2.2
    have k3 : sQ wl_le zTr zOle_wrong zMle_wrong [2] η1 x3 η2 ∧ oQle_wrong [2] η1 x3 η2 := ⟨h3.1, h3.2.1⟩
    have w0_0_8 : (0 : Int) ≤ η 0 8 ∧ η 0 8 ≤ 6 := wf_ok (a := 8) (b := 8) (z := (0, 6)) hp.1 (by decide +kernel) (Nat.le_refl _) (Nat.le_refl _)
    have c0_0_8 : η 0 8 = η 0 8 := rfl
    have wb1 : wB wl_le zTr η1 := k1.1.1
    have bx1 : (0 : Int) ≤ x1 ∧ x1 ≤ 1 := k1.1.2.1
    have w0_0_43 : (0 : Int) ≤ η 0 43 ∧ η 0 43 ≤ 8 := wf_ok (a := 43) (b := 43) (z := (0, 8)) hp.1 (by decide +kernel) (Nat.le_refl _) (Nat.le_refl _)
    have v2 : zEq (η1 0 43) (η 0 43) := (k1.1.2.2.2.1 0 43 (by decide +kernel)).trans rfl
    replace e2 : x2 = η 0 43 := e2.trans v2
    have v3 : zEq (η1 0 8) (η 0 8) := (k1.1.2.2.2.1 0 8 (by decide +kernel)).trans rfl
    have c1_0_8 : η1 0 8 = η 0 8 := v3
    have wb2 : wB wl_le zTr η2 := k3.1.1
    have bx3 : (0 : Int) ≤ x3 ∧ x3 ≤ 0 := k3.1.2.1
    have fm1 : zFm zMle_leafRead η η1 := zFm_tr2 zFm_rf k1.1.2.2.2.1 (by decide +kernel)
    have fm2 : zFm zMle_leafRead η η2 := zFm_tr2 fm1 k3.1.2.2.2.1 (by decide +kernel)
    have fmE : zFm zMle_leafRead η η2 := fm2
    have fr22_0 : ∀ j, η 22 j = η 22 j := fun _ => rfl
    have v4 : ∀ j, η1 22 j = η 22 j := fun j => k1.1.2.2.2.1 22 _ (zinr_not (by decide +kernel))
    have fr22_1 : ∀ j, η1 22 j = η 22 j := v4
    have v5 : ∀ j, η2 22 j = η 22 j := fun j => (k3.1.2.2.2.1 22 _ (zinr_not (by decide +kernel))).trans (v4 j)
    have fr22_2 : ∀ j, η2 22 j = η 22 j := v5
    have fr22 : ∀ j, η2 22 j = η 22 j := v5
    have v7 : zEq (η1 0 41) (η 0 41) := (k1.1.2.2.2.1 0 41 (by decide +kernel)).trans rfl
    have v8 : zEq (η2 0 41) (η 0 41) := (k3.1.2.2.2.1 0 41 (by decide +kernel)).trans v7
    have f0_41 : η2 0 41 = η 0 41 := v8
    have v9 : zEq (η2 0 43) (η 0 43) := (k3.1.2.2.2.1 0 43 (by decide +kernel)).trans v2
    have f0_43 : η2 0 43 = η 0 43 := v9
    have v11 : zEq (η1 0 42) (η 0 42) := (k1.1.2.2.2.1 0 42 (by decide +kernel)).trans rfl
    have v12 : zEq (η2 0 42) (η 0 42) := (k3.1.2.2.2.1 0 42 (by decide +kernel)).trans v11
    have f0_42 : η2 0 42 = η 0 42 := v12
    have v14 : zEq (η1 0 45) (η 0 45) := (k1.1.2.2.2.1 0 45 (by decide +kernel)).trans rfl
    have v15 : zEq (η2 0 45) (η 0 45) := (k3.1.2.2.2.1 0 45 (by decide +kernel)).trans v14
    have f0_45 : η2 0 45 = η 0 45 := v15
    have w0_0_19 : (0 : Int) ≤ η 0 19 ∧ η 0 19 ≤ 64 := wf_ok (a := 19) (b := 19) (z := (0, 64)) hp.1 (by decide +kernel) (Nat.le_refl _) (Nat.le_refl _)
    have v17 : zEq (η1 0 19) (η 0 19) := (k1.1.2.2.2.1 0 19 (by decide +kernel)).trans rfl
    have v18 : zEq (η2 0 19) (η 0 19) := (k3.1.2.2.2.1 0 19 (by decide +kernel)).trans v17
    have f0_19 : η2 0 19 = η 0 19 := v18
    have w0_0_44 : (0 : Int) ≤ η 0 44 ∧ η 0 44 ≤ 64 := wf_ok (a := 44) (b := 44) (z := (0, 64)) hp.1 (by decide +kernel) (Nat.le_refl _) (Nat.le_refl _)
    have v20 : zEq (η1 0 44) (η 0 44) := (k1.1.2.2.2.1 0 44 (by decide +kernel)).trans rfl
    have v21 : zEq (η2 0 44) (η 0 44) := (k3.1.2.2.2.1 0 44 (by decide +kernel)).trans v20
    have f0_44 : η2 0 44 = η 0 44 := v21
    have w0_0_7 : (0 : Int) ≤ η 0 7 ∧ η 0 7 ≤ 700 := wf_ok (a := 7) (b := 7) (z := (0, 700)) hp.1 (by decide +kernel) (Nat.le_refl _) (Nat.le_refl _)
    have v23 : zEq (η1 0 7) (η 0 7) := (k1.1.2.2.2.1 0 7 (by decide +kernel)).trans rfl
    have v24 : zEq (η2 0 7) (η 0 7) := (k3.1.2.2.2.1 0 7 (by decide +kernel)).trans v23
    have f0_7 : η2 0 7 = η 0 7 := v24
    have w0_0_6 : (0 : Int) ≤ η 0 6 ∧ η 0 6 ≤ 700 := wf_ok (a := 6) (b := 6) (z := (0, 700)) hp.1 (by decide +kernel) (Nat.le_refl _) (Nat.le_refl _)
    have v26 : zEq (η1 0 6) (η 0 6) := (k1.1.2.2.2.1 0 6 (by decide +kernel)).trans rfl
    have v27 : zEq (η2 0 6) (η 0 6) := (k3.1.2.2.2.1 0 6 (by decide +kernel)).trans v26
    have f0_6 : η2 0 6 = η 0 6 := v27
    have v28 : zEq (η2 0 8) (η 0 8) := (k3.1.2.2.2.1 0 8 (by decide +kernel)).trans v3
    have f0_8 : η2 0 8 = η 0 8 := v28
    have wbE : wB wl_le zTr η2 := wb2
    
    have I0 : H_l 0 0 0 η := hpp.1
    have I1 : H_l 0 0 0 η1 := k1.2.1
    have qk1 : η 0 8 = 4 := k1.2.2 c1
    have I2 : H_l 0 0 0 η2 := k3.2
    exact ⟨I2.1, fun w => absurd (show (x3 : Int) = 0 by apply Int.le_antisymm <;> omega) w⟩
  · obtain ⟨a1, b1⟩ : x1 = (yq_isS 40 η) ∧ η = η1 := ⟨y1.1, y1.2.symm⟩
    subst b1
    have e2 : x2 = η 0 43 := e2
    obtain ⟨a3, b3⟩ : x3 = 0 ∧ η2 = (yq_wr 2 η) := y3
    show x3 = (yq_lf η).1 ∧ η2 = (yq_lf η).2
    simp only [yq_lf, yq_ct, yq_no, yq_inc, ← a1, ← e2, ← b3, a3]
    all_goals ((repeat' split) <;> first | (exfalso; omega) | exact ⟨rfl, rfl⟩ | rfl)
