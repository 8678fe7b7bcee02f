set_option maxHeartbeats 8000000 in
theorem zl_sumRead_o1 {ro : Nat → List Int32} (xs : List Int) (η0 : zE) (hp : sP wl_l zTr zPl_sumRead xs η0) (hpp : pPl_sumRead xs η0) (η : zE) (hI : zsI wl_l zTr zVl_sumRead zMl_sumRead η0 0 [] η) (hig : iCl_sumRead xs η0 0 [] η) : ∀ (x1 : Int) (η1 : zE), ((gC2 wl_l [(nat_lit 0, zPl_isSign, zOl_isSign, zMl_isSign), (nat_lit 1, zPl_leafRead, zOl_leafRead, zMl_leafRead), (nat_lit 2, zPl_signs, zOl_signs, zMl_signs), (nat_lit 3, zPl_bind, zOl_bind, zMl_bind)] pCl_sumRead qCl_sumRead) 0).2 [59] η x1 η1 → (x1 = 0) → ∀ x2 : Int, x2 = η1 0 (Int.toNat 45) → zok 1 x2 → (x2 = 0) → ((gC2 wl_l [(nat_lit 0, zPl_isSign, zOl_isSign, zMl_isSign), (nat_lit 1, zPl_leafRead, zOl_leafRead, zMl_leafRead), (nat_lit 2, zPl_signs, zOl_signs, zMl_signs), (nat_lit 3, zPl_bind, zOl_bind, zMl_bind)] pCl_sumRead qCl_sumRead) 2).1 [] η1 := by
  have hs : η 0 7 ≤ η 0 6 := hig.1.1.1.1
  have hk1 : η 0 45 = 0 → 1 ≤ η 0 19 := hig.2.1
  have hm : 10 * (η 0 6 - η 0 7) + η 0 8 ≤ 10 * (η0 0 6 - η0 0 7) + η0 0 8 := hig.2.2
  have bd43 : (0 : Int) ≤ η 0 43 ∧ η 0 43 ≤ 8 := wf_ok (a := 43) (b := 43) (z := (0, 8)) hI.1.1 (by decide +kernel) (Nat.le_refl _) (Nat.le_refl _)
  have bd44 : (0 : Int) ≤ η 0 44 ∧ η 0 44 ≤ 64 := wf_ok (a := 44) (b := 44) (z := (0, 64)) hI.1.1 (by decide +kernel) (Nat.le_refl _) (Nat.le_refl _)
  have bd19 : (0 : Int) ≤ η 0 19 ∧ η 0 19 ≤ 64 := wf_ok (a := 19) (b := 19) (z := (0, 64)) hI.1.1 (by decide +kernel) (Nat.le_refl _) (Nat.le_refl _)
  intro x1 η1 h1 c1 x2 e2 r2 c2
  have k1 : sQ wl_l zTr zOl_isSign zMl_isSign [59] η x1 η1 ∧ pQl_isSign [59] η x1 η1 := h1
  have c0_0_41 : η 0 41 = η 0 41 := rfl
  have w0_0_43 : (0 : Int) ≤ η 0 43 ∧ η 0 43 ≤ 8 := wf_ok (a := 43) (b := 43) (z := (0, 8)) hI.1.1 (by decide +kernel) (Nat.le_refl _) (Nat.le_refl _)
  have c0_0_43 : η 0 43 = η 0 43 := rfl
  have c0_0_42 : η 0 42 = η 0 42 := rfl
  have c0_0_45 : η 0 45 = η 0 45 := rfl
  have w0_0_19 : (0 : Int) ≤ η 0 19 ∧ η 0 19 ≤ 64 := wf_ok (a := 19) (b := 19) (z := (0, 64)) hI.1.1 (by decide +kernel) (Nat.le_refl _) (Nat.le_refl _)
  have c0_0_19 : η 0 19 = η 0 19 := rfl
  have w0_0_44 : (0 : Int) ≤ η 0 44 ∧ η 0 44 ≤ 64 := wf_ok (a := 44) (b := 44) (z := (0, 64)) hI.1.1 (by decide +kernel) (Nat.le_refl _) (Nat.le_refl _)
  have c0_0_44 : η 0 44 = η 0 44 := rfl
  have w0_0_7 : (0 : Int) ≤ η 0 7 ∧ η 0 7 ≤ 700 := wf_ok (a := 7) (b := 7) (z := (0, 700)) hI.1.1 (by decide +kernel) (Nat.le_refl _) (Nat.le_refl _)
  have c0_0_7 : η 0 7 = η 0 7 := rfl
  have w0_0_6 : (0 : Int) ≤ η 0 6 ∧ η 0 6 ≤ 700 := wf_ok (a := 6) (b := 6) (z := (0, 700)) hI.1.1 (by decide +kernel) (Nat.le_refl _) (Nat.le_refl _)
  have c0_0_6 : η 0 6 = η 0 6 := rfl
  have w0_0_8 : (0 : Int) ≤ η 0 8 ∧ η 0 8 ≤ 6 := wf_ok (a := 8) (b := 8) (z := (0, 6)) hI.1.1 (by decide +kernel) (Nat.le_refl _) (Nat.le_refl _)
  have c0_0_8 : η 0 8 = η 0 8 := rfl
  have bx1 : (0 : Int) ≤ x1 ∧ x1 ≤ 1 := k1.1.2.1
  have v9 : zEq (η1 0 45) (η 0 45) := (k1.1.2.2.2.1 0 45 (by decide +kernel)).trans rfl
  replace e2 : x2 = η 0 45 := e2.trans v9
  replace r2 : 0 ≤ x2 ∧ x2 ≤ 1 := r2
  have fm1 : zFm zMl_sumRead η0 η1 := zFm_tr2 hI.2 k1.1.2.2.2.1 (by decide +kernel)
  have fmE : zFm zMl_sumRead η0 η1 := fm1
  have fr22_0 : ∀ j, η 22 j = η 22 j := fun _ => rfl
  have v10 : ∀ j, η1 22 j = η 22 j := fun j => k1.1.2.2.2.1 22 _ (zinr_not (by decide +kernel))
  have fr22_1 : ∀ j, η1 22 j = η 22 j := v10
  have fr22 : ∀ j, η1 22 j = η 22 j := v10
  have v11 : zEq (η1 0 41) (η 0 41) := (k1.1.2.2.2.1 0 41 (by decide +kernel)).trans rfl
  have f0_41 : η1 0 41 = η 0 41 := v11
  have v12 : zEq (η1 0 43) (η 0 43) := (k1.1.2.2.2.1 0 43 (by decide +kernel)).trans rfl
  have f0_43 : η1 0 43 = η 0 43 := v12
  have v13 : zEq (η1 0 42) (η 0 42) := (k1.1.2.2.2.1 0 42 (by decide +kernel)).trans rfl
  have f0_42 : η1 0 42 = η 0 42 := v13
  have f0_45 : η1 0 45 = η 0 45 := v9
  have v14 : zEq (η1 0 19) (η 0 19) := (k1.1.2.2.2.1 0 19 (by decide +kernel)).trans rfl
  have f0_19 : η1 0 19 = η 0 19 := v14
  have v15 : zEq (η1 0 44) (η 0 44) := (k1.1.2.2.2.1 0 44 (by decide +kernel)).trans rfl
  have f0_44 : η1 0 44 = η 0 44 := v15
  have v16 : zEq (η1 0 7) (η 0 7) := (k1.1.2.2.2.1 0 7 (by decide +kernel)).trans rfl
  have f0_7 : η1 0 7 = η 0 7 := v16
  have v17 : zEq (η1 0 6) (η 0 6) := (k1.1.2.2.2.1 0 6 (by decide +kernel)).trans rfl
  have f0_6 : η1 0 6 = η 0 6 := v17
  have v18 : zEq (η1 0 8) (η 0 8) := (k1.1.2.2.2.1 0 8 (by decide +kernel)).trans rfl
  have f0_8 : η1 0 8 = η 0 8 := v18
  exact ⟨k1.2.1, show η1 0 45 = 0 by apply Int.le_antisymm <;> omega, show 1 ≤ η1 0 19 by omega⟩
set_option maxHeartbeats 8000000 in
theorem zl_sumRead_o2 {ro : Nat → List Int32} (xs : List Int) (η0 : zE) (hp : sP wl_l zTr zPl_sumRead xs η0) (hpp : pPl_sumRead xs η0) (η : zE) (hI : zsI wl_l zTr zVl_sumRead zMl_sumRead η0 0 [] η) (hig : iCl_sumRead xs η0 0 [] η) : ∀ (x1 : Int) (η1 : zE), ((gC2 wl_l [(nat_lit 0, zPl_isSign, zOl_isSign, zMl_isSign), (nat_lit 1, zPl_leafRead, zOl_leafRead, zMl_leafRead), (nat_lit 2, zPl_signs, zOl_signs, zMl_signs), (nat_lit 3, zPl_bind, zOl_bind, zMl_bind)] pCl_sumRead qCl_sumRead) 0).2 [59] η x1 η1 → (x1 = 0) → ∀ x2 : Int, x2 = η1 0 (Int.toNat 45) → zok 1 x2 → (x2 = 0) → ∀ (x3 : Int) (η2 : zE), ((gC2 wl_l [(nat_lit 0, zPl_isSign, zOl_isSign, zMl_isSign), (nat_lit 1, zPl_leafRead, zOl_leafRead, zMl_leafRead), (nat_lit 2, zPl_signs, zOl_signs, zMl_signs), (nat_lit 3, zPl_bind, zOl_bind, zMl_bind)] pCl_sumRead qCl_sumRead) 2).2 [] η1 x3 η2 → (x3 = 0) → (fun (_ : Nat) (y : Int) (η' : zE) => pQl_sumRead xs η0 y η') 0 0 η2 := by
  intro x1 η1 h1 c1 x2 e2 r2 c2 x3 η2 h3 c3
  have k1 : sQ wl_l zTr zOl_isSign zMl_isSign [59] η x1 η1 ∧ pQl_isSign [59] η x1 η1 := h1
  have k3 : sQ wl_l zTr zOl_signs zMl_signs [] η1 x3 η2 ∧ pQl_signs [] η1 x3 η2 := h3
  exact ⟨k3.2.1, fun w => absurd rfl w⟩
set_option maxHeartbeats 8000000 in
theorem zl_sumRead_o3 {ro : Nat → List Int32} (xs : List Int) (η0 : zE) (hp : sP wl_l zTr zPl_sumRead xs η0) (hpp : pPl_sumRead xs η0) (η : zE) (hI : zsI wl_l zTr zVl_sumRead zMl_sumRead η0 0 [] η) (hig : iCl_sumRead xs η0 0 [] η) : ∀ (x1 : Int) (η1 : zE), ((gC2 wl_l [(nat_lit 0, zPl_isSign, zOl_isSign, zMl_isSign), (nat_lit 1, zPl_leafRead, zOl_leafRead, zMl_leafRead), (nat_lit 2, zPl_signs, zOl_signs, zMl_signs), (nat_lit 3, zPl_bind, zOl_bind, zMl_bind)] pCl_sumRead qCl_sumRead) 0).2 [59] η x1 η1 → (x1 = 0) → ∀ x2 : Int, x2 = η1 0 (Int.toNat 45) → zok 1 x2 → (¬ x2 = 0) → ((gC2 wl_l [(nat_lit 0, zPl_isSign, zOl_isSign, zMl_isSign), (nat_lit 1, zPl_leafRead, zOl_leafRead, zMl_leafRead), (nat_lit 2, zPl_signs, zOl_signs, zMl_signs), (nat_lit 3, zPl_bind, zOl_bind, zMl_bind)] pCl_sumRead qCl_sumRead) 1).1 [] η1 := by
  have hs : η 0 7 ≤ η 0 6 := hig.1.1.1.1
  have hk1 : η 0 45 = 0 → 1 ≤ η 0 19 := hig.2.1
  have hm : 10 * (η 0 6 - η 0 7) + η 0 8 ≤ 10 * (η0 0 6 - η0 0 7) + η0 0 8 := hig.2.2
  have bd43 : (0 : Int) ≤ η 0 43 ∧ η 0 43 ≤ 8 := wf_ok (a := 43) (b := 43) (z := (0, 8)) hI.1.1 (by decide +kernel) (Nat.le_refl _) (Nat.le_refl _)
  have bd44 : (0 : Int) ≤ η 0 44 ∧ η 0 44 ≤ 64 := wf_ok (a := 44) (b := 44) (z := (0, 64)) hI.1.1 (by decide +kernel) (Nat.le_refl _) (Nat.le_refl _)
  have bd19 : (0 : Int) ≤ η 0 19 ∧ η 0 19 ≤ 64 := wf_ok (a := 19) (b := 19) (z := (0, 64)) hI.1.1 (by decide +kernel) (Nat.le_refl _) (Nat.le_refl _)
  intro x1 η1 h1 c1 x2 e2 r2 c2
  have k1 : sQ wl_l zTr zOl_isSign zMl_isSign [59] η x1 η1 ∧ pQl_isSign [59] η x1 η1 := h1
  have c0_0_41 : η 0 41 = η 0 41 := rfl
  have w0_0_43 : (0 : Int) ≤ η 0 43 ∧ η 0 43 ≤ 8 := wf_ok (a := 43) (b := 43) (z := (0, 8)) hI.1.1 (by decide +kernel) (Nat.le_refl _) (Nat.le_refl _)
  have c0_0_43 : η 0 43 = η 0 43 := rfl
  have c0_0_42 : η 0 42 = η 0 42 := rfl
  have c0_0_45 : η 0 45 = η 0 45 := rfl
  have w0_0_19 : (0 : Int) ≤ η 0 19 ∧ η 0 19 ≤ 64 := wf_ok (a := 19) (b := 19) (z := (0, 64)) hI.1.1 (by decide +kernel) (Nat.le_refl _) (Nat.le_refl _)
  have c0_0_19 : η 0 19 = η 0 19 := rfl
  have w0_0_44 : (0 : Int) ≤ η 0 44 ∧ η 0 44 ≤ 64 := wf_ok (a := 44) (b := 44) (z := (0, 64)) hI.1.1 (by decide +kernel) (Nat.le_refl _) (Nat.le_refl _)
  have c0_0_44 : η 0 44 = η 0 44 := rfl
  have w0_0_7 : (0 : Int) ≤ η 0 7 ∧ η 0 7 ≤ 700 := wf_ok (a := 7) (b := 7) (z := (0, 700)) hI.1.1 (by decide +kernel) (Nat.le_refl _) (Nat.le_refl _)
  have c0_0_7 : η 0 7 = η 0 7 := rfl
  have w0_0_6 : (0 : Int) ≤ η 0 6 ∧ η 0 6 ≤ 700 := wf_ok (a := 6) (b := 6) (z := (0, 700)) hI.1.1 (by decide +kernel) (Nat.le_refl _) (Nat.le_refl _)
  have c0_0_6 : η 0 6 = η 0 6 := rfl
  have w0_0_8 : (0 : Int) ≤ η 0 8 ∧ η 0 8 ≤ 6 := wf_ok (a := 8) (b := 8) (z := (0, 6)) hI.1.1 (by decide +kernel) (Nat.le_refl _) (Nat.le_refl _)
  have c0_0_8 : η 0 8 = η 0 8 := rfl
  have bx1 : (0 : Int) ≤ x1 ∧ x1 ≤ 1 := k1.1.2.1
  have v9 : zEq (η1 0 45) (η 0 45) := (k1.1.2.2.2.1 0 45 (by decide +kernel)).trans rfl
  replace e2 : x2 = η 0 45 := e2.trans v9
  replace r2 : 0 ≤ x2 ∧ x2 ≤ 1 := r2
  have fm1 : zFm zMl_sumRead η0 η1 := zFm_tr2 hI.2 k1.1.2.2.2.1 (by decide +kernel)
  have fmE : zFm zMl_sumRead η0 η1 := fm1
  have fr22_0 : ∀ j, η 22 j = η 22 j := fun _ => rfl
  have v10 : ∀ j, η1 22 j = η 22 j := fun j => k1.1.2.2.2.1 22 _ (zinr_not (by decide +kernel))
  have fr22_1 : ∀ j, η1 22 j = η 22 j := v10
  have fr22 : ∀ j, η1 22 j = η 22 j := v10
  have v11 : zEq (η1 0 41) (η 0 41) := (k1.1.2.2.2.1 0 41 (by decide +kernel)).trans rfl
  have f0_41 : η1 0 41 = η 0 41 := v11
  have v12 : zEq (η1 0 43) (η 0 43) := (k1.1.2.2.2.1 0 43 (by decide +kernel)).trans rfl
  have f0_43 : η1 0 43 = η 0 43 := v12
  have v13 : zEq (η1 0 42) (η 0 42) := (k1.1.2.2.2.1 0 42 (by decide +kernel)).trans rfl
  have f0_42 : η1 0 42 = η 0 42 := v13
  have f0_45 : η1 0 45 = η 0 45 := v9
  have v14 : zEq (η1 0 19) (η 0 19) := (k1.1.2.2.2.1 0 19 (by decide +kernel)).trans rfl
  have f0_19 : η1 0 19 = η 0 19 := v14
  have v15 : zEq (η1 0 44) (η 0 44) := (k1.1.2.2.2.1 0 44 (by decide +kernel)).trans rfl
  have f0_44 : η1 0 44 = η 0 44 := v15
  have v16 : zEq (η1 0 7) (η 0 7) := (k1.1.2.2.2.1 0 7 (by decide +kernel)).trans rfl
  have f0_7 : η1 0 7 = η 0 7 := v16
  have v17 : zEq (η1 0 6) (η 0 6) := (k1.1.2.2.2.1 0 6 (by decide +kernel)).trans rfl
  have f0_6 : η1 0 6 = η 0 6 := v17
  have v18 : zEq (η1 0 8) (η 0 8) := (k1.1.2.2.2.1 0 8 (by decide +kernel)).trans rfl
  have f0_8 : η1 0 8 = η 0 8 := v18
  exact ⟨k1.2.1, show η1 0 45 = 1 by apply Int.le_antisymm <;> omega⟩
set_option maxHeartbeats 8000000 in
theorem zl_sumRead_o4 {ro : Nat → List Int32} (xs : List Int) (η0 : zE) (hp : sP wl_l zTr zPl_sumRead xs η0) (hpp : pPl_sumRead xs η0) (η : zE) (hI : zsI wl_l zTr zVl_sumRead zMl_sumRead η0 0 [] η) (hig : iCl_sumRead xs η0 0 [] η) : ∀ (x1 : Int) (η1 : zE), ((gC2 wl_l [(nat_lit 0, zPl_isSign, zOl_isSign, zMl_isSign), (nat_lit 1, zPl_leafRead, zOl_leafRead, zMl_leafRead), (nat_lit 2, zPl_signs, zOl_signs, zMl_signs), (nat_lit 3, zPl_bind, zOl_bind, zMl_bind)] pCl_sumRead qCl_sumRead) 0).2 [59] η x1 η1 → (x1 = 0) → ∀ x2 : Int, x2 = η1 0 (Int.toNat 45) → zok 1 x2 → (¬ x2 = 0) → ∀ (x3 : Int) (η2 : zE), ((gC2 wl_l [(nat_lit 0, zPl_isSign, zOl_isSign, zMl_isSign), (nat_lit 1, zPl_leafRead, zOl_leafRead, zMl_leafRead), (nat_lit 2, zPl_signs, zOl_signs, zMl_signs), (nat_lit 3, zPl_bind, zOl_bind, zMl_bind)] pCl_sumRead qCl_sumRead) 1).2 [] η1 x3 η2 → (x3 = 0) → (fun (_ : Nat) (y : Int) (η' : zE) => pQl_sumRead xs η0 y η') 0 0 η2 := by
  intro x1 η1 h1 c1 x2 e2 r2 c2 x3 η2 h3 c3
  have k1 : sQ wl_l zTr zOl_isSign zMl_isSign [59] η x1 η1 ∧ pQl_isSign [59] η x1 η1 := h1
  have k3 : sQ wl_l zTr zOl_leafRead zMl_leafRead [] η1 x3 η2 ∧ pQl_leafRead [] η1 x3 η2 := h3
  exact ⟨k3.2.1, fun w => absurd rfl w⟩
set_option maxHeartbeats 8000000 in
theorem zl_sumRead_o5 {ro : Nat → List Int32} (xs : List Int) (η0 : zE) (hp : sP wl_l zTr zPl_sumRead xs η0) (hpp : pPl_sumRead xs η0) (η : zE) (hI : zsI wl_l zTr zVl_sumRead zMl_sumRead η0 0 [] η) (hig : iCl_sumRead xs η0 0 [] η) : ∀ (x1 : Int) (η1 : zE), ((gC2 wl_l [(nat_lit 0, zPl_isSign, zOl_isSign, zMl_isSign), (nat_lit 1, zPl_leafRead, zOl_leafRead, zMl_leafRead), (nat_lit 2, zPl_signs, zOl_signs, zMl_signs), (nat_lit 3, zPl_bind, zOl_bind, zMl_bind)] pCl_sumRead qCl_sumRead) 0).2 [59] η x1 η1 → (¬ x1 = 0) → ∀ x2 : Int, x2 = η1 0 (Int.toNat 45) → zok 1 x2 → (¬ x2 = 0) → ∀ x3 : Int, x3 = η1 0 (Int.toNat 45) → zok 1 x3 → (¬ x3 = 0) → ((gC2 wl_l [(nat_lit 0, zPl_isSign, zOl_isSign, zMl_isSign), (nat_lit 1, zPl_leafRead, zOl_leafRead, zMl_leafRead), (nat_lit 2, zPl_signs, zOl_signs, zMl_signs), (nat_lit 3, zPl_bind, zOl_bind, zMl_bind)] pCl_sumRead qCl_sumRead) 1).1 [] η1 := by
  have hs : η 0 7 ≤ η 0 6 := hig.1.1.1.1
  have hk1 : η 0 45 = 0 → 1 ≤ η 0 19 := hig.2.1
  have hm : 10 * (η 0 6 - η 0 7) + η 0 8 ≤ 10 * (η0 0 6 - η0 0 7) + η0 0 8 := hig.2.2
  have bd43 : (0 : Int) ≤ η 0 43 ∧ η 0 43 ≤ 8 := wf_ok (a := 43) (b := 43) (z := (0, 8)) hI.1.1 (by decide +kernel) (Nat.le_refl _) (Nat.le_refl _)
  have bd44 : (0 : Int) ≤ η 0 44 ∧ η 0 44 ≤ 64 := wf_ok (a := 44) (b := 44) (z := (0, 64)) hI.1.1 (by decide +kernel) (Nat.le_refl _) (Nat.le_refl _)
  have bd19 : (0 : Int) ≤ η 0 19 ∧ η 0 19 ≤ 64 := wf_ok (a := 19) (b := 19) (z := (0, 64)) hI.1.1 (by decide +kernel) (Nat.le_refl _) (Nat.le_refl _)
  intro x1 η1 h1 c1 x2 e2 r2 c2 x3 e3 r3 c3
  have k1 : sQ wl_l zTr zOl_isSign zMl_isSign [59] η x1 η1 ∧ pQl_isSign [59] η x1 η1 := h1
  have c0_0_41 : η 0 41 = η 0 41 := rfl
  have w0_0_43 : (0 : Int) ≤ η 0 43 ∧ η 0 43 ≤ 8 := wf_ok (a := 43) (b := 43) (z := (0, 8)) hI.1.1 (by decide +kernel) (Nat.le_refl _) (Nat.le_refl _)
  have c0_0_43 : η 0 43 = η 0 43 := rfl
  have c0_0_42 : η 0 42 = η 0 42 := rfl
  have c0_0_45 : η 0 45 = η 0 45 := rfl
  have w0_0_19 : (0 : Int) ≤ η 0 19 ∧ η 0 19 ≤ 64 := wf_ok (a := 19) (b := 19) (z := (0, 64)) hI.1.1 (by decide +kernel) (Nat.le_refl _) (Nat.le_refl _)
  have c0_0_19 : η 0 19 = η 0 19 := rfl
  have w0_0_44 : (0 : Int) ≤ η 0 44 ∧ η 0 44 ≤ 64 := wf_ok (a := 44) (b := 44) (z := (0, 64)) hI.1.1 (by decide +kernel) (Nat.le_refl _) (Nat.le_refl _)
  have c0_0_44 : η 0 44 = η 0 44 := rfl
  have w0_0_7 : (0 : Int) ≤ η 0 7 ∧ η 0 7 ≤ 700 := wf_ok (a := 7) (b := 7) (z := (0, 700)) hI.1.1 (by decide +kernel) (Nat.le_refl _) (Nat.le_refl _)
  have c0_0_7 : η 0 7 = η 0 7 := rfl
  have w0_0_6 : (0 : Int) ≤ η 0 6 ∧ η 0 6 ≤ 700 := wf_ok (a := 6) (b := 6) (z := (0, 700)) hI.1.1 (by decide +kernel) (Nat.le_refl _) (Nat.le_refl _)
  have c0_0_6 : η 0 6 = η 0 6 := rfl
  have w0_0_8 : (0 : Int) ≤ η 0 8 ∧ η 0 8 ≤ 6 := wf_ok (a := 8) (b := 8) (z := (0, 6)) hI.1.1 (by decide +kernel) (Nat.le_refl _) (Nat.le_refl _)
  have c0_0_8 : η 0 8 = η 0 8 := rfl
  have bx1 : (0 : Int) ≤ x1 ∧ x1 ≤ 1 := k1.1.2.1
  have v9 : zEq (η1 0 45) (η 0 45) := (k1.1.2.2.2.1 0 45 (by decide +kernel)).trans rfl
  replace e2 : x2 = η 0 45 := e2.trans v9
  replace r2 : 0 ≤ x2 ∧ x2 ≤ 1 := r2
  replace e3 : x3 = η 0 45 := e3.trans v9
  replace r3 : 0 ≤ x3 ∧ x3 ≤ 1 := r3
  have fm1 : zFm zMl_sumRead η0 η1 := zFm_tr2 hI.2 k1.1.2.2.2.1 (by decide +kernel)
  have fmE : zFm zMl_sumRead η0 η1 := fm1
  have fr22_0 : ∀ j, η 22 j = η 22 j := fun _ => rfl
  have v10 : ∀ j, η1 22 j = η 22 j := fun j => k1.1.2.2.2.1 22 _ (zinr_not (by decide +kernel))
  have fr22_1 : ∀ j, η1 22 j = η 22 j := v10
  have fr22 : ∀ j, η1 22 j = η 22 j := v10
  have v11 : zEq (η1 0 41) (η 0 41) := (k1.1.2.2.2.1 0 41 (by decide +kernel)).trans rfl
  have f0_41 : η1 0 41 = η 0 41 := v11
  have v12 : zEq (η1 0 43) (η 0 43) := (k1.1.2.2.2.1 0 43 (by decide +kernel)).trans rfl
  have f0_43 : η1 0 43 = η 0 43 := v12
  have v13 : zEq (η1 0 42) (η 0 42) := (k1.1.2.2.2.1 0 42 (by decide +kernel)).trans rfl
  have f0_42 : η1 0 42 = η 0 42 := v13
  have f0_45 : η1 0 45 = η 0 45 := v9
  have v14 : zEq (η1 0 19) (η 0 19) := (k1.1.2.2.2.1 0 19 (by decide +kernel)).trans rfl
  have f0_19 : η1 0 19 = η 0 19 := v14
  have v15 : zEq (η1 0 44) (η 0 44) := (k1.1.2.2.2.1 0 44 (by decide +kernel)).trans rfl
  have f0_44 : η1 0 44 = η 0 44 := v15
  have v16 : zEq (η1 0 7) (η 0 7) := (k1.1.2.2.2.1 0 7 (by decide +kernel)).trans rfl
  have f0_7 : η1 0 7 = η 0 7 := v16
  have v17 : zEq (η1 0 6) (η 0 6) := (k1.1.2.2.2.1 0 6 (by decide +kernel)).trans rfl
  have f0_6 : η1 0 6 = η 0 6 := v17
  have v18 : zEq (η1 0 8) (η 0 8) := (k1.1.2.2.2.1 0 8 (by decide +kernel)).trans rfl
  have f0_8 : η1 0 8 = η 0 8 := v18
  exact ⟨k1.2.1, show η1 0 45 = 1 by apply Int.le_antisymm <;> omega⟩
set_option maxHeartbeats 8000000 in
theorem zl_sumRead_o6 {ro : Nat → List Int32} (xs : List Int) (η0 : zE) (hp : sP wl_l zTr zPl_sumRead xs η0) (hpp : pPl_sumRead xs η0) (η : zE) (hI : zsI wl_l zTr zVl_sumRead zMl_sumRead η0 0 [] η) (hig : iCl_sumRead xs η0 0 [] η) : ∀ (x1 : Int) (η1 : zE), ((gC2 wl_l [(nat_lit 0, zPl_isSign, zOl_isSign, zMl_isSign), (nat_lit 1, zPl_leafRead, zOl_leafRead, zMl_leafRead), (nat_lit 2, zPl_signs, zOl_signs, zMl_signs), (nat_lit 3, zPl_bind, zOl_bind, zMl_bind)] pCl_sumRead qCl_sumRead) 0).2 [59] η x1 η1 → (¬ x1 = 0) → ∀ x2 : Int, x2 = η1 0 (Int.toNat 45) → zok 1 x2 → (¬ x2 = 0) → ∀ x3 : Int, x3 = η1 0 (Int.toNat 45) → zok 1 x3 → (¬ x3 = 0) → ∀ (x4 : Int) (η2 : zE), ((gC2 wl_l [(nat_lit 0, zPl_isSign, zOl_isSign, zMl_isSign), (nat_lit 1, zPl_leafRead, zOl_leafRead, zMl_leafRead), (nat_lit 2, zPl_signs, zOl_signs, zMl_signs), (nat_lit 3, zPl_bind, zOl_bind, zMl_bind)] pCl_sumRead qCl_sumRead) 1).2 [] η1 x4 η2 → (x4 = 0) → (fun (_ : Nat) (y : Int) (η' : zE) => pQl_sumRead xs η0 y η') 0 0 η2 := by
  intro x1 η1 h1 c1 x2 e2 r2 c2 x3 e3 r3 c3 x4 η2 h4 c4
  have k1 : sQ wl_l zTr zOl_isSign zMl_isSign [59] η x1 η1 ∧ pQl_isSign [59] η x1 η1 := h1
  have k4 : sQ wl_l zTr zOl_leafRead zMl_leafRead [] η1 x4 η2 ∧ pQl_leafRead [] η1 x4 η2 := h4
  exact ⟨k4.2.1, fun w => absurd rfl w⟩
set_option maxHeartbeats 8000000 in
theorem zl_sumRead_o7 {ro : Nat → List Int32} (xs : List Int) (η0 : zE) (hp : sP wl_l zTr zPl_sumRead xs η0) (hpp : pPl_sumRead xs η0) (η : zE) (hI : zsI wl_l zTr zVl_sumRead zMl_sumRead η0 0 [] η) (hig : iCl_sumRead xs η0 0 [] η) : ∀ (x1 : Int) (η1 : zE), ((gC2 wl_l [(nat_lit 0, zPl_isSign, zOl_isSign, zMl_isSign), (nat_lit 1, zPl_leafRead, zOl_leafRead, zMl_leafRead), (nat_lit 2, zPl_signs, zOl_signs, zMl_signs), (nat_lit 3, zPl_bind, zOl_bind, zMl_bind)] pCl_sumRead qCl_sumRead) 0).2 [59] η x1 η1 → (¬ x1 = 0) → ∀ x2 : Int, x2 = η1 0 (Int.toNat 45) → zok 1 x2 → (x2 = 0) → ∀ x3 : Int, x3 = η1 0 (Int.toNat 43) → zok 0 x3 → (x3 ≤ 0) → ((gC2 wl_l [(nat_lit 0, zPl_isSign, zOl_isSign, zMl_isSign), (nat_lit 1, zPl_leafRead, zOl_leafRead, zMl_leafRead), (nat_lit 2, zPl_signs, zOl_signs, zMl_signs), (nat_lit 3, zPl_bind, zOl_bind, zMl_bind)] pCl_sumRead qCl_sumRead) 3).1 [1] η1 := by
  have hs : η 0 7 ≤ η 0 6 := hig.1.1.1.1
  have hk1 : η 0 45 = 0 → 1 ≤ η 0 19 := hig.2.1
  have hm : 10 * (η 0 6 - η 0 7) + η 0 8 ≤ 10 * (η0 0 6 - η0 0 7) + η0 0 8 := hig.2.2
  have bd43 : (0 : Int) ≤ η 0 43 ∧ η 0 43 ≤ 8 := wf_ok (a := 43) (b := 43) (z := (0, 8)) hI.1.1 (by decide +kernel) (Nat.le_refl _) (Nat.le_refl _)
  have bd44 : (0 : Int) ≤ η 0 44 ∧ η 0 44 ≤ 64 := wf_ok (a := 44) (b := 44) (z := (0, 64)) hI.1.1 (by decide +kernel) (Nat.le_refl _) (Nat.le_refl _)
  have bd19 : (0 : Int) ≤ η 0 19 ∧ η 0 19 ≤ 64 := wf_ok (a := 19) (b := 19) (z := (0, 64)) hI.1.1 (by decide +kernel) (Nat.le_refl _) (Nat.le_refl _)
  intro x1 η1 h1 c1 x2 e2 r2 c2 x3 e3 r3 c3
  have k1 : sQ wl_l zTr zOl_isSign zMl_isSign [59] η x1 η1 ∧ pQl_isSign [59] η x1 η1 := h1
  have c0_0_41 : η 0 41 = η 0 41 := rfl
  have w0_0_43 : (0 : Int) ≤ η 0 43 ∧ η 0 43 ≤ 8 := wf_ok (a := 43) (b := 43) (z := (0, 8)) hI.1.1 (by decide +kernel) (Nat.le_refl _) (Nat.le_refl _)
  have c0_0_43 : η 0 43 = η 0 43 := rfl
  have c0_0_42 : η 0 42 = η 0 42 := rfl
  have c0_0_45 : η 0 45 = η 0 45 := rfl
  have w0_0_19 : (0 : Int) ≤ η 0 19 ∧ η 0 19 ≤ 64 := wf_ok (a := 19) (b := 19) (z := (0, 64)) hI.1.1 (by decide +kernel) (Nat.le_refl _) (Nat.le_refl _)
  have c0_0_19 : η 0 19 = η 0 19 := rfl
  have w0_0_44 : (0 : Int) ≤ η 0 44 ∧ η 0 44 ≤ 64 := wf_ok (a := 44) (b := 44) (z := (0, 64)) hI.1.1 (by decide +kernel) (Nat.le_refl _) (Nat.le_refl _)
  have c0_0_44 : η 0 44 = η 0 44 := rfl
  have w0_0_7 : (0 : Int) ≤ η 0 7 ∧ η 0 7 ≤ 700 := wf_ok (a := 7) (b := 7) (z := (0, 700)) hI.1.1 (by decide +kernel) (Nat.le_refl _) (Nat.le_refl _)
  have c0_0_7 : η 0 7 = η 0 7 := rfl
  have w0_0_6 : (0 : Int) ≤ η 0 6 ∧ η 0 6 ≤ 700 := wf_ok (a := 6) (b := 6) (z := (0, 700)) hI.1.1 (by decide +kernel) (Nat.le_refl _) (Nat.le_refl _)
  have c0_0_6 : η 0 6 = η 0 6 := rfl
  have w0_0_8 : (0 : Int) ≤ η 0 8 ∧ η 0 8 ≤ 6 := wf_ok (a := 8) (b := 8) (z := (0, 6)) hI.1.1 (by decide +kernel) (Nat.le_refl _) (Nat.le_refl _)
  have c0_0_8 : η 0 8 = η 0 8 := rfl
  have bx1 : (0 : Int) ≤ x1 ∧ x1 ≤ 1 := k1.1.2.1
  have v9 : zEq (η1 0 45) (η 0 45) := (k1.1.2.2.2.1 0 45 (by decide +kernel)).trans rfl
  replace e2 : x2 = η 0 45 := e2.trans v9
  replace r2 : 0 ≤ x2 ∧ x2 ≤ 1 := r2
  have v10 : zEq (η1 0 43) (η 0 43) := (k1.1.2.2.2.1 0 43 (by decide +kernel)).trans rfl
  replace e3 : x3 = η 0 43 := e3.trans v10
  have fm1 : zFm zMl_sumRead η0 η1 := zFm_tr2 hI.2 k1.1.2.2.2.1 (by decide +kernel)
  have fmE : zFm zMl_sumRead η0 η1 := fm1
  have fr22_0 : ∀ j, η 22 j = η 22 j := fun _ => rfl
  have v11 : ∀ j, η1 22 j = η 22 j := fun j => k1.1.2.2.2.1 22 _ (zinr_not (by decide +kernel))
  have fr22_1 : ∀ j, η1 22 j = η 22 j := v11
  have fr22 : ∀ j, η1 22 j = η 22 j := v11
  have v12 : zEq (η1 0 41) (η 0 41) := (k1.1.2.2.2.1 0 41 (by decide +kernel)).trans rfl
  have f0_41 : η1 0 41 = η 0 41 := v12
  have f0_43 : η1 0 43 = η 0 43 := v10
  have v13 : zEq (η1 0 42) (η 0 42) := (k1.1.2.2.2.1 0 42 (by decide +kernel)).trans rfl
  have f0_42 : η1 0 42 = η 0 42 := v13
  have f0_45 : η1 0 45 = η 0 45 := v9
  have v14 : zEq (η1 0 19) (η 0 19) := (k1.1.2.2.2.1 0 19 (by decide +kernel)).trans rfl
  have f0_19 : η1 0 19 = η 0 19 := v14
  have v15 : zEq (η1 0 44) (η 0 44) := (k1.1.2.2.2.1 0 44 (by decide +kernel)).trans rfl
  have f0_44 : η1 0 44 = η 0 44 := v15
  have v16 : zEq (η1 0 7) (η 0 7) := (k1.1.2.2.2.1 0 7 (by decide +kernel)).trans rfl
  have f0_7 : η1 0 7 = η 0 7 := v16
  have v17 : zEq (η1 0 6) (η 0 6) := (k1.1.2.2.2.1 0 6 (by decide +kernel)).trans rfl
  have f0_6 : η1 0 6 = η 0 6 := v17
  have v18 : zEq (η1 0 8) (η 0 8) := (k1.1.2.2.2.1 0 8 (by decide +kernel)).trans rfl
  have f0_8 : η1 0 8 = η 0 8 := v18
  exact ⟨k1.2.1, show η1 0 45 = 0 by apply Int.le_antisymm <;> omega⟩
set_option maxHeartbeats 8000000 in
theorem zl_sumRead_o8 {ro : Nat → List Int32} (xs : List Int) (η0 : zE) (hp : sP wl_l zTr zPl_sumRead xs η0) (hpp : pPl_sumRead xs η0) (η : zE) (hI : zsI wl_l zTr zVl_sumRead zMl_sumRead η0 0 [] η) (hig : iCl_sumRead xs η0 0 [] η) : ∀ (x1 : Int) (η1 : zE), ((gC2 wl_l [(nat_lit 0, zPl_isSign, zOl_isSign, zMl_isSign), (nat_lit 1, zPl_leafRead, zOl_leafRead, zMl_leafRead), (nat_lit 2, zPl_signs, zOl_signs, zMl_signs), (nat_lit 3, zPl_bind, zOl_bind, zMl_bind)] pCl_sumRead qCl_sumRead) 0).2 [59] η x1 η1 → (¬ x1 = 0) → ∀ x2 : Int, x2 = η1 0 (Int.toNat 45) → zok 1 x2 → (x2 = 0) → ∀ x3 : Int, x3 = η1 0 (Int.toNat 43) → zok 0 x3 → (x3 ≤ 0) → ∀ (x4 : Int) (η2 : zE), ((gC2 wl_l [(nat_lit 0, zPl_isSign, zOl_isSign, zMl_isSign), (nat_lit 1, zPl_leafRead, zOl_leafRead, zMl_leafRead), (nat_lit 2, zPl_signs, zOl_signs, zMl_signs), (nat_lit 3, zPl_bind, zOl_bind, zMl_bind)] pCl_sumRead qCl_sumRead) 3).2 [1] η1 x4 η2 → (fun (_ : Nat) (y : Int) (η' : zE) => pQl_sumRead xs η0 y η') 0 1 η2 := by
  have hs : η 0 7 ≤ η 0 6 := hig.1.1.1.1
  have hk1 : η 0 45 = 0 → 1 ≤ η 0 19 := hig.2.1
  have hm : 10 * (η 0 6 - η 0 7) + η 0 8 ≤ 10 * (η0 0 6 - η0 0 7) + η0 0 8 := hig.2.2
  have bd43 : (0 : Int) ≤ η 0 43 ∧ η 0 43 ≤ 8 := wf_ok (a := 43) (b := 43) (z := (0, 8)) hI.1.1 (by decide +kernel) (Nat.le_refl _) (Nat.le_refl _)
  have bd44 : (0 : Int) ≤ η 0 44 ∧ η 0 44 ≤ 64 := wf_ok (a := 44) (b := 44) (z := (0, 64)) hI.1.1 (by decide +kernel) (Nat.le_refl _) (Nat.le_refl _)
  have bd19 : (0 : Int) ≤ η 0 19 ∧ η 0 19 ≤ 64 := wf_ok (a := 19) (b := 19) (z := (0, 64)) hI.1.1 (by decide +kernel) (Nat.le_refl _) (Nat.le_refl _)
  intro x1 η1 h1 c1 x2 e2 r2 c2 x3 e3 r3 c3 x4 η2 h4
  have k1 : sQ wl_l zTr zOl_isSign zMl_isSign [59] η x1 η1 ∧ pQl_isSign [59] η x1 η1 := h1
  have k4 : sQ wl_l zTr zOl_bind zMl_bind [1] η1 x4 η2 ∧ pQl_bind [1] η1 x4 η2 := h4
  have c0_0_41 : η 0 41 = η 0 41 := rfl
  have w0_0_43 : (0 : Int) ≤ η 0 43 ∧ η 0 43 ≤ 8 := wf_ok (a := 43) (b := 43) (z := (0, 8)) hI.1.1 (by decide +kernel) (Nat.le_refl _) (Nat.le_refl _)
  have c0_0_43 : η 0 43 = η 0 43 := rfl
  have c0_0_42 : η 0 42 = η 0 42 := rfl
  have c0_0_45 : η 0 45 = η 0 45 := rfl
  have w0_0_19 : (0 : Int) ≤ η 0 19 ∧ η 0 19 ≤ 64 := wf_ok (a := 19) (b := 19) (z := (0, 64)) hI.1.1 (by decide +kernel) (Nat.le_refl _) (Nat.le_refl _)
  have c0_0_19 : η 0 19 = η 0 19 := rfl
  have w0_0_44 : (0 : Int) ≤ η 0 44 ∧ η 0 44 ≤ 64 := wf_ok (a := 44) (b := 44) (z := (0, 64)) hI.1.1 (by decide +kernel) (Nat.le_refl _) (Nat.le_refl _)
  have c0_0_44 : η 0 44 = η 0 44 := rfl
  have w0_0_7 : (0 : Int) ≤ η 0 7 ∧ η 0 7 ≤ 700 := wf_ok (a := 7) (b := 7) (z := (0, 700)) hI.1.1 (by decide +kernel) (Nat.le_refl _) (Nat.le_refl _)
  have c0_0_7 : η 0 7 = η 0 7 := rfl
  have w0_0_6 : (0 : Int) ≤ η 0 6 ∧ η 0 6 ≤ 700 := wf_ok (a := 6) (b := 6) (z := (0, 700)) hI.1.1 (by decide +kernel) (Nat.le_refl _) (Nat.le_refl _)
  have c0_0_6 : η 0 6 = η 0 6 := rfl
  have w0_0_8 : (0 : Int) ≤ η 0 8 ∧ η 0 8 ≤ 6 := wf_ok (a := 8) (b := 8) (z := (0, 6)) hI.1.1 (by decide +kernel) (Nat.le_refl _) (Nat.le_refl _)
  have c0_0_8 : η 0 8 = η 0 8 := rfl
  have bx1 : (0 : Int) ≤ x1 ∧ x1 ≤ 1 := k1.1.2.1
  have v9 : zEq (η1 0 45) (η 0 45) := (k1.1.2.2.2.1 0 45 (by decide +kernel)).trans rfl
  replace e2 : x2 = η 0 45 := e2.trans v9
  replace r2 : 0 ≤ x2 ∧ x2 ≤ 1 := r2
  have v10 : zEq (η1 0 43) (η 0 43) := (k1.1.2.2.2.1 0 43 (by decide +kernel)).trans rfl
  replace e3 : x3 = η 0 43 := e3.trans v10
  have v11 : zEq (η1 0 41) (η 0 41) := (k1.1.2.2.2.1 0 41 (by decide +kernel)).trans rfl
  have c1_0_41 : η1 0 41 = η 0 41 := v11
  have c1_0_43 : η1 0 43 = η 0 43 := v10
  have v12 : zEq (η1 0 42) (η 0 42) := (k1.1.2.2.2.1 0 42 (by decide +kernel)).trans rfl
  have c1_0_42 : η1 0 42 = η 0 42 := v12
  have c1_0_45 : η1 0 45 = η 0 45 := v9
  have v13 : zEq (η1 0 19) (η 0 19) := (k1.1.2.2.2.1 0 19 (by decide +kernel)).trans rfl
  have c1_0_19 : η1 0 19 = η 0 19 := v13
  have v14 : zEq (η1 0 44) (η 0 44) := (k1.1.2.2.2.1 0 44 (by decide +kernel)).trans rfl
  have c1_0_44 : η1 0 44 = η 0 44 := v14
  have v15 : zEq (η1 0 7) (η 0 7) := (k1.1.2.2.2.1 0 7 (by decide +kernel)).trans rfl
  have c1_0_7 : η1 0 7 = η 0 7 := v15
  have v16 : zEq (η1 0 6) (η 0 6) := (k1.1.2.2.2.1 0 6 (by decide +kernel)).trans rfl
  have c1_0_6 : η1 0 6 = η 0 6 := v16
  have v17 : zEq (η1 0 8) (η 0 8) := (k1.1.2.2.2.1 0 8 (by decide +kernel)).trans rfl
  have c1_0_8 : η1 0 8 = η 0 8 := v17
  have bx4 : (0 : Int) ≤ x4 ∧ x4 ≤ 0 := k4.1.2.1
  have fm1 : zFm zMl_sumRead η0 η1 := zFm_tr2 hI.2 k1.1.2.2.2.1 (by decide +kernel)
  have fm2 : zFm zMl_sumRead η0 η2 := zFm_tr2 fm1 k4.1.2.2.2.1 (by decide +kernel)
  have fmE : zFm zMl_sumRead η0 η2 := fm2
  have fr22_0 : ∀ j, η 22 j = η 22 j := fun _ => rfl
  have v18 : ∀ j, η1 22 j = η 22 j := fun j => k1.1.2.2.2.1 22 _ (zinr_not (by decide +kernel))
  have fr22_1 : ∀ j, η1 22 j = η 22 j := v18
  have v19 : ∀ j, η2 22 j = η 22 j := fun j => (k4.1.2.2.2.1 22 _ (zinr_not (by decide +kernel))).trans (v18 j)
  have fr22_2 : ∀ j, η2 22 j = η 22 j := v19
  have fr22 : ∀ j, η2 22 j = η 22 j := v19
  have f0_41 : η2 0 41 = η2 0 41 := rfl
  have v21 : zEq (η2 0 43) (η 0 43) := (k4.1.2.2.2.1 0 43 (by decide +kernel)).trans v10
  have f0_43 : η2 0 43 = η 0 43 := v21
  have f0_42 : η2 0 42 = η2 0 42 := rfl
  have v23 : zEq (η2 0 45) (η 0 45) := (k4.1.2.2.2.1 0 45 (by decide +kernel)).trans v9
  have f0_45 : η2 0 45 = η 0 45 := v23
  have w2_0_19 : (0 : Int) ≤ η2 0 19 ∧ η2 0 19 ≤ 64 := wf_ok (a := 19) (b := 19) (z := (0, 64)) k4.1.1 (by decide +kernel) (Nat.le_refl _) (Nat.le_refl _)
  have f0_19 : η2 0 19 = η2 0 19 := rfl
  have v25 : zEq (η2 0 44) (η 0 44) := (k4.1.2.2.2.1 0 44 (by decide +kernel)).trans v14
  have f0_44 : η2 0 44 = η 0 44 := v25
  have v26 : zEq (η2 0 7) (η 0 7) := (k4.1.2.2.2.1 0 7 (by decide +kernel)).trans v15
  have f0_7 : η2 0 7 = η 0 7 := v26
  have v27 : zEq (η2 0 6) (η 0 6) := (k4.1.2.2.2.1 0 6 (by decide +kernel)).trans v16
  have f0_6 : η2 0 6 = η 0 6 := v27
  have v28 : zEq (η2 0 8) (η 0 8) := (k4.1.2.2.2.1 0 8 (by decide +kernel)).trans v17
  have f0_8 : η2 0 8 = η 0 8 := v28
  obtain ⟨j1, j2, j3, j4⟩ := k4.2.1.2
  have qb : η1 0 19 ≤ η2 0 19 := k4.2.2.2
  have w0 : η2 0 41 = 0 := by
    rcases k4.2.2.1 rfl with h | h
    · exact h
    · by_cases q : η2 0 41 = 0
      · exact q
      · exfalso
        have cp := cz_pop0 (η := η2) (w := η2 0 41) (by omega) h
        have cn := cz_n (η := η2) (η2 0 41 - 1).toNat
        omega
  have cn := cz_n (η := η2) (η2 0 41).toNat
  exact ⟨k4.2.1.1, fun _ => ⟨show η2 0 19 = η2 0 44 by apply Int.le_antisymm <;> omega, show 1 ≤ η2 0 19 by omega, show 10 * (η2 0 6 - η2 0 7) + η2 0 8 ≤ 10 * (η0 0 6 - η0 0 7) + η0 0 8 by omega⟩⟩
set_option maxHeartbeats 8000000 in
theorem zl_sumRead_o9 {ro : Nat → List Int32} (xs : List Int) (η0 : zE) (hp : sP wl_l zTr zPl_sumRead xs η0) (hpp : pPl_sumRead xs η0) (η : zE) (hI : zsI wl_l zTr zVl_sumRead zMl_sumRead η0 0 [] η) (hig : iCl_sumRead xs η0 0 [] η) : ∀ (x1 : Int) (η1 : zE), ((gC2 wl_l [(nat_lit 0, zPl_isSign, zOl_isSign, zMl_isSign), (nat_lit 1, zPl_leafRead, zOl_leafRead, zMl_leafRead), (nat_lit 2, zPl_signs, zOl_signs, zMl_signs), (nat_lit 3, zPl_bind, zOl_bind, zMl_bind)] pCl_sumRead qCl_sumRead) 0).2 [59] η x1 η1 → (¬ x1 = 0) → ∀ x2 : Int, x2 = η1 0 (Int.toNat 45) → zok 1 x2 → (x2 = 0) → ∀ x3 : Int, x3 = η1 0 (Int.toNat 43) → zok 0 x3 → (0 < x3) → ∀ x4 : Int, x4 = η1 0 (Int.toNat 45) → zok 1 x4 → (x4 = 0) → ((gC2 wl_l [(nat_lit 0, zPl_isSign, zOl_isSign, zMl_isSign), (nat_lit 1, zPl_leafRead, zOl_leafRead, zMl_leafRead), (nat_lit 2, zPl_signs, zOl_signs, zMl_signs), (nat_lit 3, zPl_bind, zOl_bind, zMl_bind)] pCl_sumRead qCl_sumRead) 2).1 [] η1 := by
  have hs : η 0 7 ≤ η 0 6 := hig.1.1.1.1
  have hk1 : η 0 45 = 0 → 1 ≤ η 0 19 := hig.2.1
  have hm : 10 * (η 0 6 - η 0 7) + η 0 8 ≤ 10 * (η0 0 6 - η0 0 7) + η0 0 8 := hig.2.2
  have bd43 : (0 : Int) ≤ η 0 43 ∧ η 0 43 ≤ 8 := wf_ok (a := 43) (b := 43) (z := (0, 8)) hI.1.1 (by decide +kernel) (Nat.le_refl _) (Nat.le_refl _)
  have bd44 : (0 : Int) ≤ η 0 44 ∧ η 0 44 ≤ 64 := wf_ok (a := 44) (b := 44) (z := (0, 64)) hI.1.1 (by decide +kernel) (Nat.le_refl _) (Nat.le_refl _)
  have bd19 : (0 : Int) ≤ η 0 19 ∧ η 0 19 ≤ 64 := wf_ok (a := 19) (b := 19) (z := (0, 64)) hI.1.1 (by decide +kernel) (Nat.le_refl _) (Nat.le_refl _)
  intro x1 η1 h1 c1 x2 e2 r2 c2 x3 e3 r3 c3 x4 e4 r4 c4
  have k1 : sQ wl_l zTr zOl_isSign zMl_isSign [59] η x1 η1 ∧ pQl_isSign [59] η x1 η1 := h1
  have c0_0_41 : η 0 41 = η 0 41 := rfl
  have w0_0_43 : (0 : Int) ≤ η 0 43 ∧ η 0 43 ≤ 8 := wf_ok (a := 43) (b := 43) (z := (0, 8)) hI.1.1 (by decide +kernel) (Nat.le_refl _) (Nat.le_refl _)
  have c0_0_43 : η 0 43 = η 0 43 := rfl
  have c0_0_42 : η 0 42 = η 0 42 := rfl
  have c0_0_45 : η 0 45 = η 0 45 := rfl
  have w0_0_19 : (0 : Int) ≤ η 0 19 ∧ η 0 19 ≤ 64 := wf_ok (a := 19) (b := 19) (z := (0, 64)) hI.1.1 (by decide +kernel) (Nat.le_refl _) (Nat.le_refl _)
  have c0_0_19 : η 0 19 = η 0 19 := rfl
  have w0_0_44 : (0 : Int) ≤ η 0 44 ∧ η 0 44 ≤ 64 := wf_ok (a := 44) (b := 44) (z := (0, 64)) hI.1.1 (by decide +kernel) (Nat.le_refl _) (Nat.le_refl _)
  have c0_0_44 : η 0 44 = η 0 44 := rfl
  have w0_0_7 : (0 : Int) ≤ η 0 7 ∧ η 0 7 ≤ 700 := wf_ok (a := 7) (b := 7) (z := (0, 700)) hI.1.1 (by decide +kernel) (Nat.le_refl _) (Nat.le_refl _)
  have c0_0_7 : η 0 7 = η 0 7 := rfl
  have w0_0_6 : (0 : Int) ≤ η 0 6 ∧ η 0 6 ≤ 700 := wf_ok (a := 6) (b := 6) (z := (0, 700)) hI.1.1 (by decide +kernel) (Nat.le_refl _) (Nat.le_refl _)
  have c0_0_6 : η 0 6 = η 0 6 := rfl
  have w0_0_8 : (0 : Int) ≤ η 0 8 ∧ η 0 8 ≤ 6 := wf_ok (a := 8) (b := 8) (z := (0, 6)) hI.1.1 (by decide +kernel) (Nat.le_refl _) (Nat.le_refl _)
  have c0_0_8 : η 0 8 = η 0 8 := rfl
  have bx1 : (0 : Int) ≤ x1 ∧ x1 ≤ 1 := k1.1.2.1
  have v9 : zEq (η1 0 45) (η 0 45) := (k1.1.2.2.2.1 0 45 (by decide +kernel)).trans rfl
  replace e2 : x2 = η 0 45 := e2.trans v9
  replace r2 : 0 ≤ x2 ∧ x2 ≤ 1 := r2
  have v10 : zEq (η1 0 43) (η 0 43) := (k1.1.2.2.2.1 0 43 (by decide +kernel)).trans rfl
  replace e3 : x3 = η 0 43 := e3.trans v10
  replace e4 : x4 = η 0 45 := e4.trans v9
  replace r4 : 0 ≤ x4 ∧ x4 ≤ 1 := r4
  have fm1 : zFm zMl_sumRead η0 η1 := zFm_tr2 hI.2 k1.1.2.2.2.1 (by decide +kernel)
  have fmE : zFm zMl_sumRead η0 η1 := fm1
  have fr22_0 : ∀ j, η 22 j = η 22 j := fun _ => rfl
  have v11 : ∀ j, η1 22 j = η 22 j := fun j => k1.1.2.2.2.1 22 _ (zinr_not (by decide +kernel))
  have fr22_1 : ∀ j, η1 22 j = η 22 j := v11
  have fr22 : ∀ j, η1 22 j = η 22 j := v11
  have v12 : zEq (η1 0 41) (η 0 41) := (k1.1.2.2.2.1 0 41 (by decide +kernel)).trans rfl
  have f0_41 : η1 0 41 = η 0 41 := v12
  have f0_43 : η1 0 43 = η 0 43 := v10
  have v13 : zEq (η1 0 42) (η 0 42) := (k1.1.2.2.2.1 0 42 (by decide +kernel)).trans rfl
  have f0_42 : η1 0 42 = η 0 42 := v13
  have f0_45 : η1 0 45 = η 0 45 := v9
  have v14 : zEq (η1 0 19) (η 0 19) := (k1.1.2.2.2.1 0 19 (by decide +kernel)).trans rfl
  have f0_19 : η1 0 19 = η 0 19 := v14
  have v15 : zEq (η1 0 44) (η 0 44) := (k1.1.2.2.2.1 0 44 (by decide +kernel)).trans rfl
  have f0_44 : η1 0 44 = η 0 44 := v15
  have v16 : zEq (η1 0 7) (η 0 7) := (k1.1.2.2.2.1 0 7 (by decide +kernel)).trans rfl
  have f0_7 : η1 0 7 = η 0 7 := v16
  have v17 : zEq (η1 0 6) (η 0 6) := (k1.1.2.2.2.1 0 6 (by decide +kernel)).trans rfl
  have f0_6 : η1 0 6 = η 0 6 := v17
  have v18 : zEq (η1 0 8) (η 0 8) := (k1.1.2.2.2.1 0 8 (by decide +kernel)).trans rfl
  have f0_8 : η1 0 8 = η 0 8 := v18
  exact ⟨k1.2.1, show η1 0 45 = 0 by apply Int.le_antisymm <;> omega, show 1 ≤ η1 0 19 by omega⟩
set_option maxHeartbeats 8000000 in
theorem zl_sumRead_o10 {ro : Nat → List Int32} (xs : List Int) (η0 : zE) (hp : sP wl_l zTr zPl_sumRead xs η0) (hpp : pPl_sumRead xs η0) (η : zE) (hI : zsI wl_l zTr zVl_sumRead zMl_sumRead η0 0 [] η) (hig : iCl_sumRead xs η0 0 [] η) : ∀ (x1 : Int) (η1 : zE), ((gC2 wl_l [(nat_lit 0, zPl_isSign, zOl_isSign, zMl_isSign), (nat_lit 1, zPl_leafRead, zOl_leafRead, zMl_leafRead), (nat_lit 2, zPl_signs, zOl_signs, zMl_signs), (nat_lit 3, zPl_bind, zOl_bind, zMl_bind)] pCl_sumRead qCl_sumRead) 0).2 [59] η x1 η1 → (¬ x1 = 0) → ∀ x2 : Int, x2 = η1 0 (Int.toNat 45) → zok 1 x2 → (x2 = 0) → ∀ x3 : Int, x3 = η1 0 (Int.toNat 43) → zok 0 x3 → (0 < x3) → ∀ x4 : Int, x4 = η1 0 (Int.toNat 45) → zok 1 x4 → (x4 = 0) → ∀ (x5 : Int) (η2 : zE), ((gC2 wl_l [(nat_lit 0, zPl_isSign, zOl_isSign, zMl_isSign), (nat_lit 1, zPl_leafRead, zOl_leafRead, zMl_leafRead), (nat_lit 2, zPl_signs, zOl_signs, zMl_signs), (nat_lit 3, zPl_bind, zOl_bind, zMl_bind)] pCl_sumRead qCl_sumRead) 2).2 [] η1 x5 η2 → (x5 = 0) → (fun (_ : Nat) (y : Int) (η' : zE) => pQl_sumRead xs η0 y η') 0 0 η2 := by
  intro x1 η1 h1 c1 x2 e2 r2 c2 x3 e3 r3 c3 x4 e4 r4 c4 x5 η2 h5 c5
  have k1 : sQ wl_l zTr zOl_isSign zMl_isSign [59] η x1 η1 ∧ pQl_isSign [59] η x1 η1 := h1
  have k5 : sQ wl_l zTr zOl_signs zMl_signs [] η1 x5 η2 ∧ pQl_signs [] η1 x5 η2 := h5
  exact ⟨k5.2.1, fun w => absurd rfl w⟩
set_option maxHeartbeats 8000000 in
theorem zl_sumRead_o11 {ro : Nat → List Int32} (xs : List Int) (η0 : zE) (hp : sP wl_l zTr zPl_sumRead xs η0) (hpp : pPl_sumRead xs η0) (η : zE) (hI : zsI wl_l zTr zVl_sumRead zMl_sumRead η0 0 [] η) (hig : iCl_sumRead xs η0 0 [] η) : ∀ (x1 : Int) (η1 : zE), ((gC wl_l [(nat_lit 0, zPl_isSign, zOl_isSign, zMl_isSign), (nat_lit 1, zPl_leafRead, zOl_leafRead, zMl_leafRead), (nat_lit 2, zPl_signs, zOl_signs, zMl_signs), (nat_lit 3, zPl_bind, zOl_bind, zMl_bind)] pCl_sumRead qCl_sumRead) 0).2 [59] η x1 η1 → (x1 = 0) → ∀ x2 : Int, x2 = η1 0 (Int.toNat 45) → zok 1 x2 → (x2 = 0) → ∀ (x3 : Int) (η2 : zE), ((gC wl_l [(nat_lit 0, zPl_isSign, zOl_isSign, zMl_isSign), (nat_lit 1, zPl_leafRead, zOl_leafRead, zMl_leafRead), (nat_lit 2, zPl_signs, zOl_signs, zMl_signs), (nat_lit 3, zPl_bind, zOl_bind, zMl_bind)] pCl_sumRead qCl_sumRead) 2).2 [] η1 x3 η2 → (¬ x3 = 0) → (fun c ys η1 => zsI wl_l zTr zVl_sumRead zMl_sumRead η0 c ys η1 ∧ iCl_sumRead xs η0 c ys η1) 0 [] η2 ∧ (zsM zVl_sumRead) 0 [] η2 < zsM zVl_sumRead 0 [] η := by
  have hs : η 0 7 ≤ η 0 6 := hig.1.1.1.1
  have hk1 : η 0 45 = 0 → 1 ≤ η 0 19 := hig.2.1
  have hm : 10 * (η 0 6 - η 0 7) + η 0 8 ≤ 10 * (η0 0 6 - η0 0 7) + η0 0 8 := hig.2.2
  have bd43 : (0 : Int) ≤ η 0 43 ∧ η 0 43 ≤ 8 := wf_ok (a := 43) (b := 43) (z := (0, 8)) hI.1.1 (by decide +kernel) (Nat.le_refl _) (Nat.le_refl _)
  have bd44 : (0 : Int) ≤ η 0 44 ∧ η 0 44 ≤ 64 := wf_ok (a := 44) (b := 44) (z := (0, 64)) hI.1.1 (by decide +kernel) (Nat.le_refl _) (Nat.le_refl _)
  have bd19 : (0 : Int) ≤ η 0 19 ∧ η 0 19 ≤ 64 := wf_ok (a := 19) (b := 19) (z := (0, 64)) hI.1.1 (by decide +kernel) (Nat.le_refl _) (Nat.le_refl _)
  intro x1 η1 h1 c1 x2 e2 r2 c2 x3 η2 h3 c3
  have k1 : sQ wl_l zTr zOl_isSign zMl_isSign [59] η x1 η1 ∧ pQl_isSign [59] η x1 η1 := h1
  have k3 : sQ wl_l zTr zOl_signs zMl_signs [] η1 x3 η2 ∧ pQl_signs [] η1 x3 η2 := h3
  have c0_0_41 : η 0 41 = η 0 41 := rfl
  have w0_0_43 : (0 : Int) ≤ η 0 43 ∧ η 0 43 ≤ 8 := wf_ok (a := 43) (b := 43) (z := (0, 8)) hI.1.1 (by decide +kernel) (Nat.le_refl _) (Nat.le_refl _)
  have c0_0_43 : η 0 43 = η 0 43 := rfl
  have c0_0_42 : η 0 42 = η 0 42 := rfl
  have c0_0_45 : η 0 45 = η 0 45 := rfl
  have w0_0_19 : (0 : Int) ≤ η 0 19 ∧ η 0 19 ≤ 64 := wf_ok (a := 19) (b := 19) (z := (0, 64)) hI.1.1 (by decide +kernel) (Nat.le_refl _) (Nat.le_refl _)
  have c0_0_19 : η 0 19 = η 0 19 := rfl
  have w0_0_44 : (0 : Int) ≤ η 0 44 ∧ η 0 44 ≤ 64 := wf_ok (a := 44) (b := 44) (z := (0, 64)) hI.1.1 (by decide +kernel) (Nat.le_refl _) (Nat.le_refl _)
  have c0_0_44 : η 0 44 = η 0 44 := rfl
  have w0_0_7 : (0 : Int) ≤ η 0 7 ∧ η 0 7 ≤ 700 := wf_ok (a := 7) (b := 7) (z := (0, 700)) hI.1.1 (by decide +kernel) (Nat.le_refl _) (Nat.le_refl _)
  have c0_0_7 : η 0 7 = η 0 7 := rfl
  have w0_0_6 : (0 : Int) ≤ η 0 6 ∧ η 0 6 ≤ 700 := wf_ok (a := 6) (b := 6) (z := (0, 700)) hI.1.1 (by decide +kernel) (Nat.le_refl _) (Nat.le_refl _)
  have c0_0_6 : η 0 6 = η 0 6 := rfl
  have w0_0_8 : (0 : Int) ≤ η 0 8 ∧ η 0 8 ≤ 6 := wf_ok (a := 8) (b := 8) (z := (0, 6)) hI.1.1 (by decide +kernel) (Nat.le_refl _) (Nat.le_refl _)
  have c0_0_8 : η 0 8 = η 0 8 := rfl
  have wb1 : wB wl_l zTr η1 := k1.1.1
  have bx1 : (0 : Int) ≤ x1 ∧ x1 ≤ 1 := k1.1.2.1
  have v9 : zEq (η1 0 45) (η 0 45) := (k1.1.2.2.2.1 0 45 (by decide +kernel)).trans rfl
  replace e2 : x2 = η 0 45 := e2.trans v9
  replace r2 : 0 ≤ x2 ∧ x2 ≤ 1 := r2
  have v10 : zEq (η1 0 41) (η 0 41) := (k1.1.2.2.2.1 0 41 (by decide +kernel)).trans rfl
  have c1_0_41 : η1 0 41 = η 0 41 := v10
  have v11 : zEq (η1 0 43) (η 0 43) := (k1.1.2.2.2.1 0 43 (by decide +kernel)).trans rfl
  have c1_0_43 : η1 0 43 = η 0 43 := v11
  have v12 : zEq (η1 0 42) (η 0 42) := (k1.1.2.2.2.1 0 42 (by decide +kernel)).trans rfl
  have c1_0_42 : η1 0 42 = η 0 42 := v12
  have c1_0_45 : η1 0 45 = η 0 45 := v9
  have v13 : zEq (η1 0 19) (η 0 19) := (k1.1.2.2.2.1 0 19 (by decide +kernel)).trans rfl
  have c1_0_19 : η1 0 19 = η 0 19 := v13
  have v14 : zEq (η1 0 44) (η 0 44) := (k1.1.2.2.2.1 0 44 (by decide +kernel)).trans rfl
  have c1_0_44 : η1 0 44 = η 0 44 := v14
  have v15 : zEq (η1 0 7) (η 0 7) := (k1.1.2.2.2.1 0 7 (by decide +kernel)).trans rfl
  have c1_0_7 : η1 0 7 = η 0 7 := v15
  have v16 : zEq (η1 0 6) (η 0 6) := (k1.1.2.2.2.1 0 6 (by decide +kernel)).trans rfl
  have c1_0_6 : η1 0 6 = η 0 6 := v16
  have v17 : zEq (η1 0 8) (η 0 8) := (k1.1.2.2.2.1 0 8 (by decide +kernel)).trans rfl
  have c1_0_8 : η1 0 8 = η 0 8 := v17
  have wb2 : wB wl_l zTr η2 := k3.1.1
  have bx3 : (0 : Int) ≤ x3 ∧ x3 ≤ 1 := k3.1.2.1
  have fm1 : zFm zMl_sumRead η0 η1 := zFm_tr2 hI.2 k1.1.2.2.2.1 (by decide +kernel)
  have fm2 : zFm zMl_sumRead η0 η2 := zFm_tr2 fm1 k3.1.2.2.2.1 (by decide +kernel)
  have fmE : zFm zMl_sumRead η0 η2 := fm2
  have fr22_0 : ∀ j, η 22 j = η 22 j := fun _ => rfl
  have v18 : ∀ j, η1 22 j = η 22 j := fun j => k1.1.2.2.2.1 22 _ (zinr_not (by decide +kernel))
  have fr22_1 : ∀ j, η1 22 j = η 22 j := v18
  have fr22_2 : ∀ j, η2 22 j = η2 22 j := fun _ => rfl
  have fr22 : ∀ j, η2 22 j = η2 22 j := fun _ => rfl
  have f0_41 : η2 0 41 = η2 0 41 := rfl
  have w2_0_43 : (0 : Int) ≤ η2 0 43 ∧ η2 0 43 ≤ 8 := wf_ok (a := 43) (b := 43) (z := (0, 8)) k3.1.1 (by decide +kernel) (Nat.le_refl _) (Nat.le_refl _)
  have f0_43 : η2 0 43 = η2 0 43 := rfl
  have f0_42 : η2 0 42 = η2 0 42 := rfl
  have f0_45 : η2 0 45 = η2 0 45 := rfl
  have w2_0_19 : (0 : Int) ≤ η2 0 19 ∧ η2 0 19 ≤ 64 := wf_ok (a := 19) (b := 19) (z := (0, 64)) k3.1.1 (by decide +kernel) (Nat.le_refl _) (Nat.le_refl _)
  have f0_19 : η2 0 19 = η2 0 19 := rfl
  have w2_0_44 : (0 : Int) ≤ η2 0 44 ∧ η2 0 44 ≤ 64 := wf_ok (a := 44) (b := 44) (z := (0, 64)) k3.1.1 (by decide +kernel) (Nat.le_refl _) (Nat.le_refl _)
  have f0_44 : η2 0 44 = η2 0 44 := rfl
  have w2_0_7 : (0 : Int) ≤ η2 0 7 ∧ η2 0 7 ≤ 700 := wf_ok (a := 7) (b := 7) (z := (0, 700)) k3.1.1 (by decide +kernel) (Nat.le_refl _) (Nat.le_refl _)
  have f0_7 : η2 0 7 = η2 0 7 := rfl
  have v27 : zEq (η2 0 6) (η 0 6) := (k3.1.2.2.2.1 0 6 (by decide +kernel)).trans v16
  have f0_6 : η2 0 6 = η 0 6 := v27
  have w2_0_8 : (0 : Int) ≤ η2 0 8 ∧ η2 0 8 ≤ 6 := wf_ok (a := 8) (b := 8) (z := (0, 6)) k3.1.1 (by decide +kernel) (Nat.le_refl _) (Nat.le_refl _)
  have f0_8 : η2 0 8 = η2 0 8 := rfl
  have wbE : wB wl_l zTr η2 := wb2
  
  have sc := k3.2.2 c3
  have mu : 10 * (η2 0 6 - η2 0 7) + η2 0 8 < 10 * (η1 0 6 - η1 0 7) + η1 0 8 := sc.2.1
  have hs2 : η2 0 7 ≤ η2 0 6 := sc.1.1.1.1
  exact ⟨⟨⟨⟨wbE, trivial, fun f hf => nomatch hf⟩, fmE⟩, sc.1, sc.2.2, show 10 * (η2 0 6 - η2 0 7) + η2 0 8 ≤ 10 * (η0 0 6 - η0 0 7) + η0 0 8 by omega⟩, by
    show ((0 : Int) + (10 * η2 0 6 + (-10 * η2 0 7 + (1 * η2 0 8 + 0)))).toNat < ((0 : Int) + (10 * η 0 6 + (-10 * η 0 7 + (1 * η 0 8 + 0)))).toNat
    omega⟩
set_option maxHeartbeats 8000000 in
theorem zl_sumRead_o12 {ro : Nat → List Int32} (xs : List Int) (η0 : zE) (hp : sP wl_l zTr zPl_sumRead xs η0) (hpp : pPl_sumRead xs η0) (η : zE) (hI : zsI wl_l zTr zVl_sumRead zMl_sumRead η0 0 [] η) (hig : iCl_sumRead xs η0 0 [] η) : ∀ (x1 : Int) (η1 : zE), ((gC wl_l [(nat_lit 0, zPl_isSign, zOl_isSign, zMl_isSign), (nat_lit 1, zPl_leafRead, zOl_leafRead, zMl_leafRead), (nat_lit 2, zPl_signs, zOl_signs, zMl_signs), (nat_lit 3, zPl_bind, zOl_bind, zMl_bind)] pCl_sumRead qCl_sumRead) 0).2 [59] η x1 η1 → (x1 = 0) → ∀ x2 : Int, x2 = η1 0 (Int.toNat 45) → zok 1 x2 → (¬ x2 = 0) → ∀ (x3 : Int) (η2 : zE), ((gC wl_l [(nat_lit 0, zPl_isSign, zOl_isSign, zMl_isSign), (nat_lit 1, zPl_leafRead, zOl_leafRead, zMl_leafRead), (nat_lit 2, zPl_signs, zOl_signs, zMl_signs), (nat_lit 3, zPl_bind, zOl_bind, zMl_bind)] pCl_sumRead qCl_sumRead) 1).2 [] η1 x3 η2 → (¬ x3 = 0) → (fun c ys η1 => zsI wl_l zTr zVl_sumRead zMl_sumRead η0 c ys η1 ∧ iCl_sumRead xs η0 c ys η1) 0 [] η2 ∧ (zsM zVl_sumRead) 0 [] η2 < zsM zVl_sumRead 0 [] η := by
  have hs : η 0 7 ≤ η 0 6 := hig.1.1.1.1
  have hk1 : η 0 45 = 0 → 1 ≤ η 0 19 := hig.2.1
  have hm : 10 * (η 0 6 - η 0 7) + η 0 8 ≤ 10 * (η0 0 6 - η0 0 7) + η0 0 8 := hig.2.2
  have bd43 : (0 : Int) ≤ η 0 43 ∧ η 0 43 ≤ 8 := wf_ok (a := 43) (b := 43) (z := (0, 8)) hI.1.1 (by decide +kernel) (Nat.le_refl _) (Nat.le_refl _)
  have bd44 : (0 : Int) ≤ η 0 44 ∧ η 0 44 ≤ 64 := wf_ok (a := 44) (b := 44) (z := (0, 64)) hI.1.1 (by decide +kernel) (Nat.le_refl _) (Nat.le_refl _)
  have bd19 : (0 : Int) ≤ η 0 19 ∧ η 0 19 ≤ 64 := wf_ok (a := 19) (b := 19) (z := (0, 64)) hI.1.1 (by decide +kernel) (Nat.le_refl _) (Nat.le_refl _)
  intro x1 η1 h1 c1 x2 e2 r2 c2 x3 η2 h3 c3
  have k1 : sQ wl_l zTr zOl_isSign zMl_isSign [59] η x1 η1 ∧ pQl_isSign [59] η x1 η1 := h1
  have k3 : sQ wl_l zTr zOl_leafRead zMl_leafRead [] η1 x3 η2 ∧ pQl_leafRead [] η1 x3 η2 := h3
  have c0_0_41 : η 0 41 = η 0 41 := rfl
  have w0_0_43 : (0 : Int) ≤ η 0 43 ∧ η 0 43 ≤ 8 := wf_ok (a := 43) (b := 43) (z := (0, 8)) hI.1.1 (by decide +kernel) (Nat.le_refl _) (Nat.le_refl _)
  have c0_0_43 : η 0 43 = η 0 43 := rfl
  have c0_0_42 : η 0 42 = η 0 42 := rfl
  have c0_0_45 : η 0 45 = η 0 45 := rfl
  have w0_0_19 : (0 : Int) ≤ η 0 19 ∧ η 0 19 ≤ 64 := wf_ok (a := 19) (b := 19) (z := (0, 64)) hI.1.1 (by decide +kernel) (Nat.le_refl _) (Nat.le_refl _)
  have c0_0_19 : η 0 19 = η 0 19 := rfl
  have w0_0_44 : (0 : Int) ≤ η 0 44 ∧ η 0 44 ≤ 64 := wf_ok (a := 44) (b := 44) (z := (0, 64)) hI.1.1 (by decide +kernel) (Nat.le_refl _) (Nat.le_refl _)
  have c0_0_44 : η 0 44 = η 0 44 := rfl
  have w0_0_7 : (0 : Int) ≤ η 0 7 ∧ η 0 7 ≤ 700 := wf_ok (a := 7) (b := 7) (z := (0, 700)) hI.1.1 (by decide +kernel) (Nat.le_refl _) (Nat.le_refl _)
  have c0_0_7 : η 0 7 = η 0 7 := rfl
  have w0_0_6 : (0 : Int) ≤ η 0 6 ∧ η 0 6 ≤ 700 := wf_ok (a := 6) (b := 6) (z := (0, 700)) hI.1.1 (by decide +kernel) (Nat.le_refl _) (Nat.le_refl _)
  have c0_0_6 : η 0 6 = η 0 6 := rfl
  have w0_0_8 : (0 : Int) ≤ η 0 8 ∧ η 0 8 ≤ 6 := wf_ok (a := 8) (b := 8) (z := (0, 6)) hI.1.1 (by decide +kernel) (Nat.le_refl _) (Nat.le_refl _)
  have c0_0_8 : η 0 8 = η 0 8 := rfl
  have wb1 : wB wl_l zTr η1 := k1.1.1
  have bx1 : (0 : Int) ≤ x1 ∧ x1 ≤ 1 := k1.1.2.1
  have v9 : zEq (η1 0 45) (η 0 45) := (k1.1.2.2.2.1 0 45 (by decide +kernel)).trans rfl
  replace e2 : x2 = η 0 45 := e2.trans v9
  replace r2 : 0 ≤ x2 ∧ x2 ≤ 1 := r2
  have v10 : zEq (η1 0 41) (η 0 41) := (k1.1.2.2.2.1 0 41 (by decide +kernel)).trans rfl
  have c1_0_41 : η1 0 41 = η 0 41 := v10
  have v11 : zEq (η1 0 43) (η 0 43) := (k1.1.2.2.2.1 0 43 (by decide +kernel)).trans rfl
  have c1_0_43 : η1 0 43 = η 0 43 := v11
  have v12 : zEq (η1 0 42) (η 0 42) := (k1.1.2.2.2.1 0 42 (by decide +kernel)).trans rfl
  have c1_0_42 : η1 0 42 = η 0 42 := v12
  have c1_0_45 : η1 0 45 = η 0 45 := v9
  have v13 : zEq (η1 0 19) (η 0 19) := (k1.1.2.2.2.1 0 19 (by decide +kernel)).trans rfl
  have c1_0_19 : η1 0 19 = η 0 19 := v13
  have v14 : zEq (η1 0 44) (η 0 44) := (k1.1.2.2.2.1 0 44 (by decide +kernel)).trans rfl
  have c1_0_44 : η1 0 44 = η 0 44 := v14
  have v15 : zEq (η1 0 7) (η 0 7) := (k1.1.2.2.2.1 0 7 (by decide +kernel)).trans rfl
  have c1_0_7 : η1 0 7 = η 0 7 := v15
  have v16 : zEq (η1 0 6) (η 0 6) := (k1.1.2.2.2.1 0 6 (by decide +kernel)).trans rfl
  have c1_0_6 : η1 0 6 = η 0 6 := v16
  have v17 : zEq (η1 0 8) (η 0 8) := (k1.1.2.2.2.1 0 8 (by decide +kernel)).trans rfl
  have c1_0_8 : η1 0 8 = η 0 8 := v17
  have wb2 : wB wl_l zTr η2 := k3.1.1
  have bx3 : (0 : Int) ≤ x3 ∧ x3 ≤ 1 := k3.1.2.1
  have fm1 : zFm zMl_sumRead η0 η1 := zFm_tr2 hI.2 k1.1.2.2.2.1 (by decide +kernel)
  have fm2 : zFm zMl_sumRead η0 η2 := zFm_tr2 fm1 k3.1.2.2.2.1 (by decide +kernel)
  have fmE : zFm zMl_sumRead η0 η2 := fm2
  have fr22_0 : ∀ j, η 22 j = η 22 j := fun _ => rfl
  have v18 : ∀ j, η1 22 j = η 22 j := fun j => k1.1.2.2.2.1 22 _ (zinr_not (by decide +kernel))
  have fr22_1 : ∀ j, η1 22 j = η 22 j := v18
  have fr22_2 : ∀ j, η2 22 j = η2 22 j := fun _ => rfl
  have fr22 : ∀ j, η2 22 j = η2 22 j := fun _ => rfl
  have f0_41 : η2 0 41 = η2 0 41 := rfl
  have w2_0_43 : (0 : Int) ≤ η2 0 43 ∧ η2 0 43 ≤ 8 := wf_ok (a := 43) (b := 43) (z := (0, 8)) k3.1.1 (by decide +kernel) (Nat.le_refl _) (Nat.le_refl _)
  have f0_43 : η2 0 43 = η2 0 43 := rfl
  have f0_42 : η2 0 42 = η2 0 42 := rfl
  have f0_45 : η2 0 45 = η2 0 45 := rfl
  have w2_0_19 : (0 : Int) ≤ η2 0 19 ∧ η2 0 19 ≤ 64 := wf_ok (a := 19) (b := 19) (z := (0, 64)) k3.1.1 (by decide +kernel) (Nat.le_refl _) (Nat.le_refl _)
  have f0_19 : η2 0 19 = η2 0 19 := rfl
  have w2_0_44 : (0 : Int) ≤ η2 0 44 ∧ η2 0 44 ≤ 64 := wf_ok (a := 44) (b := 44) (z := (0, 64)) k3.1.1 (by decide +kernel) (Nat.le_refl _) (Nat.le_refl _)
  have f0_44 : η2 0 44 = η2 0 44 := rfl
  have w2_0_7 : (0 : Int) ≤ η2 0 7 ∧ η2 0 7 ≤ 700 := wf_ok (a := 7) (b := 7) (z := (0, 700)) k3.1.1 (by decide +kernel) (Nat.le_refl _) (Nat.le_refl _)
  have f0_7 : η2 0 7 = η2 0 7 := rfl
  have v27 : zEq (η2 0 6) (η 0 6) := (k3.1.2.2.2.1 0 6 (by decide +kernel)).trans v16
  have f0_6 : η2 0 6 = η 0 6 := v27
  have w2_0_8 : (0 : Int) ≤ η2 0 8 ∧ η2 0 8 ≤ 6 := wf_ok (a := 8) (b := 8) (z := (0, 6)) k3.1.1 (by decide +kernel) (Nat.le_refl _) (Nat.le_refl _)
  have f0_8 : η2 0 8 = η2 0 8 := rfl
  have wbE : wB wl_l zTr η2 := wb2
  
  have sc := k3.2.2 c3
  have mu : 10 * (η2 0 6 - η2 0 7) + η2 0 8 < 10 * (η1 0 6 - η1 0 7) + η1 0 8 := sc.2.1
  have hs2 : η2 0 7 ≤ η2 0 6 := sc.1.1.1.1
  exact ⟨⟨⟨⟨wbE, trivial, fun f hf => nomatch hf⟩, fmE⟩, sc.1, sc.2.2, show 10 * (η2 0 6 - η2 0 7) + η2 0 8 ≤ 10 * (η0 0 6 - η0 0 7) + η0 0 8 by omega⟩, by
    show ((0 : Int) + (10 * η2 0 6 + (-10 * η2 0 7 + (1 * η2 0 8 + 0)))).toNat < ((0 : Int) + (10 * η 0 6 + (-10 * η 0 7 + (1 * η 0 8 + 0)))).toNat
    omega⟩
set_option maxHeartbeats 8000000 in
theorem zl_sumRead_o13 {ro : Nat → List Int32} (xs : List Int) (η0 : zE) (hp : sP wl_l zTr zPl_sumRead xs η0) (hpp : pPl_sumRead xs η0) (η : zE) (hI : zsI wl_l zTr zVl_sumRead zMl_sumRead η0 0 [] η) (hig : iCl_sumRead xs η0 0 [] η) : ∀ (x1 : Int) (η1 : zE), ((gC wl_l [(nat_lit 0, zPl_isSign, zOl_isSign, zMl_isSign), (nat_lit 1, zPl_leafRead, zOl_leafRead, zMl_leafRead), (nat_lit 2, zPl_signs, zOl_signs, zMl_signs), (nat_lit 3, zPl_bind, zOl_bind, zMl_bind)] pCl_sumRead qCl_sumRead) 0).2 [59] η x1 η1 → (¬ x1 = 0) → ∀ x2 : Int, x2 = η1 0 (Int.toNat 45) → zok 1 x2 → (¬ x2 = 0) → ∀ x3 : Int, x3 = η1 0 (Int.toNat 45) → zok 1 x3 → (¬ x3 = 0) → ∀ (x4 : Int) (η2 : zE), ((gC wl_l [(nat_lit 0, zPl_isSign, zOl_isSign, zMl_isSign), (nat_lit 1, zPl_leafRead, zOl_leafRead, zMl_leafRead), (nat_lit 2, zPl_signs, zOl_signs, zMl_signs), (nat_lit 3, zPl_bind, zOl_bind, zMl_bind)] pCl_sumRead qCl_sumRead) 1).2 [] η1 x4 η2 → (¬ x4 = 0) → (fun c ys η1 => zsI wl_l zTr zVl_sumRead zMl_sumRead η0 c ys η1 ∧ iCl_sumRead xs η0 c ys η1) 0 [] η2 ∧ (zsM zVl_sumRead) 0 [] η2 < zsM zVl_sumRead 0 [] η := by
  have hs : η 0 7 ≤ η 0 6 := hig.1.1.1.1
  have hk1 : η 0 45 = 0 → 1 ≤ η 0 19 := hig.2.1
  have hm : 10 * (η 0 6 - η 0 7) + η 0 8 ≤ 10 * (η0 0 6 - η0 0 7) + η0 0 8 := hig.2.2
  have bd43 : (0 : Int) ≤ η 0 43 ∧ η 0 43 ≤ 8 := wf_ok (a := 43) (b := 43) (z := (0, 8)) hI.1.1 (by decide +kernel) (Nat.le_refl _) (Nat.le_refl _)
  have bd44 : (0 : Int) ≤ η 0 44 ∧ η 0 44 ≤ 64 := wf_ok (a := 44) (b := 44) (z := (0, 64)) hI.1.1 (by decide +kernel) (Nat.le_refl _) (Nat.le_refl _)
  have bd19 : (0 : Int) ≤ η 0 19 ∧ η 0 19 ≤ 64 := wf_ok (a := 19) (b := 19) (z := (0, 64)) hI.1.1 (by decide +kernel) (Nat.le_refl _) (Nat.le_refl _)
  intro x1 η1 h1 c1 x2 e2 r2 c2 x3 e3 r3 c3 x4 η2 h4 c4
  have k1 : sQ wl_l zTr zOl_isSign zMl_isSign [59] η x1 η1 ∧ pQl_isSign [59] η x1 η1 := h1
  have k4 : sQ wl_l zTr zOl_leafRead zMl_leafRead [] η1 x4 η2 ∧ pQl_leafRead [] η1 x4 η2 := h4
  have c0_0_41 : η 0 41 = η 0 41 := rfl
  have w0_0_43 : (0 : Int) ≤ η 0 43 ∧ η 0 43 ≤ 8 := wf_ok (a := 43) (b := 43) (z := (0, 8)) hI.1.1 (by decide +kernel) (Nat.le_refl _) (Nat.le_refl _)
  have c0_0_43 : η 0 43 = η 0 43 := rfl
  have c0_0_42 : η 0 42 = η 0 42 := rfl
  have c0_0_45 : η 0 45 = η 0 45 := rfl
  have w0_0_19 : (0 : Int) ≤ η 0 19 ∧ η 0 19 ≤ 64 := wf_ok (a := 19) (b := 19) (z := (0, 64)) hI.1.1 (by decide +kernel) (Nat.le_refl _) (Nat.le_refl _)
  have c0_0_19 : η 0 19 = η 0 19 := rfl
  have w0_0_44 : (0 : Int) ≤ η 0 44 ∧ η 0 44 ≤ 64 := wf_ok (a := 44) (b := 44) (z := (0, 64)) hI.1.1 (by decide +kernel) (Nat.le_refl _) (Nat.le_refl _)
  have c0_0_44 : η 0 44 = η 0 44 := rfl
  have w0_0_7 : (0 : Int) ≤ η 0 7 ∧ η 0 7 ≤ 700 := wf_ok (a := 7) (b := 7) (z := (0, 700)) hI.1.1 (by decide +kernel) (Nat.le_refl _) (Nat.le_refl _)
  have c0_0_7 : η 0 7 = η 0 7 := rfl
  have w0_0_6 : (0 : Int) ≤ η 0 6 ∧ η 0 6 ≤ 700 := wf_ok (a := 6) (b := 6) (z := (0, 700)) hI.1.1 (by decide +kernel) (Nat.le_refl _) (Nat.le_refl _)
  have c0_0_6 : η 0 6 = η 0 6 := rfl
  have w0_0_8 : (0 : Int) ≤ η 0 8 ∧ η 0 8 ≤ 6 := wf_ok (a := 8) (b := 8) (z := (0, 6)) hI.1.1 (by decide +kernel) (Nat.le_refl _) (Nat.le_refl _)
  have c0_0_8 : η 0 8 = η 0 8 := rfl
  have wb1 : wB wl_l zTr η1 := k1.1.1
  have bx1 : (0 : Int) ≤ x1 ∧ x1 ≤ 1 := k1.1.2.1
  have v9 : zEq (η1 0 45) (η 0 45) := (k1.1.2.2.2.1 0 45 (by decide +kernel)).trans rfl
  replace e2 : x2 = η 0 45 := e2.trans v9
  replace r2 : 0 ≤ x2 ∧ x2 ≤ 1 := r2
  replace e3 : x3 = η 0 45 := e3.trans v9
  replace r3 : 0 ≤ x3 ∧ x3 ≤ 1 := r3
  have v10 : zEq (η1 0 41) (η 0 41) := (k1.1.2.2.2.1 0 41 (by decide +kernel)).trans rfl
  have c1_0_41 : η1 0 41 = η 0 41 := v10
  have v11 : zEq (η1 0 43) (η 0 43) := (k1.1.2.2.2.1 0 43 (by decide +kernel)).trans rfl
  have c1_0_43 : η1 0 43 = η 0 43 := v11
  have v12 : zEq (η1 0 42) (η 0 42) := (k1.1.2.2.2.1 0 42 (by decide +kernel)).trans rfl
  have c1_0_42 : η1 0 42 = η 0 42 := v12
  have c1_0_45 : η1 0 45 = η 0 45 := v9
  have v13 : zEq (η1 0 19) (η 0 19) := (k1.1.2.2.2.1 0 19 (by decide +kernel)).trans rfl
  have c1_0_19 : η1 0 19 = η 0 19 := v13
  have v14 : zEq (η1 0 44) (η 0 44) := (k1.1.2.2.2.1 0 44 (by decide +kernel)).trans rfl
  have c1_0_44 : η1 0 44 = η 0 44 := v14
  have v15 : zEq (η1 0 7) (η 0 7) := (k1.1.2.2.2.1 0 7 (by decide +kernel)).trans rfl
  have c1_0_7 : η1 0 7 = η 0 7 := v15
  have v16 : zEq (η1 0 6) (η 0 6) := (k1.1.2.2.2.1 0 6 (by decide +kernel)).trans rfl
  have c1_0_6 : η1 0 6 = η 0 6 := v16
  have v17 : zEq (η1 0 8) (η 0 8) := (k1.1.2.2.2.1 0 8 (by decide +kernel)).trans rfl
  have c1_0_8 : η1 0 8 = η 0 8 := v17
  have wb2 : wB wl_l zTr η2 := k4.1.1
  have bx4 : (0 : Int) ≤ x4 ∧ x4 ≤ 1 := k4.1.2.1
  have fm1 : zFm zMl_sumRead η0 η1 := zFm_tr2 hI.2 k1.1.2.2.2.1 (by decide +kernel)
  have fm2 : zFm zMl_sumRead η0 η2 := zFm_tr2 fm1 k4.1.2.2.2.1 (by decide +kernel)
  have fmE : zFm zMl_sumRead η0 η2 := fm2
  have fr22_0 : ∀ j, η 22 j = η 22 j := fun _ => rfl
  have v18 : ∀ j, η1 22 j = η 22 j := fun j => k1.1.2.2.2.1 22 _ (zinr_not (by decide +kernel))
  have fr22_1 : ∀ j, η1 22 j = η 22 j := v18
  have fr22_2 : ∀ j, η2 22 j = η2 22 j := fun _ => rfl
  have fr22 : ∀ j, η2 22 j = η2 22 j := fun _ => rfl
  have f0_41 : η2 0 41 = η2 0 41 := rfl
  have w2_0_43 : (0 : Int) ≤ η2 0 43 ∧ η2 0 43 ≤ 8 := wf_ok (a := 43) (b := 43) (z := (0, 8)) k4.1.1 (by decide +kernel) (Nat.le_refl _) (Nat.le_refl _)
  have f0_43 : η2 0 43 = η2 0 43 := rfl
  have f0_42 : η2 0 42 = η2 0 42 := rfl
  have f0_45 : η2 0 45 = η2 0 45 := rfl
  have w2_0_19 : (0 : Int) ≤ η2 0 19 ∧ η2 0 19 ≤ 64 := wf_ok (a := 19) (b := 19) (z := (0, 64)) k4.1.1 (by decide +kernel) (Nat.le_refl _) (Nat.le_refl _)
  have f0_19 : η2 0 19 = η2 0 19 := rfl
  have w2_0_44 : (0 : Int) ≤ η2 0 44 ∧ η2 0 44 ≤ 64 := wf_ok (a := 44) (b := 44) (z := (0, 64)) k4.1.1 (by decide +kernel) (Nat.le_refl _) (Nat.le_refl _)
  have f0_44 : η2 0 44 = η2 0 44 := rfl
  have w2_0_7 : (0 : Int) ≤ η2 0 7 ∧ η2 0 7 ≤ 700 := wf_ok (a := 7) (b := 7) (z := (0, 700)) k4.1.1 (by decide +kernel) (Nat.le_refl _) (Nat.le_refl _)
  have f0_7 : η2 0 7 = η2 0 7 := rfl
  have v27 : zEq (η2 0 6) (η 0 6) := (k4.1.2.2.2.1 0 6 (by decide +kernel)).trans v16
  have f0_6 : η2 0 6 = η 0 6 := v27
  have w2_0_8 : (0 : Int) ≤ η2 0 8 ∧ η2 0 8 ≤ 6 := wf_ok (a := 8) (b := 8) (z := (0, 6)) k4.1.1 (by decide +kernel) (Nat.le_refl _) (Nat.le_refl _)
  have f0_8 : η2 0 8 = η2 0 8 := rfl
  have wbE : wB wl_l zTr η2 := wb2
  
  have sc := k4.2.2 c4
  have mu : 10 * (η2 0 6 - η2 0 7) + η2 0 8 < 10 * (η1 0 6 - η1 0 7) + η1 0 8 := sc.2.1
  have hs2 : η2 0 7 ≤ η2 0 6 := sc.1.1.1.1
  exact ⟨⟨⟨⟨wbE, trivial, fun f hf => nomatch hf⟩, fmE⟩, sc.1, sc.2.2, show 10 * (η2 0 6 - η2 0 7) + η2 0 8 ≤ 10 * (η0 0 6 - η0 0 7) + η0 0 8 by omega⟩, by
    show ((0 : Int) + (10 * η2 0 6 + (-10 * η2 0 7 + (1 * η2 0 8 + 0)))).toNat < ((0 : Int) + (10 * η 0 6 + (-10 * η 0 7 + (1 * η 0 8 + 0)))).toNat
    omega⟩
set_option maxHeartbeats 8000000 in
theorem zl_sumRead_o14 {ro : Nat → List Int32} (xs : List Int) (η0 : zE) (hp : sP wl_l zTr zPl_sumRead xs η0) (hpp : pPl_sumRead xs η0) (η : zE) (hI : zsI wl_l zTr zVl_sumRead zMl_sumRead η0 0 [] η) (hig : iCl_sumRead xs η0 0 [] η) : ∀ (x1 : Int) (η1 : zE), ((gC wl_l [(nat_lit 0, zPl_isSign, zOl_isSign, zMl_isSign), (nat_lit 1, zPl_leafRead, zOl_leafRead, zMl_leafRead), (nat_lit 2, zPl_signs, zOl_signs, zMl_signs), (nat_lit 3, zPl_bind, zOl_bind, zMl_bind)] pCl_sumRead qCl_sumRead) 0).2 [59] η x1 η1 → (¬ x1 = 0) → ∀ x2 : Int, x2 = η1 0 (Int.toNat 45) → zok 1 x2 → (x2 = 0) → ∀ x3 : Int, x3 = η1 0 (Int.toNat 43) → zok 0 x3 → (0 < x3) → ∀ x4 : Int, x4 = η1 0 (Int.toNat 45) → zok 1 x4 → (x4 = 0) → ∀ (x5 : Int) (η2 : zE), ((gC wl_l [(nat_lit 0, zPl_isSign, zOl_isSign, zMl_isSign), (nat_lit 1, zPl_leafRead, zOl_leafRead, zMl_leafRead), (nat_lit 2, zPl_signs, zOl_signs, zMl_signs), (nat_lit 3, zPl_bind, zOl_bind, zMl_bind)] pCl_sumRead qCl_sumRead) 2).2 [] η1 x5 η2 → (¬ x5 = 0) → (fun c ys η1 => zsI wl_l zTr zVl_sumRead zMl_sumRead η0 c ys η1 ∧ iCl_sumRead xs η0 c ys η1) 0 [] η2 ∧ (zsM zVl_sumRead) 0 [] η2 < zsM zVl_sumRead 0 [] η := by
  have hs : η 0 7 ≤ η 0 6 := hig.1.1.1.1
  have hk1 : η 0 45 = 0 → 1 ≤ η 0 19 := hig.2.1
  have hm : 10 * (η 0 6 - η 0 7) + η 0 8 ≤ 10 * (η0 0 6 - η0 0 7) + η0 0 8 := hig.2.2
  have bd43 : (0 : Int) ≤ η 0 43 ∧ η 0 43 ≤ 8 := wf_ok (a := 43) (b := 43) (z := (0, 8)) hI.1.1 (by decide +kernel) (Nat.le_refl _) (Nat.le_refl _)
  have bd44 : (0 : Int) ≤ η 0 44 ∧ η 0 44 ≤ 64 := wf_ok (a := 44) (b := 44) (z := (0, 64)) hI.1.1 (by decide +kernel) (Nat.le_refl _) (Nat.le_refl _)
  have bd19 : (0 : Int) ≤ η 0 19 ∧ η 0 19 ≤ 64 := wf_ok (a := 19) (b := 19) (z := (0, 64)) hI.1.1 (by decide +kernel) (Nat.le_refl _) (Nat.le_refl _)
  intro x1 η1 h1 c1 x2 e2 r2 c2 x3 e3 r3 c3 x4 e4 r4 c4 x5 η2 h5 c5
  have k1 : sQ wl_l zTr zOl_isSign zMl_isSign [59] η x1 η1 ∧ pQl_isSign [59] η x1 η1 := h1
  have k5 : sQ wl_l zTr zOl_signs zMl_signs [] η1 x5 η2 ∧ pQl_signs [] η1 x5 η2 := h5
  have c0_0_41 : η 0 41 = η 0 41 := rfl
  have w0_0_43 : (0 : Int) ≤ η 0 43 ∧ η 0 43 ≤ 8 := wf_ok (a := 43) (b := 43) (z := (0, 8)) hI.1.1 (by decide +kernel) (Nat.le_refl _) (Nat.le_refl _)
  have c0_0_43 : η 0 43 = η 0 43 := rfl
  have c0_0_42 : η 0 42 = η 0 42 := rfl
  have c0_0_45 : η 0 45 = η 0 45 := rfl
  have w0_0_19 : (0 : Int) ≤ η 0 19 ∧ η 0 19 ≤ 64 := wf_ok (a := 19) (b := 19) (z := (0, 64)) hI.1.1 (by decide +kernel) (Nat.le_refl _) (Nat.le_refl _)
  have c0_0_19 : η 0 19 = η 0 19 := rfl
  have w0_0_44 : (0 : Int) ≤ η 0 44 ∧ η 0 44 ≤ 64 := wf_ok (a := 44) (b := 44) (z := (0, 64)) hI.1.1 (by decide +kernel) (Nat.le_refl _) (Nat.le_refl _)
  have c0_0_44 : η 0 44 = η 0 44 := rfl
  have w0_0_7 : (0 : Int) ≤ η 0 7 ∧ η 0 7 ≤ 700 := wf_ok (a := 7) (b := 7) (z := (0, 700)) hI.1.1 (by decide +kernel) (Nat.le_refl _) (Nat.le_refl _)
  have c0_0_7 : η 0 7 = η 0 7 := rfl
  have w0_0_6 : (0 : Int) ≤ η 0 6 ∧ η 0 6 ≤ 700 := wf_ok (a := 6) (b := 6) (z := (0, 700)) hI.1.1 (by decide +kernel) (Nat.le_refl _) (Nat.le_refl _)
  have c0_0_6 : η 0 6 = η 0 6 := rfl
  have w0_0_8 : (0 : Int) ≤ η 0 8 ∧ η 0 8 ≤ 6 := wf_ok (a := 8) (b := 8) (z := (0, 6)) hI.1.1 (by decide +kernel) (Nat.le_refl _) (Nat.le_refl _)
  have c0_0_8 : η 0 8 = η 0 8 := rfl
  have wb1 : wB wl_l zTr η1 := k1.1.1
  have bx1 : (0 : Int) ≤ x1 ∧ x1 ≤ 1 := k1.1.2.1
  have v9 : zEq (η1 0 45) (η 0 45) := (k1.1.2.2.2.1 0 45 (by decide +kernel)).trans rfl
  replace e2 : x2 = η 0 45 := e2.trans v9
  replace r2 : 0 ≤ x2 ∧ x2 ≤ 1 := r2
  have v10 : zEq (η1 0 43) (η 0 43) := (k1.1.2.2.2.1 0 43 (by decide +kernel)).trans rfl
  replace e3 : x3 = η 0 43 := e3.trans v10
  replace e4 : x4 = η 0 45 := e4.trans v9
  replace r4 : 0 ≤ x4 ∧ x4 ≤ 1 := r4
  have v11 : zEq (η1 0 41) (η 0 41) := (k1.1.2.2.2.1 0 41 (by decide +kernel)).trans rfl
  have c1_0_41 : η1 0 41 = η 0 41 := v11
  have c1_0_43 : η1 0 43 = η 0 43 := v10
  have v12 : zEq (η1 0 42) (η 0 42) := (k1.1.2.2.2.1 0 42 (by decide +kernel)).trans rfl
  have c1_0_42 : η1 0 42 = η 0 42 := v12
  have c1_0_45 : η1 0 45 = η 0 45 := v9
  have v13 : zEq (η1 0 19) (η 0 19) := (k1.1.2.2.2.1 0 19 (by decide +kernel)).trans rfl
  have c1_0_19 : η1 0 19 = η 0 19 := v13
  have v14 : zEq (η1 0 44) (η 0 44) := (k1.1.2.2.2.1 0 44 (by decide +kernel)).trans rfl
  have c1_0_44 : η1 0 44 = η 0 44 := v14
  have v15 : zEq (η1 0 7) (η 0 7) := (k1.1.2.2.2.1 0 7 (by decide +kernel)).trans rfl
  have c1_0_7 : η1 0 7 = η 0 7 := v15
  have v16 : zEq (η1 0 6) (η 0 6) := (k1.1.2.2.2.1 0 6 (by decide +kernel)).trans rfl
  have c1_0_6 : η1 0 6 = η 0 6 := v16
  have v17 : zEq (η1 0 8) (η 0 8) := (k1.1.2.2.2.1 0 8 (by decide +kernel)).trans rfl
  have c1_0_8 : η1 0 8 = η 0 8 := v17
  have wb2 : wB wl_l zTr η2 := k5.1.1
  have bx5 : (0 : Int) ≤ x5 ∧ x5 ≤ 1 := k5.1.2.1
  have fm1 : zFm zMl_sumRead η0 η1 := zFm_tr2 hI.2 k1.1.2.2.2.1 (by decide +kernel)
  have fm2 : zFm zMl_sumRead η0 η2 := zFm_tr2 fm1 k5.1.2.2.2.1 (by decide +kernel)
  have fmE : zFm zMl_sumRead η0 η2 := fm2
  have fr22_0 : ∀ j, η 22 j = η 22 j := fun _ => rfl
  have v18 : ∀ j, η1 22 j = η 22 j := fun j => k1.1.2.2.2.1 22 _ (zinr_not (by decide +kernel))
  have fr22_1 : ∀ j, η1 22 j = η 22 j := v18
  have fr22_2 : ∀ j, η2 22 j = η2 22 j := fun _ => rfl
  have fr22 : ∀ j, η2 22 j = η2 22 j := fun _ => rfl
  have f0_41 : η2 0 41 = η2 0 41 := rfl
  have w2_0_43 : (0 : Int) ≤ η2 0 43 ∧ η2 0 43 ≤ 8 := wf_ok (a := 43) (b := 43) (z := (0, 8)) k5.1.1 (by decide +kernel) (Nat.le_refl _) (Nat.le_refl _)
  have f0_43 : η2 0 43 = η2 0 43 := rfl
  have f0_42 : η2 0 42 = η2 0 42 := rfl
  have f0_45 : η2 0 45 = η2 0 45 := rfl
  have w2_0_19 : (0 : Int) ≤ η2 0 19 ∧ η2 0 19 ≤ 64 := wf_ok (a := 19) (b := 19) (z := (0, 64)) k5.1.1 (by decide +kernel) (Nat.le_refl _) (Nat.le_refl _)
  have f0_19 : η2 0 19 = η2 0 19 := rfl
  have w2_0_44 : (0 : Int) ≤ η2 0 44 ∧ η2 0 44 ≤ 64 := wf_ok (a := 44) (b := 44) (z := (0, 64)) k5.1.1 (by decide +kernel) (Nat.le_refl _) (Nat.le_refl _)
  have f0_44 : η2 0 44 = η2 0 44 := rfl
  have w2_0_7 : (0 : Int) ≤ η2 0 7 ∧ η2 0 7 ≤ 700 := wf_ok (a := 7) (b := 7) (z := (0, 700)) k5.1.1 (by decide +kernel) (Nat.le_refl _) (Nat.le_refl _)
  have f0_7 : η2 0 7 = η2 0 7 := rfl
  have v27 : zEq (η2 0 6) (η 0 6) := (k5.1.2.2.2.1 0 6 (by decide +kernel)).trans v16
  have f0_6 : η2 0 6 = η 0 6 := v27
  have w2_0_8 : (0 : Int) ≤ η2 0 8 ∧ η2 0 8 ≤ 6 := wf_ok (a := 8) (b := 8) (z := (0, 6)) k5.1.1 (by decide +kernel) (Nat.le_refl _) (Nat.le_refl _)
  have f0_8 : η2 0 8 = η2 0 8 := rfl
  have wbE : wB wl_l zTr η2 := wb2
  
  have sc := k5.2.2 c5
  have mu : 10 * (η2 0 6 - η2 0 7) + η2 0 8 < 10 * (η1 0 6 - η1 0 7) + η1 0 8 := sc.2.1
  have hs2 : η2 0 7 ≤ η2 0 6 := sc.1.1.1.1
  exact ⟨⟨⟨⟨wbE, trivial, fun f hf => nomatch hf⟩, fmE⟩, sc.1, sc.2.2, show 10 * (η2 0 6 - η2 0 7) + η2 0 8 ≤ 10 * (η0 0 6 - η0 0 7) + η0 0 8 by omega⟩, by
    show ((0 : Int) + (10 * η2 0 6 + (-10 * η2 0 7 + (1 * η2 0 8 + 0)))).toNat < ((0 : Int) + (10 * η 0 6 + (-10 * η 0 7 + (1 * η 0 8 + 0)))).toNat
    omega⟩
