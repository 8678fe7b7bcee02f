set_option maxHeartbeats 8000000 in
theorem zle_sumRead_o13 {ro : Nat → List Int32} (xs : List Int) (η0 : zE) (hp : sP wl_le zTr zPle_sumRead xs η0) (hpp : pPle_sumRead xs η0) (η : zE) (hI : zsI wl_le zTr zVle_sumRead zMle_sumRead η0 0 [] η) (hig : iCle_sumRead xs η0 0 [] η) : ∀ (x1 : Int) (η1 : zE), ((gC wl_le [(nat_lit 0, zPle_isSign, zOle_isSign, zMle_isSign), (nat_lit 1, zPle_leafRead, zOle_leafRead, zMle_leafRead), (nat_lit 2, zPle_signs, zOle_signs, zMle_signs), (nat_lit 3, zPle_bind, zOle_bind, zMle_bind)] pCle_sumRead qCle_sumRead) 0).2 [59] η x1 η1 → (x1 = 0) → ∀ x2 : Int, x2 = η1 0 (Int.toNat 45) → zok 1 x2 → (¬ x2 = 0) → ∀ (x3 : Int) (η2 : zE), ((gC wl_le [(nat_lit 0, zPle_isSign, zOle_isSign, zMle_isSign), (nat_lit 1, zPle_leafRead, zOle_leafRead, zMle_leafRead), (nat_lit 2, zPle_signs, zOle_signs, zMle_signs), (nat_lit 3, zPle_bind, zOle_bind, zMle_bind)] pCle_sumRead qCle_sumRead) 1).2 [] η1 x3 η2 → (¬ x3 = 0) → (fun c ys η1 => zsI wl_le zTr zVle_sumRead zMle_sumRead η0 c ys η1 ∧ iCle_sumRead xs η0 c ys η1) 0 [] η2 ∧ (zsM zVle_sumRead) 0 [] η2 < zsM zVle_sumRead 0 [] η := by
  have fig := hig.2
  have hig := hig.1
  intro x1 η1 h1 c1 x2 e2 r2 c2 x3 η2 h3 c3
  have y1 : fQle_isSign [59] η x1 η1 := h1.2.2
  have k1 : sQ wl_le zTr zOle_isSign zMle_isSign [59] η x1 η1 ∧ oQle_isSign [59] η x1 η1 := ⟨h1.1, h1.2.1⟩
  have y3 : fQle_leafRead [] η1 x3 η2 := h3.2.2
  have k3 : sQ wl_le zTr zOle_leafRead zMle_leafRead [] η1 x3 η2 ∧ oQle_leafRead [] η1 x3 η2 := ⟨h3.1, h3.2.1⟩
  refine yj_d ?_ ?_
  · have hs : η 0 7 ≤ η 0 6 := hig.1.1.1.1
    have hk1 : η 0 45 = 0 → 1 ≤ η 0 19 := hig.2.1
    have hm : 10 * (η 0 6 - η 0 7) + η 0 8 ≤ 10 * (η0 0 6 - η0 0 7) + η0 0 8 := hig.2.2
    have bd43 : (0 : Int) ≤ η 0 43 ∧ η 0 43 ≤ 8 := wf_ok (a := 43) (b := 43) (z := (0, 8)) hI.1.1 (by decide +kernel) (Nat.le_refl _) (Nat.le_refl _)
    have bd44 : (0 : Int) ≤ η 0 44 ∧ η 0 44 ≤ 64 := wf_ok (a := 44) (b := 44) (z := (0, 64)) hI.1.1 (by decide +kernel) (Nat.le_refl _) (Nat.le_refl _)
    have bd19 : (0 : Int) ≤ η 0 19 ∧ η 0 19 ≤ 64 := wf_ok (a := 19) (b := 19) (z := (0, 64)) hI.1.1 (by decide +kernel) (Nat.le_refl _) (Nat.le_refl _)
    have y1 : fQle_isSign [59] η x1 η1 := h1.2.2
    have k1 : sQ wl_le zTr zOle_isSign zMle_isSign [59] η x1 η1 ∧ oQle_isSign [59] η x1 η1 := ⟨h1.1, h1.2.1⟩
    have y3 : fQle_leafRead [] η1 x3 η2 := h3.2.2
    have k3 : sQ wl_le zTr zOle_leafRead zMle_leafRead [] η1 x3 η2 ∧ oQle_leafRead [] η1 x3 η2 := ⟨h3.1, h3.2.1⟩
    have c0_0_41 : η 0 41 = η 0 41 := rfl
    have w0_0_43 : (0 : Int) ≤ η 0 43 ∧ η 0 43 ≤ 8 := wf_ok (a := 43) (b := 43) (z := (0, 8)) hI.1.1 (by decide +kernel) (Nat.le_refl _) (Nat.le_refl _)
    have c0_0_43 : η 0 43 = η 0 43 := rfl
    have c0_0_42 : η 0 42 = η 0 42 := rfl
    have c0_0_45 : η 0 45 = η 0 45 := rfl
    have w0_0_19 : (0 : Int) ≤ η 0 19 ∧ η 0 19 ≤ 64 := wf_ok (a := 19) (b := 19) (z := (0, 64)) hI.1.1 (by decide +kernel) (Nat.le_refl _) (Nat.le_refl _)
    have c0_0_19 : η 0 19 = η 0 19 := rfl
    have w0_0_44 : (0 : Int) ≤ η 0 44 ∧ η 0 44 ≤ 64 := wf_ok (a := 44) (b := 44) (z := (0, 64)) hI.1.1 (by decide +kernel) (Nat.le_refl _) (Nat.le_refl _)
    have c0_0_44 : η 0 44 = η 0 44 := rfl
    have w0_0_7 : (0 : Int) ≤ η 0 7 ∧ η 0 7 ≤ 700 := wf_ok (a := 7) (b := 7) (z := (0, 700)) hI.1.1 (by decide +kernel) (Nat.le_refl _) (Nat.le_refl _)
    have c0_0_7 : η 0 7 = η 0 7 := rfl
    have w0_0_6 : (0 : Int) ≤ η 0 6 ∧ η 0 6 ≤ 700 := wf_ok (a := 6) (b := 6) (z := (0, 700)) hI.1.1 (by decide +kernel) (Nat.le_refl _) (Nat.le_refl _)
    have c0_0_6 : η 0 6 = η 0 6 := rfl
    have w0_0_8 : (0 : Int) ≤ η 0 8 ∧ η 0 8 ≤ 6 := wf_ok (a := 8) (b := 8) (z := (0, 6)) hI.1.1 (by decide +kernel) (Nat.le_refl _) (Nat.le_refl _)
    have c0_0_8 : η 0 8 = η 0 8 := rfl
    have wb1 : wB wl_le zTr η1 := k1.1.1
    have bx1 : (0 : Int) ≤ x1 ∧ x1 ≤ 1 := k1.1.2.1
    have v9 : zEq (η1 0 45) (η 0 45) := (k1.1.2.2.2.1 0 45 (by decide +kernel)).trans rfl
    replace e2 : x2 = η 0 45 := e2.trans v9
    replace r2 : 0 ≤ x2 ∧ x2 ≤ 1 := r2
    have v10 : zEq (η1 0 41) (η 0 41) := (k1.1.2.2.2.1 0 41 (by decide +kernel)).trans rfl
    have c1_0_41 : η1 0 41 = η 0 41 := v10
    have v11 : zEq (η1 0 43) (η 0 43) := (k1.1.2.2.2.1 0 43 (by decide +kernel)).trans rfl
    have c1_0_43 : η1 0 43 = η 0 43 := v11
    have v12 : zEq (η1 0 42) (η 0 42) := (k1.1.2.2.2.1 0 42 (by decide +kernel)).trans rfl
    have c1_0_42 : η1 0 42 = η 0 42 := v12
    have c1_0_45 : η1 0 45 = η 0 45 := v9
    have v13 : zEq (η1 0 19) (η 0 19) := (k1.1.2.2.2.1 0 19 (by decide +kernel)).trans rfl
    have c1_0_19 : η1 0 19 = η 0 19 := v13
    have v14 : zEq (η1 0 44) (η 0 44) := (k1.1.2.2.2.1 0 44 (by decide +kernel)).trans rfl
    have c1_0_44 : η1 0 44 = η 0 44 := v14
    have v15 : zEq (η1 0 7) (η 0 7) := (k1.1.2.2.2.1 0 7 (by decide +kernel)).trans rfl
    have c1_0_7 : η1 0 7 = η 0 7 := v15
    have v16 : zEq (η1 0 6) (η 0 6) := (k1.1.2.2.2.1 0 6 (by decide +kernel)).trans rfl
    have c1_0_6 : η1 0 6 = η 0 6 := v16
    have v17 : zEq (η1 0 8) (η 0 8) := (k1.1.2.2.2.1 0 8 (by decide +kernel)).trans rfl
    have c1_0_8 : η1 0 8 = η 0 8 := v17
    have wb2 : wB wl_le zTr η2 := k3.1.1
    have bx3 : (0 : Int) ≤ x3 ∧ x3 ≤ 1 := k3.1.2.1
    have fm1 : zFm zMle_sumRead η0 η1 := zFm_tr2 hI.2 k1.1.2.2.2.1 (by decide +kernel)
    have fm2 : zFm zMle_sumRead η0 η2 := zFm_tr2 fm1 k3.1.2.2.2.1 (by decide +kernel)
    have fmE : zFm zMle_sumRead η0 η2 := fm2
    have fr22_0 : ∀ j, η 22 j = η 22 j := fun _ => rfl
    have v18 : ∀ j, η1 22 j = η 22 j := fun j => k1.1.2.2.2.1 22 _ (zinr_not (by decide +kernel))
    have fr22_1 : ∀ j, η1 22 j = η 22 j := v18
    have fr22_2 : ∀ j, η2 22 j = η2 22 j := fun _ => rfl
    have fr22 : ∀ j, η2 22 j = η2 22 j := fun _ => rfl
    have f0_41 : η2 0 41 = η2 0 41 := rfl
    have w2_0_43 : (0 : Int) ≤ η2 0 43 ∧ η2 0 43 ≤ 8 := wf_ok (a := 43) (b := 43) (z := (0, 8)) k3.1.1 (by decide +kernel) (Nat.le_refl _) (Nat.le_refl _)
    have f0_43 : η2 0 43 = η2 0 43 := rfl
    have f0_42 : η2 0 42 = η2 0 42 := rfl
    have f0_45 : η2 0 45 = η2 0 45 := rfl
    have w2_0_19 : (0 : Int) ≤ η2 0 19 ∧ η2 0 19 ≤ 64 := wf_ok (a := 19) (b := 19) (z := (0, 64)) k3.1.1 (by decide +kernel) (Nat.le_refl _) (Nat.le_refl _)
    have f0_19 : η2 0 19 = η2 0 19 := rfl
    have w2_0_44 : (0 : Int) ≤ η2 0 44 ∧ η2 0 44 ≤ 64 := wf_ok (a := 44) (b := 44) (z := (0, 64)) k3.1.1 (by decide +kernel) (Nat.le_refl _) (Nat.le_refl _)
    have f0_44 : η2 0 44 = η2 0 44 := rfl
    have w2_0_7 : (0 : Int) ≤ η2 0 7 ∧ η2 0 7 ≤ 700 := wf_ok (a := 7) (b := 7) (z := (0, 700)) k3.1.1 (by decide +kernel) (Nat.le_refl _) (Nat.le_refl _)
    have f0_7 : η2 0 7 = η2 0 7 := rfl
    have v27 : zEq (η2 0 6) (η 0 6) := (k3.1.2.2.2.1 0 6 (by decide +kernel)).trans v16
    have f0_6 : η2 0 6 = η 0 6 := v27
    have w2_0_8 : (0 : Int) ≤ η2 0 8 ∧ η2 0 8 ≤ 6 := wf_ok (a := 8) (b := 8) (z := (0, 6)) k3.1.1 (by decide +kernel) (Nat.le_refl _) (Nat.le_refl _)
    have f0_8 : η2 0 8 = η2 0 8 := rfl
    have wbE : wB wl_le zTr η2 := wb2
    
    have sc := k3.2.2 c3
    have mu : 10 * (η2 0 6 - η2 0 7) + η2 0 8 < 10 * (η1 0 6 - η1 0 7) + η1 0 8 := sc.2.1
    have hs2 : η2 0 7 ≤ η2 0 6 := sc.1.1.1.1
    exact ⟨⟨⟨⟨wbE, trivial, fun f hf => nomatch hf⟩, fmE⟩, sc.1, sc.2.2, show 10 * (η2 0 6 - η2 0 7) + η2 0 8 ≤ 10 * (η0 0 6 - η0 0 7) + η0 0 8 by omega⟩, by
      show ((0 : Int) + (10 * η2 0 6 + (-10 * η2 0 7 + (1 * η2 0 8 + 0)))).toNat < ((0 : Int) + (10 * η 0 6 + (-10 * η 0 7 + (1 * η 0 8 + 0)))).toNat
      omega⟩
  · have fig : yq_lI η0 η := fig
    obtain ⟨a1, b1⟩ : x1 = yq_isS 59 η ∧ η1 = η := y1
    have e2 : x2 = η1 0 45 := e2
    obtain ⟨a3, b3⟩ : x3 = (yq_lf η1).1 ∧ η2 = (yq_lf η1).2 := y3
    have fig : yq_lI η0 η1 := by rw [b1]; exact fig
    have a1 : x1 = yq_isS 59 η1 := by rw [b1]; exact a1
    have q := qlI_l fig (by omega) (by omega)
    rw [← a3, ← b3] at q
    have mu := (k3.2.2 (by omega)).2.1
    refine q.2 (by omega) ?_
    have hs := (k3.2.2 (by omega)).1.1.1.1
    have w8 : (0 : Int) ≤ η2 0 8 ∧ η2 0 8 ≤ 6 := wf_ok (a := 8) (b := 8) (z := (0, 6)) k3.1.1 (by decide +kernel) (Nat.le_refl _) (Nat.le_refl _)
    unfold yq_mu
    omega
set_option maxHeartbeats 8000000 in
theorem zle_sumRead_o14 {ro : Nat → List Int32} (xs : List Int) (η0 : zE) (hp : sP wl_le zTr zPle_sumRead xs η0) (hpp : pPle_sumRead xs η0) (η : zE) (hI : zsI wl_le zTr zVle_sumRead zMle_sumRead η0 0 [] η) (hig : iCle_sumRead xs η0 0 [] η) : ∀ (x1 : Int) (η1 : zE), ((gC wl_le [(nat_lit 0, zPle_isSign, zOle_isSign, zMle_isSign), (nat_lit 1, zPle_leafRead, zOle_leafRead, zMle_leafRead), (nat_lit 2, zPle_signs, zOle_signs, zMle_signs), (nat_lit 3, zPle_bind, zOle_bind, zMle_bind)] pCle_sumRead qCle_sumRead) 0).2 [59] η x1 η1 → (¬ x1 = 0) → ∀ x2 : Int, x2 = η1 0 (Int.toNat 45) → zok 1 x2 → (¬ x2 = 0) → ∀ x3 : Int, x3 = η1 0 (Int.toNat 45) → zok 1 x3 → (¬ x3 = 0) → ∀ (x4 : Int) (η2 : zE), ((gC wl_le [(nat_lit 0, zPle_isSign, zOle_isSign, zMle_isSign), (nat_lit 1, zPle_leafRead, zOle_leafRead, zMle_leafRead), (nat_lit 2, zPle_signs, zOle_signs, zMle_signs), (nat_lit 3, zPle_bind, zOle_bind, zMle_bind)] pCle_sumRead qCle_sumRead) 1).2 [] η1 x4 η2 → (¬ x4 = 0) → (fun c ys η1 => zsI wl_le zTr zVle_sumRead zMle_sumRead η0 c ys η1 ∧ iCle_sumRead xs η0 c ys η1) 0 [] η2 ∧ (zsM zVle_sumRead) 0 [] η2 < zsM zVle_sumRead 0 [] η := by
  have fig := hig.2
  have hig := hig.1
  intro x1 η1 h1 c1 x2 e2 r2 c2 x3 e3 r3 c3 x4 η2 h4 c4
  have y1 : fQle_isSign [59] η x1 η1 := h1.2.2
  have k1 : sQ wl_le zTr zOle_isSign zMle_isSign [59] η x1 η1 ∧ oQle_isSign [59] η x1 η1 := ⟨h1.1, h1.2.1⟩
  have y4 : fQle_leafRead [] η1 x4 η2 := h4.2.2
  have k4 : sQ wl_le zTr zOle_leafRead zMle_leafRead [] η1 x4 η2 ∧ oQle_leafRead [] η1 x4 η2 := ⟨h4.1, h4.2.1⟩
  refine yj_d ?_ ?_
  · have hs : η 0 7 ≤ η 0 6 := hig.1.1.1.1
    have hk1 : η 0 45 = 0 → 1 ≤ η 0 19 := hig.2.1
    have hm : 10 * (η 0 6 - η 0 7) + η 0 8 ≤ 10 * (η0 0 6 - η0 0 7) + η0 0 8 := hig.2.2
    have bd43 : (0 : Int) ≤ η 0 43 ∧ η 0 43 ≤ 8 := wf_ok (a := 43) (b := 43) (z := (0, 8)) hI.1.1 (by decide +kernel) (Nat.le_refl _) (Nat.le_refl _)
    have bd44 : (0 : Int) ≤ η 0 44 ∧ η 0 44 ≤ 64 := wf_ok (a := 44) (b := 44) (z := (0, 64)) hI.1.1 (by decide +kernel) (Nat.le_refl _) (Nat.le_refl _)
    have bd19 : (0 : Int) ≤ η 0 19 ∧ η 0 19 ≤ 64 := wf_ok (a := 19) (b := 19) (z := (0, 64)) hI.1.1 (by decide +kernel) (Nat.le_refl _) (Nat.le_refl _)
    have y1 : fQle_isSign [59] η x1 η1 := h1.2.2
    have k1 : sQ wl_le zTr zOle_isSign zMle_isSign [59] η x1 η1 ∧ oQle_isSign [59] η x1 η1 := ⟨h1.1, h1.2.1⟩
    have y4 : fQle_leafRead [] η1 x4 η2 := h4.2.2
    have k4 : sQ wl_le zTr zOle_leafRead zMle_leafRead [] η1 x4 η2 ∧ oQle_leafRead [] η1 x4 η2 := ⟨h4.1, h4.2.1⟩
    have c0_0_41 : η 0 41 = η 0 41 := rfl
    have w0_0_43 : (0 : Int) ≤ η 0 43 ∧ η 0 43 ≤ 8 := wf_ok (a := 43) (b := 43) (z := (0, 8)) hI.1.1 (by decide +kernel) (Nat.le_refl _) (Nat.le_refl _)
    have c0_0_43 : η 0 43 = η 0 43 := rfl
    have c0_0_42 : η 0 42 = η 0 42 := rfl
    have c0_0_45 : η 0 45 = η 0 45 := rfl
    have w0_0_19 : (0 : Int) ≤ η 0 19 ∧ η 0 19 ≤ 64 := wf_ok (a := 19) (b := 19) (z := (0, 64)) hI.1.1 (by decide +kernel) (Nat.le_refl _) (Nat.le_refl _)
    have c0_0_19 : η 0 19 = η 0 19 := rfl
    have w0_0_44 : (0 : Int) ≤ η 0 44 ∧ η 0 44 ≤ 64 := wf_ok (a := 44) (b := 44) (z := (0, 64)) hI.1.1 (by decide +kernel) (Nat.le_refl _) (Nat.le_refl _)
    have c0_0_44 : η 0 44 = η 0 44 := rfl
    have w0_0_7 : (0 : Int) ≤ η 0 7 ∧ η 0 7 ≤ 700 := wf_ok (a := 7) (b := 7) (z := (0, 700)) hI.1.1 (by decide +kernel) (Nat.le_refl _) (Nat.le_refl _)
    have c0_0_7 : η 0 7 = η 0 7 := rfl
    have w0_0_6 : (0 : Int) ≤ η 0 6 ∧ η 0 6 ≤ 700 := wf_ok (a := 6) (b := 6) (z := (0, 700)) hI.1.1 (by decide +kernel) (Nat.le_refl _) (Nat.le_refl _)
    have c0_0_6 : η 0 6 = η 0 6 := rfl
    have w0_0_8 : (0 : Int) ≤ η 0 8 ∧ η 0 8 ≤ 6 := wf_ok (a := 8) (b := 8) (z := (0, 6)) hI.1.1 (by decide +kernel) (Nat.le_refl _) (Nat.le_refl _)
    have c0_0_8 : η 0 8 = η 0 8 := rfl
    have wb1 : wB wl_le zTr η1 := k1.1.1
    have bx1 : (0 : Int) ≤ x1 ∧ x1 ≤ 1 := k1.1.2.1
    have v9 : zEq (η1 0 45) (η 0 45) := (k1.1.2.2.2.1 0 45 (by decide +kernel)).trans rfl
    replace e2 : x2 = η 0 45 := e2.trans v9
    replace r2 : 0 ≤ x2 ∧ x2 ≤ 1 := r2
    replace e3 : x3 = η 0 45 := e3.trans v9
    replace r3 : 0 ≤ x3 ∧ x3 ≤ 1 := r3
    have v10 : zEq (η1 0 41) (η 0 41) := (k1.1.2.2.2.1 0 41 (by decide +kernel)).trans rfl
    have c1_0_41 : η1 0 41 = η 0 41 := v10
    have v11 : zEq (η1 0 43) (η 0 43) := (k1.1.2.2.2.1 0 43 (by decide +kernel)).trans rfl
    have c1_0_43 : η1 0 43 = η 0 43 := v11
    have v12 : zEq (η1 0 42) (η 0 42) := (k1.1.2.2.2.1 0 42 (by decide +kernel)).trans rfl
    have c1_0_42 : η1 0 42 = η 0 42 := v12
    have c1_0_45 : η1 0 45 = η 0 45 := v9
    have v13 : zEq (η1 0 19) (η 0 19) := (k1.1.2.2.2.1 0 19 (by decide +kernel)).trans rfl
    have c1_0_19 : η1 0 19 = η 0 19 := v13
    have v14 : zEq (η1 0 44) (η 0 44) := (k1.1.2.2.2.1 0 44 (by decide +kernel)).trans rfl
    have c1_0_44 : η1 0 44 = η 0 44 := v14
    have v15 : zEq (η1 0 7) (η 0 7) := (k1.1.2.2.2.1 0 7 (by decide +kernel)).trans rfl
    have c1_0_7 : η1 0 7 = η 0 7 := v15
    have v16 : zEq (η1 0 6) (η 0 6) := (k1.1.2.2.2.1 0 6 (by decide +kernel)).trans rfl
    have c1_0_6 : η1 0 6 = η 0 6 := v16
    have v17 : zEq (η1 0 8) (η 0 8) := (k1.1.2.2.2.1 0 8 (by decide +kernel)).trans rfl
    have c1_0_8 : η1 0 8 = η 0 8 := v17
    have wb2 : wB wl_le zTr η2 := k4.1.1
    have bx4 : (0 : Int) ≤ x4 ∧ x4 ≤ 1 := k4.1.2.1
    have fm1 : zFm zMle_sumRead η0 η1 := zFm_tr2 hI.2 k1.1.2.2.2.1 (by decide +kernel)
    have fm2 : zFm zMle_sumRead η0 η2 := zFm_tr2 fm1 k4.1.2.2.2.1 (by decide +kernel)
    have fmE : zFm zMle_sumRead η0 η2 := fm2
    have fr22_0 : ∀ j, η 22 j = η 22 j := fun _ => rfl
    have v18 : ∀ j, η1 22 j = η 22 j := fun j => k1.1.2.2.2.1 22 _ (zinr_not (by decide +kernel))
    have fr22_1 : ∀ j, η1 22 j = η 22 j := v18
    have fr22_2 : ∀ j, η2 22 j = η2 22 j := fun _ => rfl
    have fr22 : ∀ j, η2 22 j = η2 22 j := fun _ => rfl
    have f0_41 : η2 0 41 = η2 0 41 := rfl
    have w2_0_43 : (0 : Int) ≤ η2 0 43 ∧ η2 0 43 ≤ 8 := wf_ok (a := 43) (b := 43) (z := (0, 8)) k4.1.1 (by decide +kernel) (Nat.le_refl _) (Nat.le_refl _)
    have f0_43 : η2 0 43 = η2 0 43 := rfl
    have f0_42 : η2 0 42 = η2 0 42 := rfl
    have f0_45 : η2 0 45 = η2 0 45 := rfl
    have w2_0_19 : (0 : Int) ≤ η2 0 19 ∧ η2 0 19 ≤ 64 := wf_ok (a := 19) (b := 19) (z := (0, 64)) k4.1.1 (by decide +kernel) (Nat.le_refl _) (Nat.le_refl _)
    have f0_19 : η2 0 19 = η2 0 19 := rfl
    have w2_0_44 : (0 : Int) ≤ η2 0 44 ∧ η2 0 44 ≤ 64 := wf_ok (a := 44) (b := 44) (z := (0, 64)) k4.1.1 (by decide +kernel) (Nat.le_refl _) (Nat.le_refl _)
    have f0_44 : η2 0 44 = η2 0 44 := rfl
    have w2_0_7 : (0 : Int) ≤ η2 0 7 ∧ η2 0 7 ≤ 700 := wf_ok (a := 7) (b := 7) (z := (0, 700)) k4.1.1 (by decide +kernel) (Nat.le_refl _) (Nat.le_refl _)
    have f0_7 : η2 0 7 = η2 0 7 := rfl
    have v27 : zEq (η2 0 6) (η 0 6) := (k4.1.2.2.2.1 0 6 (by decide +kernel)).trans v16
    have f0_6 : η2 0 6 = η 0 6 := v27
    have w2_0_8 : (0 : Int) ≤ η2 0 8 ∧ η2 0 8 ≤ 6 := wf_ok (a := 8) (b := 8) (z := (0, 6)) k4.1.1 (by decide +kernel) (Nat.le_refl _) (Nat.le_refl _)
    have f0_8 : η2 0 8 = η2 0 8 := rfl
    have wbE : wB wl_le zTr η2 := wb2
    
    have sc := k4.2.2 c4
    have mu : 10 * (η2 0 6 - η2 0 7) + η2 0 8 < 10 * (η1 0 6 - η1 0 7) + η1 0 8 := sc.2.1
    have hs2 : η2 0 7 ≤ η2 0 6 := sc.1.1.1.1
    exact ⟨⟨⟨⟨wbE, trivial, fun f hf => nomatch hf⟩, fmE⟩, sc.1, sc.2.2, show 10 * (η2 0 6 - η2 0 7) + η2 0 8 ≤ 10 * (η0 0 6 - η0 0 7) + η0 0 8 by omega⟩, by
      show ((0 : Int) + (10 * η2 0 6 + (-10 * η2 0 7 + (1 * η2 0 8 + 0)))).toNat < ((0 : Int) + (10 * η 0 6 + (-10 * η 0 7 + (1 * η 0 8 + 0)))).toNat
      omega⟩
  · have fig : yq_lI η0 η := fig
    obtain ⟨a1, b1⟩ : x1 = yq_isS 59 η ∧ η1 = η := y1
    have e2 : x2 = η1 0 45 := e2
    have e3 : x3 = η1 0 45 := e3
    obtain ⟨a4, b4⟩ : x4 = (yq_lf η1).1 ∧ η2 = (yq_lf η1).2 := y4
    have fig : yq_lI η0 η1 := by rw [b1]; exact fig
    have a1 : x1 = yq_isS 59 η1 := by rw [b1]; exact a1
    have q := qlI_l fig (by omega) (by omega)
    rw [← a4, ← b4] at q
    have mu := (k4.2.2 (by omega)).2.1
    refine q.2 (by omega) ?_
    have hs := (k4.2.2 (by omega)).1.1.1.1
    have w8 : (0 : Int) ≤ η2 0 8 ∧ η2 0 8 ≤ 6 := wf_ok (a := 8) (b := 8) (z := (0, 6)) k4.1.1 (by decide +kernel) (Nat.le_refl _) (Nat.le_refl _)
    unfold yq_mu
    omega
set_option maxHeartbeats 8000000 in
theorem zle_sumRead_o15 {ro : Nat → List Int32} (xs : List Int) (η0 : zE) (hp : sP wl_le zTr zPle_sumRead xs η0) (hpp : pPle_sumRead xs η0) (η : zE) (hI : zsI wl_le zTr zVle_sumRead zMle_sumRead η0 0 [] η) (hig : iCle_sumRead xs η0 0 [] η) : ∀ (x1 : Int) (η1 : zE), ((gC wl_le [(nat_lit 0, zPle_isSign, zOle_isSign, zMle_isSign), (nat_lit 1, zPle_leafRead, zOle_leafRead, zMle_leafRead), (nat_lit 2, zPle_signs, zOle_signs, zMle_signs), (nat_lit 3, zPle_bind, zOle_bind, zMle_bind)] pCle_sumRead qCle_sumRead) 0).2 [59] η x1 η1 → (¬ x1 = 0) → ∀ x2 : Int, x2 = η1 0 (Int.toNat 45) → zok 1 x2 → (x2 = 0) → ∀ x3 : Int, x3 = η1 0 (Int.toNat 43) → zok 0 x3 → (0 < x3) → ∀ x4 : Int, x4 = η1 0 (Int.toNat 45) → zok 1 x4 → (x4 = 0) → ∀ (x5 : Int) (η2 : zE), ((gC wl_le [(nat_lit 0, zPle_isSign, zOle_isSign, zMle_isSign), (nat_lit 1, zPle_leafRead, zOle_leafRead, zMle_leafRead), (nat_lit 2, zPle_signs, zOle_signs, zMle_signs), (nat_lit 3, zPle_bind, zOle_bind, zMle_bind)] pCle_sumRead qCle_sumRead) 2).2 [] η1 x5 η2 → (¬ x5 = 0) → (fun c ys η1 => zsI wl_le zTr zVle_sumRead zMle_sumRead η0 c ys η1 ∧ iCle_sumRead xs η0 c ys η1) 0 [] η2 ∧ (zsM zVle_sumRead) 0 [] η2 < zsM zVle_sumRead 0 [] η := by
  have fig := hig.2
  have hig := hig.1
  intro x1 η1 h1 c1 x2 e2 r2 c2 x3 e3 r3 c3 x4 e4 r4 c4 x5 η2 h5 c5
  have y1 : fQle_isSign [59] η x1 η1 := h1.2.2
  have k1 : sQ wl_le zTr zOle_isSign zMle_isSign [59] η x1 η1 ∧ oQle_isSign [59] η x1 η1 := ⟨h1.1, h1.2.1⟩
  have y5 : fQle_signs [] η1 x5 η2 := h5.2.2
  have k5 : sQ wl_le zTr zOle_signs zMle_signs [] η1 x5 η2 ∧ oQle_signs [] η1 x5 η2 := ⟨h5.1, h5.2.1⟩
  refine yj_d ?_ ?_
  · have hs : η 0 7 ≤ η 0 6 := hig.1.1.1.1
    have hk1 : η 0 45 = 0 → 1 ≤ η 0 19 := hig.2.1
    have hm : 10 * (η 0 6 - η 0 7) + η 0 8 ≤ 10 * (η0 0 6 - η0 0 7) + η0 0 8 := hig.2.2
    have bd43 : (0 : Int) ≤ η 0 43 ∧ η 0 43 ≤ 8 := wf_ok (a := 43) (b := 43) (z := (0, 8)) hI.1.1 (by decide +kernel) (Nat.le_refl _) (Nat.le_refl _)
    have bd44 : (0 : Int) ≤ η 0 44 ∧ η 0 44 ≤ 64 := wf_ok (a := 44) (b := 44) (z := (0, 64)) hI.1.1 (by decide +kernel) (Nat.le_refl _) (Nat.le_refl _)
    have bd19 : (0 : Int) ≤ η 0 19 ∧ η 0 19 ≤ 64 := wf_ok (a := 19) (b := 19) (z := (0, 64)) hI.1.1 (by decide +kernel) (Nat.le_refl _) (Nat.le_refl _)
    have y1 : fQle_isSign [59] η x1 η1 := h1.2.2
    have k1 : sQ wl_le zTr zOle_isSign zMle_isSign [59] η x1 η1 ∧ oQle_isSign [59] η x1 η1 := ⟨h1.1, h1.2.1⟩
    have y5 : fQle_signs [] η1 x5 η2 := h5.2.2
    have k5 : sQ wl_le zTr zOle_signs zMle_signs [] η1 x5 η2 ∧ oQle_signs [] η1 x5 η2 := ⟨h5.1, h5.2.1⟩
    have c0_0_41 : η 0 41 = η 0 41 := rfl
    have w0_0_43 : (0 : Int) ≤ η 0 43 ∧ η 0 43 ≤ 8 := wf_ok (a := 43) (b := 43) (z := (0, 8)) hI.1.1 (by decide +kernel) (Nat.le_refl _) (Nat.le_refl _)
    have c0_0_43 : η 0 43 = η 0 43 := rfl
    have c0_0_42 : η 0 42 = η 0 42 := rfl
    have c0_0_45 : η 0 45 = η 0 45 := rfl
    have w0_0_19 : (0 : Int) ≤ η 0 19 ∧ η 0 19 ≤ 64 := wf_ok (a := 19) (b := 19) (z := (0, 64)) hI.1.1 (by decide +kernel) (Nat.le_refl _) (Nat.le_refl _)
    have c0_0_19 : η 0 19 = η 0 19 := rfl
    have w0_0_44 : (0 : Int) ≤ η 0 44 ∧ η 0 44 ≤ 64 := wf_ok (a := 44) (b := 44) (z := (0, 64)) hI.1.1 (by decide +kernel) (Nat.le_refl _) (Nat.le_refl _)
    have c0_0_44 : η 0 44 = η 0 44 := rfl
    have w0_0_7 : (0 : Int) ≤ η 0 7 ∧ η 0 7 ≤ 700 := wf_ok (a := 7) (b := 7) (z := (0, 700)) hI.1.1 (by decide +kernel) (Nat.le_refl _) (Nat.le_refl _)
    have c0_0_7 : η 0 7 = η 0 7 := rfl
    have w0_0_6 : (0 : Int) ≤ η 0 6 ∧ η 0 6 ≤ 700 := wf_ok (a := 6) (b := 6) (z := (0, 700)) hI.1.1 (by decide +kernel) (Nat.le_refl _) (Nat.le_refl _)
    have c0_0_6 : η 0 6 = η 0 6 := rfl
    have w0_0_8 : (0 : Int) ≤ η 0 8 ∧ η 0 8 ≤ 6 := wf_ok (a := 8) (b := 8) (z := (0, 6)) hI.1.1 (by decide +kernel) (Nat.le_refl _) (Nat.le_refl _)
    have c0_0_8 : η 0 8 = η 0 8 := rfl
    have wb1 : wB wl_le zTr η1 := k1.1.1
    have bx1 : (0 : Int) ≤ x1 ∧ x1 ≤ 1 := k1.1.2.1
    have v9 : zEq (η1 0 45) (η 0 45) := (k1.1.2.2.2.1 0 45 (by decide +kernel)).trans rfl
    replace e2 : x2 = η 0 45 := e2.trans v9
    replace r2 : 0 ≤ x2 ∧ x2 ≤ 1 := r2
    have v10 : zEq (η1 0 43) (η 0 43) := (k1.1.2.2.2.1 0 43 (by decide +kernel)).trans rfl
    replace e3 : x3 = η 0 43 := e3.trans v10
    replace e4 : x4 = η 0 45 := e4.trans v9
    replace r4 : 0 ≤ x4 ∧ x4 ≤ 1 := r4
    have v11 : zEq (η1 0 41) (η 0 41) := (k1.1.2.2.2.1 0 41 (by decide +kernel)).trans rfl
    have c1_0_41 : η1 0 41 = η 0 41 := v11
    have c1_0_43 : η1 0 43 = η 0 43 := v10
    have v12 : zEq (η1 0 42) (η 0 42) := (k1.1.2.2.2.1 0 42 (by decide +kernel)).trans rfl
    have c1_0_42 : η1 0 42 = η 0 42 := v12
    have c1_0_45 : η1 0 45 = η 0 45 := v9
    have v13 : zEq (η1 0 19) (η 0 19) := (k1.1.2.2.2.1 0 19 (by decide +kernel)).trans rfl
    have c1_0_19 : η1 0 19 = η 0 19 := v13
    have v14 : zEq (η1 0 44) (η 0 44) := (k1.1.2.2.2.1 0 44 (by decide +kernel)).trans rfl
    have c1_0_44 : η1 0 44 = η 0 44 := v14
    have v15 : zEq (η1 0 7) (η 0 7) := (k1.1.2.2.2.1 0 7 (by decide +kernel)).trans rfl
    have c1_0_7 : η1 0 7 = η 0 7 := v15
    have v16 : zEq (η1 0 6) (η 0 6) := (k1.1.2.2.2.1 0 6 (by decide +kernel)).trans rfl
    have c1_0_6 : η1 0 6 = η 0 6 := v16
    have v17 : zEq (η1 0 8) (η 0 8) := (k1.1.2.2.2.1 0 8 (by decide +kernel)).trans rfl
    have c1_0_8 : η1 0 8 = η 0 8 := v17
    have wb2 : wB wl_le zTr η2 := k5.1.1
    have bx5 : (0 : Int) ≤ x5 ∧ x5 ≤ 1 := k5.1.2.1
    have fm1 : zFm zMle_sumRead η0 η1 := zFm_tr2 hI.2 k1.1.2.2.2.1 (by decide +kernel)
    have fm2 : zFm zMle_sumRead η0 η2 := zFm_tr2 fm1 k5.1.2.2.2.1 (by decide +kernel)
    have fmE : zFm zMle_sumRead η0 η2 := fm2
    have fr22_0 : ∀ j, η 22 j = η 22 j := fun _ => rfl
    have v18 : ∀ j, η1 22 j = η 22 j := fun j => k1.1.2.2.2.1 22 _ (zinr_not (by decide +kernel))
    have fr22_1 : ∀ j, η1 22 j = η 22 j := v18
    have fr22_2 : ∀ j, η2 22 j = η2 22 j := fun _ => rfl
    have fr22 : ∀ j, η2 22 j = η2 22 j := fun _ => rfl
    have f0_41 : η2 0 41 = η2 0 41 := rfl
    have w2_0_43 : (0 : Int) ≤ η2 0 43 ∧ η2 0 43 ≤ 8 := wf_ok (a := 43) (b := 43) (z := (0, 8)) k5.1.1 (by decide +kernel) (Nat.le_refl _) (Nat.le_refl _)
    have f0_43 : η2 0 43 = η2 0 43 := rfl
    have f0_42 : η2 0 42 = η2 0 42 := rfl
    have f0_45 : η2 0 45 = η2 0 45 := rfl
    have w2_0_19 : (0 : Int) ≤ η2 0 19 ∧ η2 0 19 ≤ 64 := wf_ok (a := 19) (b := 19) (z := (0, 64)) k5.1.1 (by decide +kernel) (Nat.le_refl _) (Nat.le_refl _)
    have f0_19 : η2 0 19 = η2 0 19 := rfl
    have w2_0_44 : (0 : Int) ≤ η2 0 44 ∧ η2 0 44 ≤ 64 := wf_ok (a := 44) (b := 44) (z := (0, 64)) k5.1.1 (by decide +kernel) (Nat.le_refl _) (Nat.le_refl _)
    have f0_44 : η2 0 44 = η2 0 44 := rfl
    have w2_0_7 : (0 : Int) ≤ η2 0 7 ∧ η2 0 7 ≤ 700 := wf_ok (a := 7) (b := 7) (z := (0, 700)) k5.1.1 (by decide +kernel) (Nat.le_refl _) (Nat.le_refl _)
    have f0_7 : η2 0 7 = η2 0 7 := rfl
    have v27 : zEq (η2 0 6) (η 0 6) := (k5.1.2.2.2.1 0 6 (by decide +kernel)).trans v16
    have f0_6 : η2 0 6 = η 0 6 := v27
    have w2_0_8 : (0 : Int) ≤ η2 0 8 ∧ η2 0 8 ≤ 6 := wf_ok (a := 8) (b := 8) (z := (0, 6)) k5.1.1 (by decide +kernel) (Nat.le_refl _) (Nat.le_refl _)
    have f0_8 : η2 0 8 = η2 0 8 := rfl
    have wbE : wB wl_le zTr η2 := wb2
    
    have sc := k5.2.2 c5
    have mu : 10 * (η2 0 6 - η2 0 7) + η2 0 8 < 10 * (η1 0 6 - η1 0 7) + η1 0 8 := sc.2.1
    have hs2 : η2 0 7 ≤ η2 0 6 := sc.1.1.1.1
    exact ⟨⟨⟨⟨wbE, trivial, fun f hf => nomatch hf⟩, fmE⟩, sc.1, sc.2.2, show 10 * (η2 0 6 - η2 0 7) + η2 0 8 ≤ 10 * (η0 0 6 - η0 0 7) + η0 0 8 by omega⟩, by
      show ((0 : Int) + (10 * η2 0 6 + (-10 * η2 0 7 + (1 * η2 0 8 + 0)))).toNat < ((0 : Int) + (10 * η 0 6 + (-10 * η 0 7 + (1 * η 0 8 + 0)))).toNat
      omega⟩
  · have fig : yq_lI η0 η := fig
    obtain ⟨a1, b1⟩ : x1 = yq_isS 59 η ∧ η1 = η := y1
    have e2 : x2 = η1 0 45 := e2
    have e3 : x3 = η1 0 43 := e3
    have e4 : x4 = η1 0 45 := e4
    obtain ⟨a5, b5⟩ : x5 = (yq_sgn η1).1 ∧ η2 = (yq_sgn η1).2 := y5
    have fig : yq_lI η0 η1 := by rw [b1]; exact fig
    have a1 : x1 = yq_isS 59 η1 := by rw [b1]; exact a1
    have q := qlI_s fig (by omega) (by omega)
    rw [← a5, ← b5] at q
    have mu := (k5.2.2 (by omega)).2.1
    refine q.2 (by omega) ?_
    have hs := (k5.2.2 (by omega)).1.1.1.1
    have w8 : (0 : Int) ≤ η2 0 8 ∧ η2 0 8 ≤ 6 := wf_ok (a := 8) (b := 8) (z := (0, 6)) k5.1.1 (by decide +kernel) (Nat.le_refl _) (Nat.le_refl _)
    unfold yq_mu
    omega
set_option maxHeartbeats 8000000 in
theorem zle_sumRead {ro : Nat → List Int32} : zMet pr_P pr_K pr_df ro (sm_X0 1 6) 3 149 tm_le [(.inr (.inr (.inl (nat_lit 0))))] 2 [(nat_lit 0, nat_lit 0, nat_lit 1), (nat_lit 0, nat_lit 3, nat_lit 2), (nat_lit 0, nat_lit 20, nat_lit 3), (nat_lit 0, nat_lit 21, nat_lit 4), (nat_lit 0, nat_lit 22, nat_lit 5), (nat_lit 0, nat_lit 23, nat_lit 6), (nat_lit 0, nat_lit 24, nat_lit 7), (nat_lit 0, nat_lit 25, nat_lit 8), (nat_lit 0, nat_lit 26, nat_lit 9), (nat_lit 0, nat_lit 27, nat_lit 10), (nat_lit 0, nat_lit 28, nat_lit 11), (nat_lit 0, nat_lit 29, nat_lit 12), (nat_lit 0, nat_lit 30, nat_lit 13), (nat_lit 0, nat_lit 31, nat_lit 14), (nat_lit 0, nat_lit 32, nat_lit 15), (nat_lit 0, nat_lit 33, nat_lit 16), (nat_lit 0, nat_lit 34, nat_lit 17), (nat_lit 0, nat_lit 35, nat_lit 18), (nat_lit 0, nat_lit 36, nat_lit 19), (nat_lit 0, nat_lit 37, nat_lit 20), (nat_lit 0, nat_lit 38, nat_lit 21), (nat_lit 0, nat_lit 39, nat_lit 22), (nat_lit 0, nat_lit 40, nat_lit 23), (nat_lit 0, nat_lit 47, nat_lit 24), (nat_lit 0, nat_lit 48, nat_lit 25), (nat_lit 0, nat_lit 50, nat_lit 26), (nat_lit 0, nat_lit 51, nat_lit 27), (nat_lit 0, nat_lit 52, nat_lit 28), (nat_lit 0, nat_lit 53, nat_lit 29), (nat_lit 0, nat_lit 54, nat_lit 30), (nat_lit 0, nat_lit 55, nat_lit 31), (nat_lit 0, nat_lit 56, nat_lit 32), (nat_lit 0, nat_lit 57, nat_lit 33), (nat_lit 0, nat_lit 58, nat_lit 34), (nat_lit 0, nat_lit 59, nat_lit 35), (nat_lit 0, nat_lit 72, nat_lit 36), (nat_lit 0, nat_lit 73, nat_lit 37), (nat_lit 0, nat_lit 76, nat_lit 38), (nat_lit 0, nat_lit 77, nat_lit 39), (nat_lit 0, nat_lit 79, nat_lit 40), (nat_lit 0, nat_lit 81, nat_lit 41), (nat_lit 0, nat_lit 82, nat_lit 42)] [] (fun xs η => sP wl_le zTr zPle_sumRead xs η ∧ pPle_sumRead xs η) (fun xs η y η' => sQ wl_le zTr zOle_sumRead zMle_sumRead xs η y η' ∧ pQle_sumRead xs η y η') :=
  zmet_alt (zmea_gen (mi := (nat_lit 0, nat_lit 1, nat_lit 8, nat_lit 1, nat_lit 2, tX8_sumRead)) (cd := [(nat_lit 126, nat_lit 0, nat_lit 0, [(.inr (.inr (.inl (nat_lit 0)))), (.inl (nat_lit 1, (.ofNat (nat_lit 0))))], nat_lit 2, [(nat_lit 0, nat_lit 0, nat_lit 1), (nat_lit 0, nat_lit 3, nat_lit 2), (nat_lit 0, nat_lit 20, nat_lit 3), (nat_lit 0, nat_lit 21, nat_lit 4), (nat_lit 0, nat_lit 22, nat_lit 5), (nat_lit 0, nat_lit 23, nat_lit 6), (nat_lit 0, nat_lit 24, nat_lit 7), (nat_lit 0, nat_lit 25, nat_lit 8), (nat_lit 0, nat_lit 26, nat_lit 9), (nat_lit 0, nat_lit 27, nat_lit 10), (nat_lit 0, nat_lit 28, nat_lit 11), (nat_lit 0, nat_lit 29, nat_lit 12), (nat_lit 0, nat_lit 30, nat_lit 13), (nat_lit 0, nat_lit 31, nat_lit 14), (nat_lit 0, nat_lit 32, nat_lit 15), (nat_lit 0, nat_lit 33, nat_lit 16), (nat_lit 0, nat_lit 34, nat_lit 17), (nat_lit 0, nat_lit 35, nat_lit 18), (nat_lit 0, nat_lit 36, nat_lit 19), (nat_lit 0, nat_lit 37, nat_lit 20), (nat_lit 0, nat_lit 38, nat_lit 21), (nat_lit 0, nat_lit 39, nat_lit 22), (nat_lit 0, nat_lit 40, nat_lit 23), (nat_lit 0, nat_lit 47, nat_lit 24), (nat_lit 0, nat_lit 48, nat_lit 25), (nat_lit 0, nat_lit 50, nat_lit 26), (nat_lit 0, nat_lit 51, nat_lit 27), (nat_lit 0, nat_lit 52, nat_lit 28), (nat_lit 0, nat_lit 53, nat_lit 29), (nat_lit 0, nat_lit 54, nat_lit 30), (nat_lit 0, nat_lit 55, nat_lit 31), (nat_lit 0, nat_lit 56, nat_lit 32), (nat_lit 0, nat_lit 57, nat_lit 33), (nat_lit 0, nat_lit 58, nat_lit 34), (nat_lit 0, nat_lit 59, nat_lit 35), (nat_lit 0, nat_lit 72, nat_lit 36), (nat_lit 0, nat_lit 73, nat_lit 37), (nat_lit 0, nat_lit 76, nat_lit 38), (nat_lit 0, nat_lit 77, nat_lit 39), (nat_lit 0, nat_lit 79, nat_lit 40), (nat_lit 0, nat_lit 81, nat_lit 41), (nat_lit 0, nat_lit 82, nat_lit 42)], []), (nat_lit 147, nat_lit 1, nat_lit 2, [(.inr (.inr (.inl (nat_lit 0))))], nat_lit 2, [(nat_lit 0, nat_lit 0, nat_lit 1), (nat_lit 0, nat_lit 3, nat_lit 2), (nat_lit 0, nat_lit 20, nat_lit 3), (nat_lit 0, nat_lit 21, nat_lit 4), (nat_lit 0, nat_lit 22, nat_lit 5), (nat_lit 0, nat_lit 23, nat_lit 6), (nat_lit 0, nat_lit 24, nat_lit 7), (nat_lit 0, nat_lit 25, nat_lit 8), (nat_lit 0, nat_lit 26, nat_lit 9), (nat_lit 0, nat_lit 27, nat_lit 10), (nat_lit 0, nat_lit 28, nat_lit 11), (nat_lit 0, nat_lit 29, nat_lit 12), (nat_lit 0, nat_lit 30, nat_lit 13), (nat_lit 0, nat_lit 31, nat_lit 14), (nat_lit 0, nat_lit 32, nat_lit 15), (nat_lit 0, nat_lit 33, nat_lit 16), (nat_lit 0, nat_lit 34, nat_lit 17), (nat_lit 0, nat_lit 35, nat_lit 18), (nat_lit 0, nat_lit 36, nat_lit 19), (nat_lit 0, nat_lit 37, nat_lit 20), (nat_lit 0, nat_lit 38, nat_lit 21), (nat_lit 0, nat_lit 39, nat_lit 22), (nat_lit 0, nat_lit 40, nat_lit 23), (nat_lit 0, nat_lit 47, nat_lit 24), (nat_lit 0, nat_lit 48, nat_lit 25), (nat_lit 0, nat_lit 50, nat_lit 26), (nat_lit 0, nat_lit 51, nat_lit 27), (nat_lit 0, nat_lit 52, nat_lit 28), (nat_lit 0, nat_lit 53, nat_lit 29), (nat_lit 0, nat_lit 54, nat_lit 30), (nat_lit 0, nat_lit 55, nat_lit 31), (nat_lit 0, nat_lit 56, nat_lit 32), (nat_lit 0, nat_lit 57, nat_lit 33), (nat_lit 0, nat_lit 58, nat_lit 34), (nat_lit 0, nat_lit 59, nat_lit 35), (nat_lit 0, nat_lit 72, nat_lit 36), (nat_lit 0, nat_lit 73, nat_lit 37), (nat_lit 0, nat_lit 76, nat_lit 38), (nat_lit 0, nat_lit 77, nat_lit 39), (nat_lit 0, nat_lit 79, nat_lit 40), (nat_lit 0, nat_lit 81, nat_lit 41), (nat_lit 0, nat_lit 82, nat_lit 42)], []), (nat_lit 148, nat_lit 2, nat_lit 2, [(.inr (.inr (.inl (nat_lit 0))))], nat_lit 2, [(nat_lit 0, nat_lit 0, nat_lit 1), (nat_lit 0, nat_lit 3, nat_lit 2), (nat_lit 0, nat_lit 20, nat_lit 3), (nat_lit 0, nat_lit 21, nat_lit 4), (nat_lit 0, nat_lit 22, nat_lit 5), (nat_lit 0, nat_lit 23, nat_lit 6), (nat_lit 0, nat_lit 24, nat_lit 7), (nat_lit 0, nat_lit 25, nat_lit 8), (nat_lit 0, nat_lit 26, nat_lit 9), (nat_lit 0, nat_lit 27, nat_lit 10), (nat_lit 0, nat_lit 28, nat_lit 11), (nat_lit 0, nat_lit 29, nat_lit 12), (nat_lit 0, nat_lit 30, nat_lit 13), (nat_lit 0, nat_lit 31, nat_lit 14), (nat_lit 0, nat_lit 32, nat_lit 15), (nat_lit 0, nat_lit 33, nat_lit 16), (nat_lit 0, nat_lit 34, nat_lit 17), (nat_lit 0, nat_lit 35, nat_lit 18), (nat_lit 0, nat_lit 36, nat_lit 19), (nat_lit 0, nat_lit 37, nat_lit 20), (nat_lit 0, nat_lit 38, nat_lit 21), (nat_lit 0, nat_lit 39, nat_lit 22), (nat_lit 0, nat_lit 40, nat_lit 23), (nat_lit 0, nat_lit 47, nat_lit 24), (nat_lit 0, nat_lit 48, nat_lit 25), (nat_lit 0, nat_lit 50, nat_lit 26), (nat_lit 0, nat_lit 51, nat_lit 27), (nat_lit 0, nat_lit 52, nat_lit 28), (nat_lit 0, nat_lit 53, nat_lit 29), (nat_lit 0, nat_lit 54, nat_lit 30), (nat_lit 0, nat_lit 55, nat_lit 31), (nat_lit 0, nat_lit 56, nat_lit 32), (nat_lit 0, nat_lit 57, nat_lit 33), (nat_lit 0, nat_lit 58, nat_lit 34), (nat_lit 0, nat_lit 59, nat_lit 35), (nat_lit 0, nat_lit 72, nat_lit 36), (nat_lit 0, nat_lit 73, nat_lit 37), (nat_lit 0, nat_lit 76, nat_lit 38), (nat_lit 0, nat_lit 77, nat_lit 39), (nat_lit 0, nat_lit 79, nat_lit 40), (nat_lit 0, nat_lit 81, nat_lit 41), (nat_lit 0, nat_lit 82, nat_lit 42)], []), (nat_lit 143, nat_lit 3, nat_lit 1, [(.inr (.inr (.inl (nat_lit 0)))), (.inl (nat_lit 1, (.ofNat (nat_lit 0))))], nat_lit 0, [(nat_lit 0, nat_lit 0, nat_lit 1), (nat_lit 0, nat_lit 3, nat_lit 2), (nat_lit 0, nat_lit 20, nat_lit 3), (nat_lit 0, nat_lit 21, nat_lit 4), (nat_lit 0, nat_lit 22, nat_lit 5), (nat_lit 0, nat_lit 23, nat_lit 6), (nat_lit 0, nat_lit 24, nat_lit 7), (nat_lit 0, nat_lit 25, nat_lit 8), (nat_lit 0, nat_lit 26, nat_lit 9), (nat_lit 0, nat_lit 27, nat_lit 10), (nat_lit 0, nat_lit 28, nat_lit 11), (nat_lit 0, nat_lit 29, nat_lit 12), (nat_lit 0, nat_lit 30, nat_lit 13), (nat_lit 0, nat_lit 31, nat_lit 14), (nat_lit 0, nat_lit 32, nat_lit 15), (nat_lit 0, nat_lit 33, nat_lit 16), (nat_lit 0, nat_lit 34, nat_lit 17), (nat_lit 0, nat_lit 35, nat_lit 18), (nat_lit 0, nat_lit 36, nat_lit 19), (nat_lit 0, nat_lit 37, nat_lit 20), (nat_lit 0, nat_lit 38, nat_lit 21), (nat_lit 0, nat_lit 39, nat_lit 22), (nat_lit 0, nat_lit 40, nat_lit 23), (nat_lit 0, nat_lit 47, nat_lit 24), (nat_lit 0, nat_lit 48, nat_lit 25), (nat_lit 0, nat_lit 50, nat_lit 26), (nat_lit 0, nat_lit 51, nat_lit 27), (nat_lit 0, nat_lit 52, nat_lit 28), (nat_lit 0, nat_lit 53, nat_lit 29), (nat_lit 0, nat_lit 54, nat_lit 30), (nat_lit 0, nat_lit 55, nat_lit 31), (nat_lit 0, nat_lit 56, nat_lit 32), (nat_lit 0, nat_lit 57, nat_lit 33), (nat_lit 0, nat_lit 58, nat_lit 34), (nat_lit 0, nat_lit 59, nat_lit 35), (nat_lit 0, nat_lit 72, nat_lit 36), (nat_lit 0, nat_lit 73, nat_lit 37), (nat_lit 0, nat_lit 76, nat_lit 38), (nat_lit 0, nat_lit 77, nat_lit 39), (nat_lit 0, nat_lit 79, nat_lit 40), (nat_lit 0, nat_lit 81, nat_lit 41), (nat_lit 0, nat_lit 82, nat_lit 42)], [])]) (cu := zUle_sumRead) (cs := [(nat_lit 0, zPle_isSign, zOle_isSign, zMle_isSign), (nat_lit 1, zPle_leafRead, zOle_leafRead, zMle_leafRead), (nat_lit 2, zPle_signs, zOle_signs, zMle_signs), (nat_lit 3, zPle_bind, zOle_bind, zMle_bind)]) (iv := zVle_sumRead) (po := [zOle_sumRead]) (pr := zPle_sumRead) (mods := zMle_sumRead) (D7 := zDle_sumRead) (D0 := zEle_sumRead) (Dm := zFle_sumRead) (f0 := 20) pCle_sumRead qCle_sumRead iCle_sumRead pPle_sumRead (fun xs η _ y η' => pQle_sumRead xs η y η') zX_low pr_mtR rfl (List.forall_mem_cons.mpr ⟨zle_isSign, List.forall_mem_cons.mpr ⟨zle_leafRead, List.forall_mem_cons.mpr ⟨zle_signs, List.forall_mem_cons.mpr ⟨zle_bind, fun _ h => nomatch h⟩⟩⟩⟩) (by decide +kernel) (by decide +kernel) (by decide +kernel)
    (by
      intro xs η hr hl hp hpp
      match xs, hl, hp, hpp with
      | [], _, hp, hpp =>
        refine List.forall_mem_cons.mpr ⟨?_, fun _ h => nomatch h⟩
        · exact zle_sumRead_o0 (ro := ro)  η hp hpp
      )
    (fun _ _ _ _ _ _ _ h => nomatch h)
    (List.forall_mem_cons.mpr ⟨⟨zDle_sumRead_0, zEle_sumRead_0, zFle_sumRead_0, 22, by decide +kernel, (by
      intro xs η0 hlx hp hpp ys η hr hl hI hig
      match ys, hl, hI, hig with
      | [], _, hI, hig =>
        refine ⟨?_, ?_⟩
        · refine List.forall_mem_cons.mpr ⟨?_, List.forall_mem_cons.mpr ⟨?_, List.forall_mem_cons.mpr ⟨?_, List.forall_mem_cons.mpr ⟨?_, List.forall_mem_cons.mpr ⟨?_, List.forall_mem_cons.mpr ⟨?_, List.forall_mem_cons.mpr ⟨?_, List.forall_mem_cons.mpr ⟨?_, List.forall_mem_cons.mpr ⟨?_, List.forall_mem_cons.mpr ⟨?_, List.forall_mem_cons.mpr ⟨?_, fun _ h => nomatch h⟩⟩⟩⟩⟩⟩⟩⟩⟩⟩⟩
          · exact zle_sumRead_o1 (ro := ro) xs η0 hp hpp  η hI hig
          · exact zle_sumRead_o2 (ro := ro) xs η0 hp hpp  η hI hig
          · exact zle_sumRead_o3 (ro := ro) xs η0 hp hpp  η hI hig
          · exact zle_sumRead_o4 (ro := ro) xs η0 hp hpp  η hI hig
          · exact zle_sumRead_o5 (ro := ro) xs η0 hp hpp  η hI hig
          · exact zle_sumRead_o6 (ro := ro) xs η0 hp hpp  η hI hig
          · exact zle_sumRead_o7 (ro := ro) xs η0 hp hpp  η hI hig
          · exact zle_sumRead_o8 (ro := ro) xs η0 hp hpp  η hI hig
          · exact zle_sumRead_o9 (ro := ro) xs η0 hp hpp  η hI hig
          · exact zle_sumRead_o10 (ro := ro) xs η0 hp hpp  η hI hig
          · exact zle_sumRead_o11 (ro := ro) xs η0 hp hpp  η hI hig
        · refine List.forall_mem_cons.mpr ⟨?_, List.forall_mem_cons.mpr ⟨?_, List.forall_mem_cons.mpr ⟨?_, List.forall_mem_cons.mpr ⟨?_, fun _ h => nomatch h⟩⟩⟩⟩
          · exact zle_sumRead_o12 (ro := ro) xs η0 hp hpp  η hI hig
          · exact zle_sumRead_o13 (ro := ro) xs η0 hp hpp  η hI hig
          · exact zle_sumRead_o14 (ro := ro) xs η0 hp hpp  η hI hig
          · exact zle_sumRead_o15 (ro := ro) xs η0 hp hpp  η hI hig
      )⟩, (fun _ h => nomatch h)⟩))
