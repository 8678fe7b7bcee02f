set_option maxHeartbeats 8000000 in
theorem zl_signs_o14 {ro : Nat → List Int32} (xs : List Int) (η0 : zE) (hp : sP wl_l zTr zPl_signs xs η0) (hpp : pPl_signs xs η0) (η : zE) (hI : zsI wl_l zTr zVl_signs zMl_signs η0 0 [] η) (hig : iCl_signs xs η0 0 [] η) : ∀ (x1 : Int) (η1 : zE), ((gC2 wl_l [(nat_lit 0, zPl_isSign, zOl_isSign, zMl_isSign), (nat_lit 1, zPl_wrong, zOl_wrong, zMl_wrong), (nat_lit 2, zPl_token, zOl_token, zMl_token), (nat_lit 3, zPl_isKey, zOl_isKey, zMl_isKey), (nat_lit 4, zPl_isCounted, zOl_isCounted, zMl_isCounted), (nat_lit 5, zPl_waitsFor, zOl_waitsFor, zMl_waitsFor), (nat_lit 6, zPl_rank, zOl_rank, zMl_rank), (nat_lit 7, zPl_bind, zOl_bind, zMl_bind)] pCl_signs qCl_signs) 3).2 [10] η x1 η1 → (x1 = 0) → ∀ (x2 : Int) (η2 : zE), ((gC2 wl_l [(nat_lit 0, zPl_isSign, zOl_isSign, zMl_isSign), (nat_lit 1, zPl_wrong, zOl_wrong, zMl_wrong), (nat_lit 2, zPl_token, zOl_token, zMl_token), (nat_lit 3, zPl_isKey, zOl_isKey, zMl_isKey), (nat_lit 4, zPl_isCounted, zOl_isCounted, zMl_isCounted), (nat_lit 5, zPl_waitsFor, zOl_waitsFor, zMl_waitsFor), (nat_lit 6, zPl_rank, zOl_rank, zMl_rank), (nat_lit 7, zPl_bind, zOl_bind, zMl_bind)] pCl_signs qCl_signs) 3).2 [11] η1 x2 η2 → (x2 = 0) → ∀ x3 : Int, x3 = η2 0 (Int.toNat 8) → zok 0 x3 → (¬ x3 = 5) → ∀ (x4 : Int) (η3 : zE), ((gC2 wl_l [(nat_lit 0, zPl_isSign, zOl_isSign, zMl_isSign), (nat_lit 1, zPl_wrong, zOl_wrong, zMl_wrong), (nat_lit 2, zPl_token, zOl_token, zMl_token), (nat_lit 3, zPl_isKey, zOl_isKey, zMl_isKey), (nat_lit 4, zPl_isCounted, zOl_isCounted, zMl_isCounted), (nat_lit 5, zPl_waitsFor, zOl_waitsFor, zMl_waitsFor), (nat_lit 6, zPl_rank, zOl_rank, zMl_rank), (nat_lit 7, zPl_bind, zOl_bind, zMl_bind)] pCl_signs qCl_signs) 0).2 [43] η2 x4 η3 → (x4 = 0) → ∀ (x5 : Int) (η4 : zE), ((gC2 wl_l [(nat_lit 0, zPl_isSign, zOl_isSign, zMl_isSign), (nat_lit 1, zPl_wrong, zOl_wrong, zMl_wrong), (nat_lit 2, zPl_token, zOl_token, zMl_token), (nat_lit 3, zPl_isKey, zOl_isKey, zMl_isKey), (nat_lit 4, zPl_isCounted, zOl_isCounted, zMl_isCounted), (nat_lit 5, zPl_waitsFor, zOl_waitsFor, zMl_waitsFor), (nat_lit 6, zPl_rank, zOl_rank, zMl_rank), (nat_lit 7, zPl_bind, zOl_bind, zMl_bind)] pCl_signs qCl_signs) 0).2 [45] η3 x5 η4 → (x5 = 0) → ∀ (x6 : Int) (η5 : zE), ((gC2 wl_l [(nat_lit 0, zPl_isSign, zOl_isSign, zMl_isSign), (nat_lit 1, zPl_wrong, zOl_wrong, zMl_wrong), (nat_lit 2, zPl_token, zOl_token, zMl_token), (nat_lit 3, zPl_isKey, zOl_isKey, zMl_isKey), (nat_lit 4, zPl_isCounted, zOl_isCounted, zMl_isCounted), (nat_lit 5, zPl_waitsFor, zOl_waitsFor, zMl_waitsFor), (nat_lit 6, zPl_rank, zOl_rank, zMl_rank), (nat_lit 7, zPl_bind, zOl_bind, zMl_bind)] pCl_signs qCl_signs) 0).2 [42] η4 x6 η5 → (¬ x6 = 0) → (iCl_signs xs η0) 1 [13] η5 ∧ (fun (_ : Nat) (_ : List Int) (_ : zE) => (0 : Nat)) 1 [13] η5 < 1 := by
  have hw : η 0 45 = 0 := hig.2.1
  have hr1 : 1 ≤ η 0 19 := hig.2.2.1
  have hs1 : η 0 7 = η0 0 7 := hig.2.2.2.1
  have hs2 : η 0 6 = η0 0 6 := hig.2.2.2.2.1
  have hs3 : η 0 8 = η0 0 8 := hig.2.2.2.2.2
  have kk : η 0 8 = 5 → 0 ≤ η 0 9 ∧ η 0 9 ≤ 5 := hig.1.1.1.2.1.2
  have bd43 : (0 : Int) ≤ η 0 43 ∧ η 0 43 ≤ 8 := wf_ok (a := 43) (b := 43) (z := (0, 8)) hI.1.1 (by decide +kernel) (Nat.le_refl _) (Nat.le_refl _)
  have bd44 : (0 : Int) ≤ η 0 44 ∧ η 0 44 ≤ 64 := wf_ok (a := 44) (b := 44) (z := (0, 64)) hI.1.1 (by decide +kernel) (Nat.le_refl _) (Nat.le_refl _)
  have bd19 : (0 : Int) ≤ η 0 19 ∧ η 0 19 ≤ 64 := wf_ok (a := 19) (b := 19) (z := (0, 64)) hI.1.1 (by decide +kernel) (Nat.le_refl _) (Nat.le_refl _)
  obtain ⟨u1, u2, u3, u4⟩ := hig.1.2
  have cn := cz_n (η := η) (η 0 41).toNat
  intro x1 η1 h1 c1 x2 η2 h2 c2 x3 e3 r3 c3 x4 η3 h4 c4 x5 η4 h5 c5 x6 η5 h6 c6
  have k1 : sQ wl_l zTr zOl_isKey zMl_isKey [10] η x1 η1 ∧ pQl_isKey [10] η x1 η1 := h1
  have k2 : sQ wl_l zTr zOl_isKey zMl_isKey [11] η1 x2 η2 ∧ pQl_isKey [11] η1 x2 η2 := h2
  have k4 : sQ wl_l zTr zOl_isSign zMl_isSign [43] η2 x4 η3 ∧ pQl_isSign [43] η2 x4 η3 := h4
  have k5 : sQ wl_l zTr zOl_isSign zMl_isSign [45] η3 x5 η4 ∧ pQl_isSign [45] η3 x5 η4 := h5
  have k6 : sQ wl_l zTr zOl_isSign zMl_isSign [42] η4 x6 η5 ∧ pQl_isSign [42] η4 x6 η5 := h6
  have w0_0_8 : (0 : Int) ≤ η 0 8 ∧ η 0 8 ≤ 6 := wf_ok (a := 8) (b := 8) (z := (0, 6)) hI.1.1 (by decide +kernel) (Nat.le_refl _) (Nat.le_refl _)
  have c0_0_8 : η 0 8 = η 0 8 := rfl
  have wb1 : wB wl_l zTr η1 := k1.1.1
  have bx1 : (0 : Int) ≤ x1 ∧ x1 ≤ 1 := k1.1.2.1
  have v1 : zEq (η1 0 8) (η 0 8) := (k1.1.2.2.2.1 0 8 (by decide +kernel)).trans rfl
  have c1_0_8 : η1 0 8 = η 0 8 := v1
  have wb2 : wB wl_l zTr η2 := k2.1.1
  have bx2 : (0 : Int) ≤ x2 ∧ x2 ≤ 1 := k2.1.2.1
  have v2 : zEq (η2 0 8) (η 0 8) := (k2.1.2.2.2.1 0 8 (by decide +kernel)).trans v1
  replace e3 : x3 = η 0 8 := e3.trans v2
  have c2_0_8 : η2 0 8 = η 0 8 := v2
  have wb3 : wB wl_l zTr η3 := k4.1.1
  have bx4 : (0 : Int) ≤ x4 ∧ x4 ≤ 1 := k4.1.2.1
  have v3 : zEq (η3 0 8) (η 0 8) := (k4.1.2.2.2.1 0 8 (by decide +kernel)).trans v2
  have c3_0_8 : η3 0 8 = η 0 8 := v3
  have wb4 : wB wl_l zTr η4 := k5.1.1
  have bx5 : (0 : Int) ≤ x5 ∧ x5 ≤ 1 := k5.1.2.1
  have v4 : zEq (η4 0 8) (η 0 8) := (k5.1.2.2.2.1 0 8 (by decide +kernel)).trans v3
  have c4_0_8 : η4 0 8 = η 0 8 := v4
  have wb5 : wB wl_l zTr η5 := k6.1.1
  have bx6 : (0 : Int) ≤ x6 ∧ x6 ≤ 1 := k6.1.2.1
  have fm1 : zFm zMl_signs η0 η1 := zFm_tr2 hI.2 k1.1.2.2.2.1 (by decide +kernel)
  have fm2 : zFm zMl_signs η0 η2 := zFm_tr2 fm1 k2.1.2.2.2.1 (by decide +kernel)
  have fm3 : zFm zMl_signs η0 η3 := zFm_tr2 fm2 k4.1.2.2.2.1 (by decide +kernel)
  have fm4 : zFm zMl_signs η0 η4 := zFm_tr2 fm3 k5.1.2.2.2.1 (by decide +kernel)
  have fm5 : zFm zMl_signs η0 η5 := zFm_tr2 fm4 k6.1.2.2.2.1 (by decide +kernel)
  have fmE : zFm zMl_signs η0 η5 := fm5
  have fr22_0 : ∀ j, η 22 j = η 22 j := fun _ => rfl
  have v5 : ∀ j, η1 22 j = η 22 j := fun j => k1.1.2.2.2.1 22 _ (zinr_not (by decide +kernel))
  have fr22_1 : ∀ j, η1 22 j = η 22 j := v5
  have v6 : ∀ j, η2 22 j = η 22 j := fun j => (k2.1.2.2.2.1 22 _ (zinr_not (by decide +kernel))).trans (v5 j)
  have fr22_2 : ∀ j, η2 22 j = η 22 j := v6
  have v7 : ∀ j, η3 22 j = η 22 j := fun j => (k4.1.2.2.2.1 22 _ (zinr_not (by decide +kernel))).trans (v6 j)
  have fr22_3 : ∀ j, η3 22 j = η 22 j := v7
  have v8 : ∀ j, η4 22 j = η 22 j := fun j => (k5.1.2.2.2.1 22 _ (zinr_not (by decide +kernel))).trans (v7 j)
  have fr22_4 : ∀ j, η4 22 j = η 22 j := v8
  have v9 : ∀ j, η5 22 j = η 22 j := fun j => (k6.1.2.2.2.1 22 _ (zinr_not (by decide +kernel))).trans (v8 j)
  have fr22_5 : ∀ j, η5 22 j = η 22 j := v9
  have fr22 : ∀ j, η5 22 j = η 22 j := v9
  have v11 : zEq (η1 0 41) (η 0 41) := (k1.1.2.2.2.1 0 41 (by decide +kernel)).trans rfl
  have v12 : zEq (η2 0 41) (η 0 41) := (k2.1.2.2.2.1 0 41 (by decide +kernel)).trans v11
  have v13 : zEq (η3 0 41) (η 0 41) := (k4.1.2.2.2.1 0 41 (by decide +kernel)).trans v12
  have v14 : zEq (η4 0 41) (η 0 41) := (k5.1.2.2.2.1 0 41 (by decide +kernel)).trans v13
  have v15 : zEq (η5 0 41) (η 0 41) := (k6.1.2.2.2.1 0 41 (by decide +kernel)).trans v14
  have f0_41 : η5 0 41 = η 0 41 := v15
  have w0_0_43 : (0 : Int) ≤ η 0 43 ∧ η 0 43 ≤ 8 := wf_ok (a := 43) (b := 43) (z := (0, 8)) hI.1.1 (by decide +kernel) (Nat.le_refl _) (Nat.le_refl _)
  have v17 : zEq (η1 0 43) (η 0 43) := (k1.1.2.2.2.1 0 43 (by decide +kernel)).trans rfl
  have v18 : zEq (η2 0 43) (η 0 43) := (k2.1.2.2.2.1 0 43 (by decide +kernel)).trans v17
  have v19 : zEq (η3 0 43) (η 0 43) := (k4.1.2.2.2.1 0 43 (by decide +kernel)).trans v18
  have v20 : zEq (η4 0 43) (η 0 43) := (k5.1.2.2.2.1 0 43 (by decide +kernel)).trans v19
  have v21 : zEq (η5 0 43) (η 0 43) := (k6.1.2.2.2.1 0 43 (by decide +kernel)).trans v20
  have f0_43 : η5 0 43 = η 0 43 := v21
  have v23 : zEq (η1 0 42) (η 0 42) := (k1.1.2.2.2.1 0 42 (by decide +kernel)).trans rfl
  have v24 : zEq (η2 0 42) (η 0 42) := (k2.1.2.2.2.1 0 42 (by decide +kernel)).trans v23
  have v25 : zEq (η3 0 42) (η 0 42) := (k4.1.2.2.2.1 0 42 (by decide +kernel)).trans v24
  have v26 : zEq (η4 0 42) (η 0 42) := (k5.1.2.2.2.1 0 42 (by decide +kernel)).trans v25
  have v27 : zEq (η5 0 42) (η 0 42) := (k6.1.2.2.2.1 0 42 (by decide +kernel)).trans v26
  have f0_42 : η5 0 42 = η 0 42 := v27
  have v29 : zEq (η1 0 45) (η 0 45) := (k1.1.2.2.2.1 0 45 (by decide +kernel)).trans rfl
  have v30 : zEq (η2 0 45) (η 0 45) := (k2.1.2.2.2.1 0 45 (by decide +kernel)).trans v29
  have v31 : zEq (η3 0 45) (η 0 45) := (k4.1.2.2.2.1 0 45 (by decide +kernel)).trans v30
  have v32 : zEq (η4 0 45) (η 0 45) := (k5.1.2.2.2.1 0 45 (by decide +kernel)).trans v31
  have v33 : zEq (η5 0 45) (η 0 45) := (k6.1.2.2.2.1 0 45 (by decide +kernel)).trans v32
  have f0_45 : η5 0 45 = η 0 45 := v33
  have w0_0_19 : (0 : Int) ≤ η 0 19 ∧ η 0 19 ≤ 64 := wf_ok (a := 19) (b := 19) (z := (0, 64)) hI.1.1 (by decide +kernel) (Nat.le_refl _) (Nat.le_refl _)
  have v35 : zEq (η1 0 19) (η 0 19) := (k1.1.2.2.2.1 0 19 (by decide +kernel)).trans rfl
  have v36 : zEq (η2 0 19) (η 0 19) := (k2.1.2.2.2.1 0 19 (by decide +kernel)).trans v35
  have v37 : zEq (η3 0 19) (η 0 19) := (k4.1.2.2.2.1 0 19 (by decide +kernel)).trans v36
  have v38 : zEq (η4 0 19) (η 0 19) := (k5.1.2.2.2.1 0 19 (by decide +kernel)).trans v37
  have v39 : zEq (η5 0 19) (η 0 19) := (k6.1.2.2.2.1 0 19 (by decide +kernel)).trans v38
  have f0_19 : η5 0 19 = η 0 19 := v39
  have w0_0_44 : (0 : Int) ≤ η 0 44 ∧ η 0 44 ≤ 64 := wf_ok (a := 44) (b := 44) (z := (0, 64)) hI.1.1 (by decide +kernel) (Nat.le_refl _) (Nat.le_refl _)
  have v41 : zEq (η1 0 44) (η 0 44) := (k1.1.2.2.2.1 0 44 (by decide +kernel)).trans rfl
  have v42 : zEq (η2 0 44) (η 0 44) := (k2.1.2.2.2.1 0 44 (by decide +kernel)).trans v41
  have v43 : zEq (η3 0 44) (η 0 44) := (k4.1.2.2.2.1 0 44 (by decide +kernel)).trans v42
  have v44 : zEq (η4 0 44) (η 0 44) := (k5.1.2.2.2.1 0 44 (by decide +kernel)).trans v43
  have v45 : zEq (η5 0 44) (η 0 44) := (k6.1.2.2.2.1 0 44 (by decide +kernel)).trans v44
  have f0_44 : η5 0 44 = η 0 44 := v45
  have w0_0_7 : (0 : Int) ≤ η 0 7 ∧ η 0 7 ≤ 700 := wf_ok (a := 7) (b := 7) (z := (0, 700)) hI.1.1 (by decide +kernel) (Nat.le_refl _) (Nat.le_refl _)
  have v47 : zEq (η1 0 7) (η 0 7) := (k1.1.2.2.2.1 0 7 (by decide +kernel)).trans rfl
  have v48 : zEq (η2 0 7) (η 0 7) := (k2.1.2.2.2.1 0 7 (by decide +kernel)).trans v47
  have v49 : zEq (η3 0 7) (η 0 7) := (k4.1.2.2.2.1 0 7 (by decide +kernel)).trans v48
  have v50 : zEq (η4 0 7) (η 0 7) := (k5.1.2.2.2.1 0 7 (by decide +kernel)).trans v49
  have v51 : zEq (η5 0 7) (η 0 7) := (k6.1.2.2.2.1 0 7 (by decide +kernel)).trans v50
  have f0_7 : η5 0 7 = η 0 7 := v51
  have w0_0_6 : (0 : Int) ≤ η 0 6 ∧ η 0 6 ≤ 700 := wf_ok (a := 6) (b := 6) (z := (0, 700)) hI.1.1 (by decide +kernel) (Nat.le_refl _) (Nat.le_refl _)
  have v53 : zEq (η1 0 6) (η 0 6) := (k1.1.2.2.2.1 0 6 (by decide +kernel)).trans rfl
  have v54 : zEq (η2 0 6) (η 0 6) := (k2.1.2.2.2.1 0 6 (by decide +kernel)).trans v53
  have v55 : zEq (η3 0 6) (η 0 6) := (k4.1.2.2.2.1 0 6 (by decide +kernel)).trans v54
  have v56 : zEq (η4 0 6) (η 0 6) := (k5.1.2.2.2.1 0 6 (by decide +kernel)).trans v55
  have v57 : zEq (η5 0 6) (η 0 6) := (k6.1.2.2.2.1 0 6 (by decide +kernel)).trans v56
  have f0_6 : η5 0 6 = η 0 6 := v57
  have v58 : zEq (η5 0 8) (η 0 8) := (k6.1.2.2.2.1 0 8 (by decide +kernel)).trans v4
  have f0_8 : η5 0 8 = η 0 8 := v58
  have wbE : wB wl_l zTr η5 := wb5
  
  have I0 : H_l 0 0 0 η := hig.1
  have I1 : H_l 0 0 0 η1 := k1.2.1
  have I2 : H_l 0 0 0 η2 := k2.2.1
  have I3 : H_l 0 0 0 η3 := k4.2.1
  have I4 : H_l 0 0 0 η4 := k5.2.1
  have I5 : H_l 0 0 0 η5 := k6.2.1
  have qk6 : η4 0 8 = 4 := k6.2.2 c6
  exact ⟨⟨I5, show η5 0 45 = 0 by apply Int.le_antisymm <;> omega, show 1 ≤ η5 0 19 by omega, show η5 0 7 = η0 0 7 by apply Int.le_antisymm <;> omega, show η5 0 6 = η0 0 6 by apply Int.le_antisymm <;> omega, show η5 0 8 = η0 0 8 by apply Int.le_antisymm <;> omega, Or.inr ⟨by decide, show ¬ η5 0 8 = 0 by omega⟩⟩, Nat.zero_lt_one⟩
set_option maxHeartbeats 8000000 in
theorem zl_signs_o15 {ro : Nat → List Int32} (xs : List Int) (η0 : zE) (hp : sP wl_l zTr zPl_signs xs η0) (hpp : pPl_signs xs η0) (η : zE) (hI : zsI wl_l zTr zVl_signs zMl_signs η0 0 [] η) (hig : iCl_signs xs η0 0 [] η) : ∀ (x1 : Int) (η1 : zE), ((gC2 wl_l [(nat_lit 0, zPl_isSign, zOl_isSign, zMl_isSign), (nat_lit 1, zPl_wrong, zOl_wrong, zMl_wrong), (nat_lit 2, zPl_token, zOl_token, zMl_token), (nat_lit 3, zPl_isKey, zOl_isKey, zMl_isKey), (nat_lit 4, zPl_isCounted, zOl_isCounted, zMl_isCounted), (nat_lit 5, zPl_waitsFor, zOl_waitsFor, zMl_waitsFor), (nat_lit 6, zPl_rank, zOl_rank, zMl_rank), (nat_lit 7, zPl_bind, zOl_bind, zMl_bind)] pCl_signs qCl_signs) 3).2 [10] η x1 η1 → (x1 = 0) → ∀ (x2 : Int) (η2 : zE), ((gC2 wl_l [(nat_lit 0, zPl_isSign, zOl_isSign, zMl_isSign), (nat_lit 1, zPl_wrong, zOl_wrong, zMl_wrong), (nat_lit 2, zPl_token, zOl_token, zMl_token), (nat_lit 3, zPl_isKey, zOl_isKey, zMl_isKey), (nat_lit 4, zPl_isCounted, zOl_isCounted, zMl_isCounted), (nat_lit 5, zPl_waitsFor, zOl_waitsFor, zMl_waitsFor), (nat_lit 6, zPl_rank, zOl_rank, zMl_rank), (nat_lit 7, zPl_bind, zOl_bind, zMl_bind)] pCl_signs qCl_signs) 3).2 [11] η1 x2 η2 → (x2 = 0) → ∀ x3 : Int, x3 = η2 0 (Int.toNat 8) → zok 0 x3 → (¬ x3 = 5) → ∀ (x4 : Int) (η3 : zE), ((gC2 wl_l [(nat_lit 0, zPl_isSign, zOl_isSign, zMl_isSign), (nat_lit 1, zPl_wrong, zOl_wrong, zMl_wrong), (nat_lit 2, zPl_token, zOl_token, zMl_token), (nat_lit 3, zPl_isKey, zOl_isKey, zMl_isKey), (nat_lit 4, zPl_isCounted, zOl_isCounted, zMl_isCounted), (nat_lit 5, zPl_waitsFor, zOl_waitsFor, zMl_waitsFor), (nat_lit 6, zPl_rank, zOl_rank, zMl_rank), (nat_lit 7, zPl_bind, zOl_bind, zMl_bind)] pCl_signs qCl_signs) 0).2 [43] η2 x4 η3 → (x4 = 0) → ∀ (x5 : Int) (η4 : zE), ((gC2 wl_l [(nat_lit 0, zPl_isSign, zOl_isSign, zMl_isSign), (nat_lit 1, zPl_wrong, zOl_wrong, zMl_wrong), (nat_lit 2, zPl_token, zOl_token, zMl_token), (nat_lit 3, zPl_isKey, zOl_isKey, zMl_isKey), (nat_lit 4, zPl_isCounted, zOl_isCounted, zMl_isCounted), (nat_lit 5, zPl_waitsFor, zOl_waitsFor, zMl_waitsFor), (nat_lit 6, zPl_rank, zOl_rank, zMl_rank), (nat_lit 7, zPl_bind, zOl_bind, zMl_bind)] pCl_signs qCl_signs) 0).2 [45] η3 x5 η4 → (¬ x5 = 0) → (iCl_signs xs η0) 1 [12] η4 ∧ (fun (_ : Nat) (_ : List Int) (_ : zE) => (0 : Nat)) 1 [12] η4 < 1 := by
  have hw : η 0 45 = 0 := hig.2.1
  have hr1 : 1 ≤ η 0 19 := hig.2.2.1
  have hs1 : η 0 7 = η0 0 7 := hig.2.2.2.1
  have hs2 : η 0 6 = η0 0 6 := hig.2.2.2.2.1
  have hs3 : η 0 8 = η0 0 8 := hig.2.2.2.2.2
  have kk : η 0 8 = 5 → 0 ≤ η 0 9 ∧ η 0 9 ≤ 5 := hig.1.1.1.2.1.2
  have bd43 : (0 : Int) ≤ η 0 43 ∧ η 0 43 ≤ 8 := wf_ok (a := 43) (b := 43) (z := (0, 8)) hI.1.1 (by decide +kernel) (Nat.le_refl _) (Nat.le_refl _)
  have bd44 : (0 : Int) ≤ η 0 44 ∧ η 0 44 ≤ 64 := wf_ok (a := 44) (b := 44) (z := (0, 64)) hI.1.1 (by decide +kernel) (Nat.le_refl _) (Nat.le_refl _)
  have bd19 : (0 : Int) ≤ η 0 19 ∧ η 0 19 ≤ 64 := wf_ok (a := 19) (b := 19) (z := (0, 64)) hI.1.1 (by decide +kernel) (Nat.le_refl _) (Nat.le_refl _)
  obtain ⟨u1, u2, u3, u4⟩ := hig.1.2
  have cn := cz_n (η := η) (η 0 41).toNat
  intro x1 η1 h1 c1 x2 η2 h2 c2 x3 e3 r3 c3 x4 η3 h4 c4 x5 η4 h5 c5
  have k1 : sQ wl_l zTr zOl_isKey zMl_isKey [10] η x1 η1 ∧ pQl_isKey [10] η x1 η1 := h1
  have k2 : sQ wl_l zTr zOl_isKey zMl_isKey [11] η1 x2 η2 ∧ pQl_isKey [11] η1 x2 η2 := h2
  have k4 : sQ wl_l zTr zOl_isSign zMl_isSign [43] η2 x4 η3 ∧ pQl_isSign [43] η2 x4 η3 := h4
  have k5 : sQ wl_l zTr zOl_isSign zMl_isSign [45] η3 x5 η4 ∧ pQl_isSign [45] η3 x5 η4 := h5
  have w0_0_8 : (0 : Int) ≤ η 0 8 ∧ η 0 8 ≤ 6 := wf_ok (a := 8) (b := 8) (z := (0, 6)) hI.1.1 (by decide +kernel) (Nat.le_refl _) (Nat.le_refl _)
  have c0_0_8 : η 0 8 = η 0 8 := rfl
  have wb1 : wB wl_l zTr η1 := k1.1.1
  have bx1 : (0 : Int) ≤ x1 ∧ x1 ≤ 1 := k1.1.2.1
  have v1 : zEq (η1 0 8) (η 0 8) := (k1.1.2.2.2.1 0 8 (by decide +kernel)).trans rfl
  have c1_0_8 : η1 0 8 = η 0 8 := v1
  have wb2 : wB wl_l zTr η2 := k2.1.1
  have bx2 : (0 : Int) ≤ x2 ∧ x2 ≤ 1 := k2.1.2.1
  have v2 : zEq (η2 0 8) (η 0 8) := (k2.1.2.2.2.1 0 8 (by decide +kernel)).trans v1
  replace e3 : x3 = η 0 8 := e3.trans v2
  have c2_0_8 : η2 0 8 = η 0 8 := v2
  have wb3 : wB wl_l zTr η3 := k4.1.1
  have bx4 : (0 : Int) ≤ x4 ∧ x4 ≤ 1 := k4.1.2.1
  have v3 : zEq (η3 0 8) (η 0 8) := (k4.1.2.2.2.1 0 8 (by decide +kernel)).trans v2
  have c3_0_8 : η3 0 8 = η 0 8 := v3
  have wb4 : wB wl_l zTr η4 := k5.1.1
  have bx5 : (0 : Int) ≤ x5 ∧ x5 ≤ 1 := k5.1.2.1
  have fm1 : zFm zMl_signs η0 η1 := zFm_tr2 hI.2 k1.1.2.2.2.1 (by decide +kernel)
  have fm2 : zFm zMl_signs η0 η2 := zFm_tr2 fm1 k2.1.2.2.2.1 (by decide +kernel)
  have fm3 : zFm zMl_signs η0 η3 := zFm_tr2 fm2 k4.1.2.2.2.1 (by decide +kernel)
  have fm4 : zFm zMl_signs η0 η4 := zFm_tr2 fm3 k5.1.2.2.2.1 (by decide +kernel)
  have fmE : zFm zMl_signs η0 η4 := fm4
  have fr22_0 : ∀ j, η 22 j = η 22 j := fun _ => rfl
  have v4 : ∀ j, η1 22 j = η 22 j := fun j => k1.1.2.2.2.1 22 _ (zinr_not (by decide +kernel))
  have fr22_1 : ∀ j, η1 22 j = η 22 j := v4
  have v5 : ∀ j, η2 22 j = η 22 j := fun j => (k2.1.2.2.2.1 22 _ (zinr_not (by decide +kernel))).trans (v4 j)
  have fr22_2 : ∀ j, η2 22 j = η 22 j := v5
  have v6 : ∀ j, η3 22 j = η 22 j := fun j => (k4.1.2.2.2.1 22 _ (zinr_not (by decide +kernel))).trans (v5 j)
  have fr22_3 : ∀ j, η3 22 j = η 22 j := v6
  have v7 : ∀ j, η4 22 j = η 22 j := fun j => (k5.1.2.2.2.1 22 _ (zinr_not (by decide +kernel))).trans (v6 j)
  have fr22_4 : ∀ j, η4 22 j = η 22 j := v7
  have fr22 : ∀ j, η4 22 j = η 22 j := v7
  have v9 : zEq (η1 0 41) (η 0 41) := (k1.1.2.2.2.1 0 41 (by decide +kernel)).trans rfl
  have v10 : zEq (η2 0 41) (η 0 41) := (k2.1.2.2.2.1 0 41 (by decide +kernel)).trans v9
  have v11 : zEq (η3 0 41) (η 0 41) := (k4.1.2.2.2.1 0 41 (by decide +kernel)).trans v10
  have v12 : zEq (η4 0 41) (η 0 41) := (k5.1.2.2.2.1 0 41 (by decide +kernel)).trans v11
  have f0_41 : η4 0 41 = η 0 41 := v12
  have w0_0_43 : (0 : Int) ≤ η 0 43 ∧ η 0 43 ≤ 8 := wf_ok (a := 43) (b := 43) (z := (0, 8)) hI.1.1 (by decide +kernel) (Nat.le_refl _) (Nat.le_refl _)
  have v14 : zEq (η1 0 43) (η 0 43) := (k1.1.2.2.2.1 0 43 (by decide +kernel)).trans rfl
  have v15 : zEq (η2 0 43) (η 0 43) := (k2.1.2.2.2.1 0 43 (by decide +kernel)).trans v14
  have v16 : zEq (η3 0 43) (η 0 43) := (k4.1.2.2.2.1 0 43 (by decide +kernel)).trans v15
  have v17 : zEq (η4 0 43) (η 0 43) := (k5.1.2.2.2.1 0 43 (by decide +kernel)).trans v16
  have f0_43 : η4 0 43 = η 0 43 := v17
  have v19 : zEq (η1 0 42) (η 0 42) := (k1.1.2.2.2.1 0 42 (by decide +kernel)).trans rfl
  have v20 : zEq (η2 0 42) (η 0 42) := (k2.1.2.2.2.1 0 42 (by decide +kernel)).trans v19
  have v21 : zEq (η3 0 42) (η 0 42) := (k4.1.2.2.2.1 0 42 (by decide +kernel)).trans v20
  have v22 : zEq (η4 0 42) (η 0 42) := (k5.1.2.2.2.1 0 42 (by decide +kernel)).trans v21
  have f0_42 : η4 0 42 = η 0 42 := v22
  have v24 : zEq (η1 0 45) (η 0 45) := (k1.1.2.2.2.1 0 45 (by decide +kernel)).trans rfl
  have v25 : zEq (η2 0 45) (η 0 45) := (k2.1.2.2.2.1 0 45 (by decide +kernel)).trans v24
  have v26 : zEq (η3 0 45) (η 0 45) := (k4.1.2.2.2.1 0 45 (by decide +kernel)).trans v25
  have v27 : zEq (η4 0 45) (η 0 45) := (k5.1.2.2.2.1 0 45 (by decide +kernel)).trans v26
  have f0_45 : η4 0 45 = η 0 45 := v27
  have w0_0_19 : (0 : Int) ≤ η 0 19 ∧ η 0 19 ≤ 64 := wf_ok (a := 19) (b := 19) (z := (0, 64)) hI.1.1 (by decide +kernel) (Nat.le_refl _) (Nat.le_refl _)
  have v29 : zEq (η1 0 19) (η 0 19) := (k1.1.2.2.2.1 0 19 (by decide +kernel)).trans rfl
  have v30 : zEq (η2 0 19) (η 0 19) := (k2.1.2.2.2.1 0 19 (by decide +kernel)).trans v29
  have v31 : zEq (η3 0 19) (η 0 19) := (k4.1.2.2.2.1 0 19 (by decide +kernel)).trans v30
  have v32 : zEq (η4 0 19) (η 0 19) := (k5.1.2.2.2.1 0 19 (by decide +kernel)).trans v31
  have f0_19 : η4 0 19 = η 0 19 := v32
  have w0_0_44 : (0 : Int) ≤ η 0 44 ∧ η 0 44 ≤ 64 := wf_ok (a := 44) (b := 44) (z := (0, 64)) hI.1.1 (by decide +kernel) (Nat.le_refl _) (Nat.le_refl _)
  have v34 : zEq (η1 0 44) (η 0 44) := (k1.1.2.2.2.1 0 44 (by decide +kernel)).trans rfl
  have v35 : zEq (η2 0 44) (η 0 44) := (k2.1.2.2.2.1 0 44 (by decide +kernel)).trans v34
  have v36 : zEq (η3 0 44) (η 0 44) := (k4.1.2.2.2.1 0 44 (by decide +kernel)).trans v35
  have v37 : zEq (η4 0 44) (η 0 44) := (k5.1.2.2.2.1 0 44 (by decide +kernel)).trans v36
  have f0_44 : η4 0 44 = η 0 44 := v37
  have w0_0_7 : (0 : Int) ≤ η 0 7 ∧ η 0 7 ≤ 700 := wf_ok (a := 7) (b := 7) (z := (0, 700)) hI.1.1 (by decide +kernel) (Nat.le_refl _) (Nat.le_refl _)
  have v39 : zEq (η1 0 7) (η 0 7) := (k1.1.2.2.2.1 0 7 (by decide +kernel)).trans rfl
  have v40 : zEq (η2 0 7) (η 0 7) := (k2.1.2.2.2.1 0 7 (by decide +kernel)).trans v39
  have v41 : zEq (η3 0 7) (η 0 7) := (k4.1.2.2.2.1 0 7 (by decide +kernel)).trans v40
  have v42 : zEq (η4 0 7) (η 0 7) := (k5.1.2.2.2.1 0 7 (by decide +kernel)).trans v41
  have f0_7 : η4 0 7 = η 0 7 := v42
  have w0_0_6 : (0 : Int) ≤ η 0 6 ∧ η 0 6 ≤ 700 := wf_ok (a := 6) (b := 6) (z := (0, 700)) hI.1.1 (by decide +kernel) (Nat.le_refl _) (Nat.le_refl _)
  have v44 : zEq (η1 0 6) (η 0 6) := (k1.1.2.2.2.1 0 6 (by decide +kernel)).trans rfl
  have v45 : zEq (η2 0 6) (η 0 6) := (k2.1.2.2.2.1 0 6 (by decide +kernel)).trans v44
  have v46 : zEq (η3 0 6) (η 0 6) := (k4.1.2.2.2.1 0 6 (by decide +kernel)).trans v45
  have v47 : zEq (η4 0 6) (η 0 6) := (k5.1.2.2.2.1 0 6 (by decide +kernel)).trans v46
  have f0_6 : η4 0 6 = η 0 6 := v47
  have v48 : zEq (η4 0 8) (η 0 8) := (k5.1.2.2.2.1 0 8 (by decide +kernel)).trans v3
  have f0_8 : η4 0 8 = η 0 8 := v48
  have wbE : wB wl_l zTr η4 := wb4
  
  have I0 : H_l 0 0 0 η := hig.1
  have I1 : H_l 0 0 0 η1 := k1.2.1
  have I2 : H_l 0 0 0 η2 := k2.2.1
  have I3 : H_l 0 0 0 η3 := k4.2.1
  have I4 : H_l 0 0 0 η4 := k5.2.1
  have qk5 : η3 0 8 = 4 := k5.2.2 c5
  exact ⟨⟨I4, show η4 0 45 = 0 by apply Int.le_antisymm <;> omega, show 1 ≤ η4 0 19 by omega, show η4 0 7 = η0 0 7 by apply Int.le_antisymm <;> omega, show η4 0 6 = η0 0 6 by apply Int.le_antisymm <;> omega, show η4 0 8 = η0 0 8 by apply Int.le_antisymm <;> omega, Or.inr ⟨by decide, show ¬ η4 0 8 = 0 by omega⟩⟩, Nat.zero_lt_one⟩
set_option maxHeartbeats 8000000 in
theorem zl_signs_o16 {ro : Nat → List Int32} (xs : List Int) (η0 : zE) (hp : sP wl_l zTr zPl_signs xs η0) (hpp : pPl_signs xs η0) (η : zE) (hI : zsI wl_l zTr zVl_signs zMl_signs η0 0 [] η) (hig : iCl_signs xs η0 0 [] η) : ∀ (x1 : Int) (η1 : zE), ((gC2 wl_l [(nat_lit 0, zPl_isSign, zOl_isSign, zMl_isSign), (nat_lit 1, zPl_wrong, zOl_wrong, zMl_wrong), (nat_lit 2, zPl_token, zOl_token, zMl_token), (nat_lit 3, zPl_isKey, zOl_isKey, zMl_isKey), (nat_lit 4, zPl_isCounted, zOl_isCounted, zMl_isCounted), (nat_lit 5, zPl_waitsFor, zOl_waitsFor, zMl_waitsFor), (nat_lit 6, zPl_rank, zOl_rank, zMl_rank), (nat_lit 7, zPl_bind, zOl_bind, zMl_bind)] pCl_signs qCl_signs) 3).2 [10] η x1 η1 → (x1 = 0) → ∀ (x2 : Int) (η2 : zE), ((gC2 wl_l [(nat_lit 0, zPl_isSign, zOl_isSign, zMl_isSign), (nat_lit 1, zPl_wrong, zOl_wrong, zMl_wrong), (nat_lit 2, zPl_token, zOl_token, zMl_token), (nat_lit 3, zPl_isKey, zOl_isKey, zMl_isKey), (nat_lit 4, zPl_isCounted, zOl_isCounted, zMl_isCounted), (nat_lit 5, zPl_waitsFor, zOl_waitsFor, zMl_waitsFor), (nat_lit 6, zPl_rank, zOl_rank, zMl_rank), (nat_lit 7, zPl_bind, zOl_bind, zMl_bind)] pCl_signs qCl_signs) 3).2 [11] η1 x2 η2 → (x2 = 0) → ∀ x3 : Int, x3 = η2 0 (Int.toNat 8) → zok 0 x3 → (¬ x3 = 5) → ∀ (x4 : Int) (η3 : zE), ((gC2 wl_l [(nat_lit 0, zPl_isSign, zOl_isSign, zMl_isSign), (nat_lit 1, zPl_wrong, zOl_wrong, zMl_wrong), (nat_lit 2, zPl_token, zOl_token, zMl_token), (nat_lit 3, zPl_isKey, zOl_isKey, zMl_isKey), (nat_lit 4, zPl_isCounted, zOl_isCounted, zMl_isCounted), (nat_lit 5, zPl_waitsFor, zOl_waitsFor, zMl_waitsFor), (nat_lit 6, zPl_rank, zOl_rank, zMl_rank), (nat_lit 7, zPl_bind, zOl_bind, zMl_bind)] pCl_signs qCl_signs) 0).2 [43] η2 x4 η3 → (¬ x4 = 0) → (iCl_signs xs η0) 1 [11] η3 ∧ (fun (_ : Nat) (_ : List Int) (_ : zE) => (0 : Nat)) 1 [11] η3 < 1 := by
  have hw : η 0 45 = 0 := hig.2.1
  have hr1 : 1 ≤ η 0 19 := hig.2.2.1
  have hs1 : η 0 7 = η0 0 7 := hig.2.2.2.1
  have hs2 : η 0 6 = η0 0 6 := hig.2.2.2.2.1
  have hs3 : η 0 8 = η0 0 8 := hig.2.2.2.2.2
  have kk : η 0 8 = 5 → 0 ≤ η 0 9 ∧ η 0 9 ≤ 5 := hig.1.1.1.2.1.2
  have bd43 : (0 : Int) ≤ η 0 43 ∧ η 0 43 ≤ 8 := wf_ok (a := 43) (b := 43) (z := (0, 8)) hI.1.1 (by decide +kernel) (Nat.le_refl _) (Nat.le_refl _)
  have bd44 : (0 : Int) ≤ η 0 44 ∧ η 0 44 ≤ 64 := wf_ok (a := 44) (b := 44) (z := (0, 64)) hI.1.1 (by decide +kernel) (Nat.le_refl _) (Nat.le_refl _)
  have bd19 : (0 : Int) ≤ η 0 19 ∧ η 0 19 ≤ 64 := wf_ok (a := 19) (b := 19) (z := (0, 64)) hI.1.1 (by decide +kernel) (Nat.le_refl _) (Nat.le_refl _)
  obtain ⟨u1, u2, u3, u4⟩ := hig.1.2
  have cn := cz_n (η := η) (η 0 41).toNat
  intro x1 η1 h1 c1 x2 η2 h2 c2 x3 e3 r3 c3 x4 η3 h4 c4
  have k1 : sQ wl_l zTr zOl_isKey zMl_isKey [10] η x1 η1 ∧ pQl_isKey [10] η x1 η1 := h1
  have k2 : sQ wl_l zTr zOl_isKey zMl_isKey [11] η1 x2 η2 ∧ pQl_isKey [11] η1 x2 η2 := h2
  have k4 : sQ wl_l zTr zOl_isSign zMl_isSign [43] η2 x4 η3 ∧ pQl_isSign [43] η2 x4 η3 := h4
  have w0_0_8 : (0 : Int) ≤ η 0 8 ∧ η 0 8 ≤ 6 := wf_ok (a := 8) (b := 8) (z := (0, 6)) hI.1.1 (by decide +kernel) (Nat.le_refl _) (Nat.le_refl _)
  have c0_0_8 : η 0 8 = η 0 8 := rfl
  have wb1 : wB wl_l zTr η1 := k1.1.1
  have bx1 : (0 : Int) ≤ x1 ∧ x1 ≤ 1 := k1.1.2.1
  have v1 : zEq (η1 0 8) (η 0 8) := (k1.1.2.2.2.1 0 8 (by decide +kernel)).trans rfl
  have c1_0_8 : η1 0 8 = η 0 8 := v1
  have wb2 : wB wl_l zTr η2 := k2.1.1
  have bx2 : (0 : Int) ≤ x2 ∧ x2 ≤ 1 := k2.1.2.1
  have v2 : zEq (η2 0 8) (η 0 8) := (k2.1.2.2.2.1 0 8 (by decide +kernel)).trans v1
  replace e3 : x3 = η 0 8 := e3.trans v2
  have c2_0_8 : η2 0 8 = η 0 8 := v2
  have wb3 : wB wl_l zTr η3 := k4.1.1
  have bx4 : (0 : Int) ≤ x4 ∧ x4 ≤ 1 := k4.1.2.1
  have fm1 : zFm zMl_signs η0 η1 := zFm_tr2 hI.2 k1.1.2.2.2.1 (by decide +kernel)
  have fm2 : zFm zMl_signs η0 η2 := zFm_tr2 fm1 k2.1.2.2.2.1 (by decide +kernel)
  have fm3 : zFm zMl_signs η0 η3 := zFm_tr2 fm2 k4.1.2.2.2.1 (by decide +kernel)
  have fmE : zFm zMl_signs η0 η3 := fm3
  have fr22_0 : ∀ j, η 22 j = η 22 j := fun _ => rfl
  have v3 : ∀ j, η1 22 j = η 22 j := fun j => k1.1.2.2.2.1 22 _ (zinr_not (by decide +kernel))
  have fr22_1 : ∀ j, η1 22 j = η 22 j := v3
  have v4 : ∀ j, η2 22 j = η 22 j := fun j => (k2.1.2.2.2.1 22 _ (zinr_not (by decide +kernel))).trans (v3 j)
  have fr22_2 : ∀ j, η2 22 j = η 22 j := v4
  have v5 : ∀ j, η3 22 j = η 22 j := fun j => (k4.1.2.2.2.1 22 _ (zinr_not (by decide +kernel))).trans (v4 j)
  have fr22_3 : ∀ j, η3 22 j = η 22 j := v5
  have fr22 : ∀ j, η3 22 j = η 22 j := v5
  have v7 : zEq (η1 0 41) (η 0 41) := (k1.1.2.2.2.1 0 41 (by decide +kernel)).trans rfl
  have v8 : zEq (η2 0 41) (η 0 41) := (k2.1.2.2.2.1 0 41 (by decide +kernel)).trans v7
  have v9 : zEq (η3 0 41) (η 0 41) := (k4.1.2.2.2.1 0 41 (by decide +kernel)).trans v8
  have f0_41 : η3 0 41 = η 0 41 := v9
  have w0_0_43 : (0 : Int) ≤ η 0 43 ∧ η 0 43 ≤ 8 := wf_ok (a := 43) (b := 43) (z := (0, 8)) hI.1.1 (by decide +kernel) (Nat.le_refl _) (Nat.le_refl _)
  have v11 : zEq (η1 0 43) (η 0 43) := (k1.1.2.2.2.1 0 43 (by decide +kernel)).trans rfl
  have v12 : zEq (η2 0 43) (η 0 43) := (k2.1.2.2.2.1 0 43 (by decide +kernel)).trans v11
  have v13 : zEq (η3 0 43) (η 0 43) := (k4.1.2.2.2.1 0 43 (by decide +kernel)).trans v12
  have f0_43 : η3 0 43 = η 0 43 := v13
  have v15 : zEq (η1 0 42) (η 0 42) := (k1.1.2.2.2.1 0 42 (by decide +kernel)).trans rfl
  have v16 : zEq (η2 0 42) (η 0 42) := (k2.1.2.2.2.1 0 42 (by decide +kernel)).trans v15
  have v17 : zEq (η3 0 42) (η 0 42) := (k4.1.2.2.2.1 0 42 (by decide +kernel)).trans v16
  have f0_42 : η3 0 42 = η 0 42 := v17
  have v19 : zEq (η1 0 45) (η 0 45) := (k1.1.2.2.2.1 0 45 (by decide +kernel)).trans rfl
  have v20 : zEq (η2 0 45) (η 0 45) := (k2.1.2.2.2.1 0 45 (by decide +kernel)).trans v19
  have v21 : zEq (η3 0 45) (η 0 45) := (k4.1.2.2.2.1 0 45 (by decide +kernel)).trans v20
  have f0_45 : η3 0 45 = η 0 45 := v21
  have w0_0_19 : (0 : Int) ≤ η 0 19 ∧ η 0 19 ≤ 64 := wf_ok (a := 19) (b := 19) (z := (0, 64)) hI.1.1 (by decide +kernel) (Nat.le_refl _) (Nat.le_refl _)
  have v23 : zEq (η1 0 19) (η 0 19) := (k1.1.2.2.2.1 0 19 (by decide +kernel)).trans rfl
  have v24 : zEq (η2 0 19) (η 0 19) := (k2.1.2.2.2.1 0 19 (by decide +kernel)).trans v23
  have v25 : zEq (η3 0 19) (η 0 19) := (k4.1.2.2.2.1 0 19 (by decide +kernel)).trans v24
  have f0_19 : η3 0 19 = η 0 19 := v25
  have w0_0_44 : (0 : Int) ≤ η 0 44 ∧ η 0 44 ≤ 64 := wf_ok (a := 44) (b := 44) (z := (0, 64)) hI.1.1 (by decide +kernel) (Nat.le_refl _) (Nat.le_refl _)
  have v27 : zEq (η1 0 44) (η 0 44) := (k1.1.2.2.2.1 0 44 (by decide +kernel)).trans rfl
  have v28 : zEq (η2 0 44) (η 0 44) := (k2.1.2.2.2.1 0 44 (by decide +kernel)).trans v27
  have v29 : zEq (η3 0 44) (η 0 44) := (k4.1.2.2.2.1 0 44 (by decide +kernel)).trans v28
  have f0_44 : η3 0 44 = η 0 44 := v29
  have w0_0_7 : (0 : Int) ≤ η 0 7 ∧ η 0 7 ≤ 700 := wf_ok (a := 7) (b := 7) (z := (0, 700)) hI.1.1 (by decide +kernel) (Nat.le_refl _) (Nat.le_refl _)
  have v31 : zEq (η1 0 7) (η 0 7) := (k1.1.2.2.2.1 0 7 (by decide +kernel)).trans rfl
  have v32 : zEq (η2 0 7) (η 0 7) := (k2.1.2.2.2.1 0 7 (by decide +kernel)).trans v31
  have v33 : zEq (η3 0 7) (η 0 7) := (k4.1.2.2.2.1 0 7 (by decide +kernel)).trans v32
  have f0_7 : η3 0 7 = η 0 7 := v33
  have w0_0_6 : (0 : Int) ≤ η 0 6 ∧ η 0 6 ≤ 700 := wf_ok (a := 6) (b := 6) (z := (0, 700)) hI.1.1 (by decide +kernel) (Nat.le_refl _) (Nat.le_refl _)
  have v35 : zEq (η1 0 6) (η 0 6) := (k1.1.2.2.2.1 0 6 (by decide +kernel)).trans rfl
  have v36 : zEq (η2 0 6) (η 0 6) := (k2.1.2.2.2.1 0 6 (by decide +kernel)).trans v35
  have v37 : zEq (η3 0 6) (η 0 6) := (k4.1.2.2.2.1 0 6 (by decide +kernel)).trans v36
  have f0_6 : η3 0 6 = η 0 6 := v37
  have v38 : zEq (η3 0 8) (η 0 8) := (k4.1.2.2.2.1 0 8 (by decide +kernel)).trans v2
  have f0_8 : η3 0 8 = η 0 8 := v38
  have wbE : wB wl_l zTr η3 := wb3
  
  have I0 : H_l 0 0 0 η := hig.1
  have I1 : H_l 0 0 0 η1 := k1.2.1
  have I2 : H_l 0 0 0 η2 := k2.2.1
  have I3 : H_l 0 0 0 η3 := k4.2.1
  have qk4 : η2 0 8 = 4 := k4.2.2 c4
  exact ⟨⟨I3, show η3 0 45 = 0 by apply Int.le_antisymm <;> omega, show 1 ≤ η3 0 19 by omega, show η3 0 7 = η0 0 7 by apply Int.le_antisymm <;> omega, show η3 0 6 = η0 0 6 by apply Int.le_antisymm <;> omega, show η3 0 8 = η0 0 8 by apply Int.le_antisymm <;> omega, Or.inr ⟨by decide, show ¬ η3 0 8 = 0 by omega⟩⟩, Nat.zero_lt_one⟩
set_option maxHeartbeats 8000000 in
theorem zl_signs_o17 {ro : Nat → List Int32} (xs : List Int) (η0 : zE) (hp : sP wl_l zTr zPl_signs xs η0) (hpp : pPl_signs xs η0) (η : zE) (hI : zsI wl_l zTr zVl_signs zMl_signs η0 0 [] η) (hig : iCl_signs xs η0 0 [] η) : ∀ (x1 : Int) (η1 : zE), ((gC2 wl_l [(nat_lit 0, zPl_isSign, zOl_isSign, zMl_isSign), (nat_lit 1, zPl_wrong, zOl_wrong, zMl_wrong), (nat_lit 2, zPl_token, zOl_token, zMl_token), (nat_lit 3, zPl_isKey, zOl_isKey, zMl_isKey), (nat_lit 4, zPl_isCounted, zOl_isCounted, zMl_isCounted), (nat_lit 5, zPl_waitsFor, zOl_waitsFor, zMl_waitsFor), (nat_lit 6, zPl_rank, zOl_rank, zMl_rank), (nat_lit 7, zPl_bind, zOl_bind, zMl_bind)] pCl_signs qCl_signs) 3).2 [10] η x1 η1 → (x1 = 0) → ∀ (x2 : Int) (η2 : zE), ((gC2 wl_l [(nat_lit 0, zPl_isSign, zOl_isSign, zMl_isSign), (nat_lit 1, zPl_wrong, zOl_wrong, zMl_wrong), (nat_lit 2, zPl_token, zOl_token, zMl_token), (nat_lit 3, zPl_isKey, zOl_isKey, zMl_isKey), (nat_lit 4, zPl_isCounted, zOl_isCounted, zMl_isCounted), (nat_lit 5, zPl_waitsFor, zOl_waitsFor, zMl_waitsFor), (nat_lit 6, zPl_rank, zOl_rank, zMl_rank), (nat_lit 7, zPl_bind, zOl_bind, zMl_bind)] pCl_signs qCl_signs) 3).2 [11] η1 x2 η2 → (¬ x2 = 0) → (iCl_signs xs η0) 1 [4] η2 ∧ (fun (_ : Nat) (_ : List Int) (_ : zE) => (0 : Nat)) 1 [4] η2 < 1 := by
  have hw : η 0 45 = 0 := hig.2.1
  have hr1 : 1 ≤ η 0 19 := hig.2.2.1
  have hs1 : η 0 7 = η0 0 7 := hig.2.2.2.1
  have hs2 : η 0 6 = η0 0 6 := hig.2.2.2.2.1
  have hs3 : η 0 8 = η0 0 8 := hig.2.2.2.2.2
  have kk : η 0 8 = 5 → 0 ≤ η 0 9 ∧ η 0 9 ≤ 5 := hig.1.1.1.2.1.2
  have bd43 : (0 : Int) ≤ η 0 43 ∧ η 0 43 ≤ 8 := wf_ok (a := 43) (b := 43) (z := (0, 8)) hI.1.1 (by decide +kernel) (Nat.le_refl _) (Nat.le_refl _)
  have bd44 : (0 : Int) ≤ η 0 44 ∧ η 0 44 ≤ 64 := wf_ok (a := 44) (b := 44) (z := (0, 64)) hI.1.1 (by decide +kernel) (Nat.le_refl _) (Nat.le_refl _)
  have bd19 : (0 : Int) ≤ η 0 19 ∧ η 0 19 ≤ 64 := wf_ok (a := 19) (b := 19) (z := (0, 64)) hI.1.1 (by decide +kernel) (Nat.le_refl _) (Nat.le_refl _)
  obtain ⟨u1, u2, u3, u4⟩ := hig.1.2
  have cn := cz_n (η := η) (η 0 41).toNat
  intro x1 η1 h1 c1 x2 η2 h2 c2
  have k1 : sQ wl_l zTr zOl_isKey zMl_isKey [10] η x1 η1 ∧ pQl_isKey [10] η x1 η1 := h1
  have k2 : sQ wl_l zTr zOl_isKey zMl_isKey [11] η1 x2 η2 ∧ pQl_isKey [11] η1 x2 η2 := h2
  have w0_0_8 : (0 : Int) ≤ η 0 8 ∧ η 0 8 ≤ 6 := wf_ok (a := 8) (b := 8) (z := (0, 6)) hI.1.1 (by decide +kernel) (Nat.le_refl _) (Nat.le_refl _)
  have c0_0_8 : η 0 8 = η 0 8 := rfl
  have wb1 : wB wl_l zTr η1 := k1.1.1
  have bx1 : (0 : Int) ≤ x1 ∧ x1 ≤ 1 := k1.1.2.1
  have v1 : zEq (η1 0 8) (η 0 8) := (k1.1.2.2.2.1 0 8 (by decide +kernel)).trans rfl
  have c1_0_8 : η1 0 8 = η 0 8 := v1
  have wb2 : wB wl_l zTr η2 := k2.1.1
  have bx2 : (0 : Int) ≤ x2 ∧ x2 ≤ 1 := k2.1.2.1
  have fm1 : zFm zMl_signs η0 η1 := zFm_tr2 hI.2 k1.1.2.2.2.1 (by decide +kernel)
  have fm2 : zFm zMl_signs η0 η2 := zFm_tr2 fm1 k2.1.2.2.2.1 (by decide +kernel)
  have fmE : zFm zMl_signs η0 η2 := fm2
  have fr22_0 : ∀ j, η 22 j = η 22 j := fun _ => rfl
  have v2 : ∀ j, η1 22 j = η 22 j := fun j => k1.1.2.2.2.1 22 _ (zinr_not (by decide +kernel))
  have fr22_1 : ∀ j, η1 22 j = η 22 j := v2
  have v3 : ∀ j, η2 22 j = η 22 j := fun j => (k2.1.2.2.2.1 22 _ (zinr_not (by decide +kernel))).trans (v2 j)
  have fr22_2 : ∀ j, η2 22 j = η 22 j := v3
  have fr22 : ∀ j, η2 22 j = η 22 j := v3
  have v5 : zEq (η1 0 41) (η 0 41) := (k1.1.2.2.2.1 0 41 (by decide +kernel)).trans rfl
  have v6 : zEq (η2 0 41) (η 0 41) := (k2.1.2.2.2.1 0 41 (by decide +kernel)).trans v5
  have f0_41 : η2 0 41 = η 0 41 := v6
  have w0_0_43 : (0 : Int) ≤ η 0 43 ∧ η 0 43 ≤ 8 := wf_ok (a := 43) (b := 43) (z := (0, 8)) hI.1.1 (by decide +kernel) (Nat.le_refl _) (Nat.le_refl _)
  have v8 : zEq (η1 0 43) (η 0 43) := (k1.1.2.2.2.1 0 43 (by decide +kernel)).trans rfl
  have v9 : zEq (η2 0 43) (η 0 43) := (k2.1.2.2.2.1 0 43 (by decide +kernel)).trans v8
  have f0_43 : η2 0 43 = η 0 43 := v9
  have v11 : zEq (η1 0 42) (η 0 42) := (k1.1.2.2.2.1 0 42 (by decide +kernel)).trans rfl
  have v12 : zEq (η2 0 42) (η 0 42) := (k2.1.2.2.2.1 0 42 (by decide +kernel)).trans v11
  have f0_42 : η2 0 42 = η 0 42 := v12
  have v14 : zEq (η1 0 45) (η 0 45) := (k1.1.2.2.2.1 0 45 (by decide +kernel)).trans rfl
  have v15 : zEq (η2 0 45) (η 0 45) := (k2.1.2.2.2.1 0 45 (by decide +kernel)).trans v14
  have f0_45 : η2 0 45 = η 0 45 := v15
  have w0_0_19 : (0 : Int) ≤ η 0 19 ∧ η 0 19 ≤ 64 := wf_ok (a := 19) (b := 19) (z := (0, 64)) hI.1.1 (by decide +kernel) (Nat.le_refl _) (Nat.le_refl _)
  have v17 : zEq (η1 0 19) (η 0 19) := (k1.1.2.2.2.1 0 19 (by decide +kernel)).trans rfl
  have v18 : zEq (η2 0 19) (η 0 19) := (k2.1.2.2.2.1 0 19 (by decide +kernel)).trans v17
  have f0_19 : η2 0 19 = η 0 19 := v18
  have w0_0_44 : (0 : Int) ≤ η 0 44 ∧ η 0 44 ≤ 64 := wf_ok (a := 44) (b := 44) (z := (0, 64)) hI.1.1 (by decide +kernel) (Nat.le_refl _) (Nat.le_refl _)
  have v20 : zEq (η1 0 44) (η 0 44) := (k1.1.2.2.2.1 0 44 (by decide +kernel)).trans rfl
  have v21 : zEq (η2 0 44) (η 0 44) := (k2.1.2.2.2.1 0 44 (by decide +kernel)).trans v20
  have f0_44 : η2 0 44 = η 0 44 := v21
  have w0_0_7 : (0 : Int) ≤ η 0 7 ∧ η 0 7 ≤ 700 := wf_ok (a := 7) (b := 7) (z := (0, 700)) hI.1.1 (by decide +kernel) (Nat.le_refl _) (Nat.le_refl _)
  have v23 : zEq (η1 0 7) (η 0 7) := (k1.1.2.2.2.1 0 7 (by decide +kernel)).trans rfl
  have v24 : zEq (η2 0 7) (η 0 7) := (k2.1.2.2.2.1 0 7 (by decide +kernel)).trans v23
  have f0_7 : η2 0 7 = η 0 7 := v24
  have w0_0_6 : (0 : Int) ≤ η 0 6 ∧ η 0 6 ≤ 700 := wf_ok (a := 6) (b := 6) (z := (0, 700)) hI.1.1 (by decide +kernel) (Nat.le_refl _) (Nat.le_refl _)
  have v26 : zEq (η1 0 6) (η 0 6) := (k1.1.2.2.2.1 0 6 (by decide +kernel)).trans rfl
  have v27 : zEq (η2 0 6) (η 0 6) := (k2.1.2.2.2.1 0 6 (by decide +kernel)).trans v26
  have f0_6 : η2 0 6 = η 0 6 := v27
  have v28 : zEq (η2 0 8) (η 0 8) := (k2.1.2.2.2.1 0 8 (by decide +kernel)).trans v1
  have f0_8 : η2 0 8 = η 0 8 := v28
  have wbE : wB wl_l zTr η2 := wb2
  
  have I0 : H_l 0 0 0 η := hig.1
  have I1 : H_l 0 0 0 η1 := k1.2.1
  have I2 : H_l 0 0 0 η2 := k2.2.1
  have qk2 : η1 0 8 = 1 := k2.2.2 c2
  exact ⟨⟨I2, show η2 0 45 = 0 by apply Int.le_antisymm <;> omega, show 1 ≤ η2 0 19 by omega, show η2 0 7 = η0 0 7 by apply Int.le_antisymm <;> omega, show η2 0 6 = η0 0 6 by apply Int.le_antisymm <;> omega, show η2 0 8 = η0 0 8 by apply Int.le_antisymm <;> omega, Or.inr ⟨by decide, show ¬ η2 0 8 = 0 by omega⟩⟩, Nat.zero_lt_one⟩
set_option maxHeartbeats 8000000 in
theorem zl_signs_o18 {ro : Nat → List Int32} (xs : List Int) (η0 : zE) (hp : sP wl_l zTr zPl_signs xs η0) (hpp : pPl_signs xs η0) (η : zE) (hI : zsI wl_l zTr zVl_signs zMl_signs η0 0 [] η) (hig : iCl_signs xs η0 0 [] η) : ∀ (x1 : Int) (η1 : zE), ((gC2 wl_l [(nat_lit 0, zPl_isSign, zOl_isSign, zMl_isSign), (nat_lit 1, zPl_wrong, zOl_wrong, zMl_wrong), (nat_lit 2, zPl_token, zOl_token, zMl_token), (nat_lit 3, zPl_isKey, zOl_isKey, zMl_isKey), (nat_lit 4, zPl_isCounted, zOl_isCounted, zMl_isCounted), (nat_lit 5, zPl_waitsFor, zOl_waitsFor, zMl_waitsFor), (nat_lit 6, zPl_rank, zOl_rank, zMl_rank), (nat_lit 7, zPl_bind, zOl_bind, zMl_bind)] pCl_signs qCl_signs) 3).2 [10] η x1 η1 → (¬ x1 = 0) → (iCl_signs xs η0) 1 [3] η1 ∧ (fun (_ : Nat) (_ : List Int) (_ : zE) => (0 : Nat)) 1 [3] η1 < 1 := by
  have hw : η 0 45 = 0 := hig.2.1
  have hr1 : 1 ≤ η 0 19 := hig.2.2.1
  have hs1 : η 0 7 = η0 0 7 := hig.2.2.2.1
  have hs2 : η 0 6 = η0 0 6 := hig.2.2.2.2.1
  have hs3 : η 0 8 = η0 0 8 := hig.2.2.2.2.2
  have kk : η 0 8 = 5 → 0 ≤ η 0 9 ∧ η 0 9 ≤ 5 := hig.1.1.1.2.1.2
  have bd43 : (0 : Int) ≤ η 0 43 ∧ η 0 43 ≤ 8 := wf_ok (a := 43) (b := 43) (z := (0, 8)) hI.1.1 (by decide +kernel) (Nat.le_refl _) (Nat.le_refl _)
  have bd44 : (0 : Int) ≤ η 0 44 ∧ η 0 44 ≤ 64 := wf_ok (a := 44) (b := 44) (z := (0, 64)) hI.1.1 (by decide +kernel) (Nat.le_refl _) (Nat.le_refl _)
  have bd19 : (0 : Int) ≤ η 0 19 ∧ η 0 19 ≤ 64 := wf_ok (a := 19) (b := 19) (z := (0, 64)) hI.1.1 (by decide +kernel) (Nat.le_refl _) (Nat.le_refl _)
  obtain ⟨u1, u2, u3, u4⟩ := hig.1.2
  have cn := cz_n (η := η) (η 0 41).toNat
  intro x1 η1 h1 c1
  have k1 : sQ wl_l zTr zOl_isKey zMl_isKey [10] η x1 η1 ∧ pQl_isKey [10] η x1 η1 := h1
  have w0_0_8 : (0 : Int) ≤ η 0 8 ∧ η 0 8 ≤ 6 := wf_ok (a := 8) (b := 8) (z := (0, 6)) hI.1.1 (by decide +kernel) (Nat.le_refl _) (Nat.le_refl _)
  have c0_0_8 : η 0 8 = η 0 8 := rfl
  have wb1 : wB wl_l zTr η1 := k1.1.1
  have bx1 : (0 : Int) ≤ x1 ∧ x1 ≤ 1 := k1.1.2.1
  have fm1 : zFm zMl_signs η0 η1 := zFm_tr2 hI.2 k1.1.2.2.2.1 (by decide +kernel)
  have fmE : zFm zMl_signs η0 η1 := fm1
  have fr22_0 : ∀ j, η 22 j = η 22 j := fun _ => rfl
  have v1 : ∀ j, η1 22 j = η 22 j := fun j => k1.1.2.2.2.1 22 _ (zinr_not (by decide +kernel))
  have fr22_1 : ∀ j, η1 22 j = η 22 j := v1
  have fr22 : ∀ j, η1 22 j = η 22 j := v1
  have v3 : zEq (η1 0 41) (η 0 41) := (k1.1.2.2.2.1 0 41 (by decide +kernel)).trans rfl
  have f0_41 : η1 0 41 = η 0 41 := v3
  have w0_0_43 : (0 : Int) ≤ η 0 43 ∧ η 0 43 ≤ 8 := wf_ok (a := 43) (b := 43) (z := (0, 8)) hI.1.1 (by decide +kernel) (Nat.le_refl _) (Nat.le_refl _)
  have v5 : zEq (η1 0 43) (η 0 43) := (k1.1.2.2.2.1 0 43 (by decide +kernel)).trans rfl
  have f0_43 : η1 0 43 = η 0 43 := v5
  have v7 : zEq (η1 0 42) (η 0 42) := (k1.1.2.2.2.1 0 42 (by decide +kernel)).trans rfl
  have f0_42 : η1 0 42 = η 0 42 := v7
  have v9 : zEq (η1 0 45) (η 0 45) := (k1.1.2.2.2.1 0 45 (by decide +kernel)).trans rfl
  have f0_45 : η1 0 45 = η 0 45 := v9
  have w0_0_19 : (0 : Int) ≤ η 0 19 ∧ η 0 19 ≤ 64 := wf_ok (a := 19) (b := 19) (z := (0, 64)) hI.1.1 (by decide +kernel) (Nat.le_refl _) (Nat.le_refl _)
  have v11 : zEq (η1 0 19) (η 0 19) := (k1.1.2.2.2.1 0 19 (by decide +kernel)).trans rfl
  have f0_19 : η1 0 19 = η 0 19 := v11
  have w0_0_44 : (0 : Int) ≤ η 0 44 ∧ η 0 44 ≤ 64 := wf_ok (a := 44) (b := 44) (z := (0, 64)) hI.1.1 (by decide +kernel) (Nat.le_refl _) (Nat.le_refl _)
  have v13 : zEq (η1 0 44) (η 0 44) := (k1.1.2.2.2.1 0 44 (by decide +kernel)).trans rfl
  have f0_44 : η1 0 44 = η 0 44 := v13
  have w0_0_7 : (0 : Int) ≤ η 0 7 ∧ η 0 7 ≤ 700 := wf_ok (a := 7) (b := 7) (z := (0, 700)) hI.1.1 (by decide +kernel) (Nat.le_refl _) (Nat.le_refl _)
  have v15 : zEq (η1 0 7) (η 0 7) := (k1.1.2.2.2.1 0 7 (by decide +kernel)).trans rfl
  have f0_7 : η1 0 7 = η 0 7 := v15
  have w0_0_6 : (0 : Int) ≤ η 0 6 ∧ η 0 6 ≤ 700 := wf_ok (a := 6) (b := 6) (z := (0, 700)) hI.1.1 (by decide +kernel) (Nat.le_refl _) (Nat.le_refl _)
  have v17 : zEq (η1 0 6) (η 0 6) := (k1.1.2.2.2.1 0 6 (by decide +kernel)).trans rfl
  have f0_6 : η1 0 6 = η 0 6 := v17
  have v18 : zEq (η1 0 8) (η 0 8) := (k1.1.2.2.2.1 0 8 (by decide +kernel)).trans rfl
  have f0_8 : η1 0 8 = η 0 8 := v18
  have wbE : wB wl_l zTr η1 := wb1
  
  have I0 : H_l 0 0 0 η := hig.1
  have I1 : H_l 0 0 0 η1 := k1.2.1
  have qk1 : η 0 8 = 1 := k1.2.2 c1
  exact ⟨⟨I1, show η1 0 45 = 0 by apply Int.le_antisymm <;> omega, show 1 ≤ η1 0 19 by omega, show η1 0 7 = η0 0 7 by apply Int.le_antisymm <;> omega, show η1 0 6 = η0 0 6 by apply Int.le_antisymm <;> omega, show η1 0 8 = η0 0 8 by apply Int.le_antisymm <;> omega, Or.inr ⟨by decide, show ¬ η1 0 8 = 0 by omega⟩⟩, Nat.zero_lt_one⟩
set_option maxHeartbeats 8000000 in
theorem zl_signs_o19 {ro : Nat → List Int32} (xs : List Int) (η0 : zE) (hp : sP wl_l zTr zPl_signs xs η0) (hpp : pPl_signs xs η0) (η : zE) (hI : zsI wl_l zTr zVl_signs zMl_signs η0 0 [] η) (hig : iCl_signs xs η0 0 [] η) : ∀ (x1 : Int) (η1 : zE), ((gC wl_l [(nat_lit 0, zPl_isSign, zOl_isSign, zMl_isSign), (nat_lit 1, zPl_wrong, zOl_wrong, zMl_wrong), (nat_lit 2, zPl_token, zOl_token, zMl_token), (nat_lit 3, zPl_isKey, zOl_isKey, zMl_isKey), (nat_lit 4, zPl_isCounted, zOl_isCounted, zMl_isCounted), (nat_lit 5, zPl_waitsFor, zOl_waitsFor, zMl_waitsFor), (nat_lit 6, zPl_rank, zOl_rank, zMl_rank), (nat_lit 7, zPl_bind, zOl_bind, zMl_bind)] pCl_signs qCl_signs) 3).2 [10] η x1 η1 → (x1 = 0) → ∀ (x2 : Int) (η2 : zE), ((gC wl_l [(nat_lit 0, zPl_isSign, zOl_isSign, zMl_isSign), (nat_lit 1, zPl_wrong, zOl_wrong, zMl_wrong), (nat_lit 2, zPl_token, zOl_token, zMl_token), (nat_lit 3, zPl_isKey, zOl_isKey, zMl_isKey), (nat_lit 4, zPl_isCounted, zOl_isCounted, zMl_isCounted), (nat_lit 5, zPl_waitsFor, zOl_waitsFor, zMl_waitsFor), (nat_lit 6, zPl_rank, zOl_rank, zMl_rank), (nat_lit 7, zPl_bind, zOl_bind, zMl_bind)] pCl_signs qCl_signs) 3).2 [11] η1 x2 η2 → (x2 = 0) → ∀ x3 : Int, x3 = η2 0 (Int.toNat 8) → zok 0 x3 → (x3 = 5) → ∀ x4 : Int, x4 = η2 0 (Int.toNat 9) → zok 0 x4 → ∀ x5 : Int, x5 = zd 0 1 5 x4 → (fun c ys η1 => zsI wl_l zTr zVl_signs zMl_signs η0 c ys η1 ∧ iCl_signs xs η0 c ys η1) 1 [x5] η2 ∧ (zsM zVl_signs) 1 [x5] η2 < zsM zVl_signs 0 [] η := by
  have hw : η 0 45 = 0 := hig.2.1
  have hr1 : 1 ≤ η 0 19 := hig.2.2.1
  have hs1 : η 0 7 = η0 0 7 := hig.2.2.2.1
  have hs2 : η 0 6 = η0 0 6 := hig.2.2.2.2.1
  have hs3 : η 0 8 = η0 0 8 := hig.2.2.2.2.2
  have kk : η 0 8 = 5 → 0 ≤ η 0 9 ∧ η 0 9 ≤ 5 := hig.1.1.1.2.1.2
  have bd43 : (0 : Int) ≤ η 0 43 ∧ η 0 43 ≤ 8 := wf_ok (a := 43) (b := 43) (z := (0, 8)) hI.1.1 (by decide +kernel) (Nat.le_refl _) (Nat.le_refl _)
  have bd44 : (0 : Int) ≤ η 0 44 ∧ η 0 44 ≤ 64 := wf_ok (a := 44) (b := 44) (z := (0, 64)) hI.1.1 (by decide +kernel) (Nat.le_refl _) (Nat.le_refl _)
  have bd19 : (0 : Int) ≤ η 0 19 ∧ η 0 19 ≤ 64 := wf_ok (a := 19) (b := 19) (z := (0, 64)) hI.1.1 (by decide +kernel) (Nat.le_refl _) (Nat.le_refl _)
  obtain ⟨u1, u2, u3, u4⟩ := hig.1.2
  have cn := cz_n (η := η) (η 0 41).toNat
  intro x1 η1 h1 c1 x2 η2 h2 c2 x3 e3 r3 c3 x4 e4 r4 x5 e5
  replace e5 := zEq_i e5
  have k1 : sQ wl_l zTr zOl_isKey zMl_isKey [10] η x1 η1 ∧ pQl_isKey [10] η x1 η1 := h1
  have k2 : sQ wl_l zTr zOl_isKey zMl_isKey [11] η1 x2 η2 ∧ pQl_isKey [11] η1 x2 η2 := h2
  have w0_0_8 : (0 : Int) ≤ η 0 8 ∧ η 0 8 ≤ 6 := wf_ok (a := 8) (b := 8) (z := (0, 6)) hI.1.1 (by decide +kernel) (Nat.le_refl _) (Nat.le_refl _)
  have c0_0_8 : η 0 8 = η 0 8 := rfl
  have wb1 : wB wl_l zTr η1 := k1.1.1
  have bx1 : (0 : Int) ≤ x1 ∧ x1 ≤ 1 := k1.1.2.1
  have v1 : zEq (η1 0 8) (η 0 8) := (k1.1.2.2.2.1 0 8 (by decide +kernel)).trans rfl
  have c1_0_8 : η1 0 8 = η 0 8 := v1
  have wb2 : wB wl_l zTr η2 := k2.1.1
  have bx2 : (0 : Int) ≤ x2 ∧ x2 ≤ 1 := k2.1.2.1
  have v2 : zEq (η2 0 8) (η 0 8) := (k2.1.2.2.2.1 0 8 (by decide +kernel)).trans v1
  replace e3 : x3 = η 0 8 := e3.trans v2
  have v4 : zEq (η1 0 9) (η 0 9) := (k1.1.2.2.2.1 0 9 (by decide +kernel)).trans rfl
  have v5 : zEq (η2 0 9) (η 0 9) := (k2.1.2.2.2.1 0 9 (by decide +kernel)).trans v4
  replace e4 : x4 = η 0 9 := e4.trans v5
  replace r4 : -2147483648 ≤ x4 ∧ x4 ≤ 2147483647 := r4
  first
  | replace e5 : x5 = 5 + x4 := zd_a2 (zEq_o e5) (by clear e5; exact ⟨by omega, by omega⟩)
  | clear e5
  have fm1 : zFm zMl_signs η0 η1 := zFm_tr2 hI.2 k1.1.2.2.2.1 (by decide +kernel)
  have fm2 : zFm zMl_signs η0 η2 := zFm_tr2 fm1 k2.1.2.2.2.1 (by decide +kernel)
  have fmE : zFm zMl_signs η0 η2 := fm2
  have fr22_0 : ∀ j, η 22 j = η 22 j := fun _ => rfl
  have v6 : ∀ j, η1 22 j = η 22 j := fun j => k1.1.2.2.2.1 22 _ (zinr_not (by decide +kernel))
  have fr22_1 : ∀ j, η1 22 j = η 22 j := v6
  have v7 : ∀ j, η2 22 j = η 22 j := fun j => (k2.1.2.2.2.1 22 _ (zinr_not (by decide +kernel))).trans (v6 j)
  have fr22_2 : ∀ j, η2 22 j = η 22 j := v7
  have fr22 : ∀ j, η2 22 j = η 22 j := v7
  have v9 : zEq (η1 0 41) (η 0 41) := (k1.1.2.2.2.1 0 41 (by decide +kernel)).trans rfl
  have v10 : zEq (η2 0 41) (η 0 41) := (k2.1.2.2.2.1 0 41 (by decide +kernel)).trans v9
  have f0_41 : η2 0 41 = η 0 41 := v10
  have w0_0_43 : (0 : Int) ≤ η 0 43 ∧ η 0 43 ≤ 8 := wf_ok (a := 43) (b := 43) (z := (0, 8)) hI.1.1 (by decide +kernel) (Nat.le_refl _) (Nat.le_refl _)
  have v12 : zEq (η1 0 43) (η 0 43) := (k1.1.2.2.2.1 0 43 (by decide +kernel)).trans rfl
  have v13 : zEq (η2 0 43) (η 0 43) := (k2.1.2.2.2.1 0 43 (by decide +kernel)).trans v12
  have f0_43 : η2 0 43 = η 0 43 := v13
  have v15 : zEq (η1 0 42) (η 0 42) := (k1.1.2.2.2.1 0 42 (by decide +kernel)).trans rfl
  have v16 : zEq (η2 0 42) (η 0 42) := (k2.1.2.2.2.1 0 42 (by decide +kernel)).trans v15
  have f0_42 : η2 0 42 = η 0 42 := v16
  have v18 : zEq (η1 0 45) (η 0 45) := (k1.1.2.2.2.1 0 45 (by decide +kernel)).trans rfl
  have v19 : zEq (η2 0 45) (η 0 45) := (k2.1.2.2.2.1 0 45 (by decide +kernel)).trans v18
  have f0_45 : η2 0 45 = η 0 45 := v19
  have w0_0_19 : (0 : Int) ≤ η 0 19 ∧ η 0 19 ≤ 64 := wf_ok (a := 19) (b := 19) (z := (0, 64)) hI.1.1 (by decide +kernel) (Nat.le_refl _) (Nat.le_refl _)
  have v21 : zEq (η1 0 19) (η 0 19) := (k1.1.2.2.2.1 0 19 (by decide +kernel)).trans rfl
  have v22 : zEq (η2 0 19) (η 0 19) := (k2.1.2.2.2.1 0 19 (by decide +kernel)).trans v21
  have f0_19 : η2 0 19 = η 0 19 := v22
  have w0_0_44 : (0 : Int) ≤ η 0 44 ∧ η 0 44 ≤ 64 := wf_ok (a := 44) (b := 44) (z := (0, 64)) hI.1.1 (by decide +kernel) (Nat.le_refl _) (Nat.le_refl _)
  have v24 : zEq (η1 0 44) (η 0 44) := (k1.1.2.2.2.1 0 44 (by decide +kernel)).trans rfl
  have v25 : zEq (η2 0 44) (η 0 44) := (k2.1.2.2.2.1 0 44 (by decide +kernel)).trans v24
  have f0_44 : η2 0 44 = η 0 44 := v25
  have w0_0_7 : (0 : Int) ≤ η 0 7 ∧ η 0 7 ≤ 700 := wf_ok (a := 7) (b := 7) (z := (0, 700)) hI.1.1 (by decide +kernel) (Nat.le_refl _) (Nat.le_refl _)
  have v27 : zEq (η1 0 7) (η 0 7) := (k1.1.2.2.2.1 0 7 (by decide +kernel)).trans rfl
  have v28 : zEq (η2 0 7) (η 0 7) := (k2.1.2.2.2.1 0 7 (by decide +kernel)).trans v27
  have f0_7 : η2 0 7 = η 0 7 := v28
  have w0_0_6 : (0 : Int) ≤ η 0 6 ∧ η 0 6 ≤ 700 := wf_ok (a := 6) (b := 6) (z := (0, 700)) hI.1.1 (by decide +kernel) (Nat.le_refl _) (Nat.le_refl _)
  have v30 : zEq (η1 0 6) (η 0 6) := (k1.1.2.2.2.1 0 6 (by decide +kernel)).trans rfl
  have v31 : zEq (η2 0 6) (η 0 6) := (k2.1.2.2.2.1 0 6 (by decide +kernel)).trans v30
  have f0_6 : η2 0 6 = η 0 6 := v31
  have f0_8 : η2 0 8 = η 0 8 := v2
  have wbE : wB wl_l zTr η2 := wb2
  
  have I0 : H_l 0 0 0 η := hig.1
  have I1 : H_l 0 0 0 η1 := k1.2.1
  have I2 : H_l 0 0 0 η2 := k2.2.1
  exact ⟨⟨⟨⟨wbE, ⟨⟨show (0 : Int) ≤ x5 by omega, show x5 ≤ 14 by omega⟩, trivial⟩, fun f hf => nomatch hf⟩, fmE⟩, ⟨I2, show η2 0 45 = 0 by apply Int.le_antisymm <;> omega, show 1 ≤ η2 0 19 by omega, show η2 0 7 = η0 0 7 by apply Int.le_antisymm <;> omega, show η2 0 6 = η0 0 6 by apply Int.le_antisymm <;> omega, show η2 0 8 = η0 0 8 by apply Int.le_antisymm <;> omega, Or.inr ⟨show 3 ≤ x5 by omega, show ¬ η2 0 8 = 0 by omega⟩⟩⟩, show (8 : Nat) < 9 by decide⟩
set_option maxHeartbeats 8000000 in
theorem zl_signs_o20 {ro : Nat → List Int32} (xs : List Int) (η0 : zE) (hp : sP wl_l zTr zPl_signs xs η0) (hpp : pPl_signs xs η0) (x1 : Int) (η : zE) (hI : zsI wl_l zTr zVl_signs zMl_signs η0 1 [x1] η) (hig : iCl_signs xs η0 1 [x1] η) : (¬ x1 = 0) → ((gC2 wl_l [(nat_lit 0, zPl_isSign, zOl_isSign, zMl_isSign), (nat_lit 1, zPl_wrong, zOl_wrong, zMl_wrong), (nat_lit 2, zPl_token, zOl_token, zMl_token), (nat_lit 3, zPl_isKey, zOl_isKey, zMl_isKey), (nat_lit 4, zPl_isCounted, zOl_isCounted, zMl_isCounted), (nat_lit 5, zPl_waitsFor, zOl_waitsFor, zMl_waitsFor), (nat_lit 6, zPl_rank, zOl_rank, zMl_rank), (nat_lit 7, zPl_bind, zOl_bind, zMl_bind)] pCl_signs qCl_signs) 6).1 [x1] η := by
  have hw : η 0 45 = 0 := hig.2.1
  have hr1 : 1 ≤ η 0 19 := hig.2.2.1
  have hs1 : η 0 7 = η0 0 7 := hig.2.2.2.1
  have hs2 : η 0 6 = η0 0 6 := hig.2.2.2.2.1
  have hs3 : η 0 8 = η0 0 8 := hig.2.2.2.2.2.1
  have hk : x1 = 0 ∨ (3 ≤ x1 ∧ ¬ η 0 8 = 0) := hig.2.2.2.2.2.2
  have kk : η 0 8 = 5 → 0 ≤ η 0 9 ∧ η 0 9 ≤ 5 := hig.1.1.1.2.1.2
  have bd43 : (0 : Int) ≤ η 0 43 ∧ η 0 43 ≤ 8 := wf_ok (a := 43) (b := 43) (z := (0, 8)) hI.1.1 (by decide +kernel) (Nat.le_refl _) (Nat.le_refl _)
  have bd44 : (0 : Int) ≤ η 0 44 ∧ η 0 44 ≤ 64 := wf_ok (a := 44) (b := 44) (z := (0, 64)) hI.1.1 (by decide +kernel) (Nat.le_refl _) (Nat.le_refl _)
  have bd19 : (0 : Int) ≤ η 0 19 ∧ η 0 19 ≤ 64 := wf_ok (a := 19) (b := 19) (z := (0, 64)) hI.1.1 (by decide +kernel) (Nat.le_refl _) (Nat.le_refl _)
  obtain ⟨u1, u2, u3, u4⟩ := hig.1.2
  have cn := cz_n (η := η) (η 0 41).toNat
  intro c1
  have bx1 : (0 : Int) ≤ x1 ∧ x1 ≤ 14 := hI.1.2.1.1
  have fmE : zFm zMl_signs η0 η := hI.2
  have fr22_0 : ∀ j, η 22 j = η 22 j := fun _ => rfl
  have fr22 : ∀ j, η 22 j = η 22 j := fun _ => rfl
  have f0_41 : η 0 41 = η 0 41 := rfl
  have w0_0_43 : (0 : Int) ≤ η 0 43 ∧ η 0 43 ≤ 8 := wf_ok (a := 43) (b := 43) (z := (0, 8)) hI.1.1 (by decide +kernel) (Nat.le_refl _) (Nat.le_refl _)
  have f0_43 : η 0 43 = η 0 43 := rfl
  have f0_42 : η 0 42 = η 0 42 := rfl
  have f0_45 : η 0 45 = η 0 45 := rfl
  have w0_0_19 : (0 : Int) ≤ η 0 19 ∧ η 0 19 ≤ 64 := wf_ok (a := 19) (b := 19) (z := (0, 64)) hI.1.1 (by decide +kernel) (Nat.le_refl _) (Nat.le_refl _)
  have f0_19 : η 0 19 = η 0 19 := rfl
  have w0_0_44 : (0 : Int) ≤ η 0 44 ∧ η 0 44 ≤ 64 := wf_ok (a := 44) (b := 44) (z := (0, 64)) hI.1.1 (by decide +kernel) (Nat.le_refl _) (Nat.le_refl _)
  have f0_44 : η 0 44 = η 0 44 := rfl
  have w0_0_7 : (0 : Int) ≤ η 0 7 ∧ η 0 7 ≤ 700 := wf_ok (a := 7) (b := 7) (z := (0, 700)) hI.1.1 (by decide +kernel) (Nat.le_refl _) (Nat.le_refl _)
  have f0_7 : η 0 7 = η 0 7 := rfl
  have w0_0_6 : (0 : Int) ≤ η 0 6 ∧ η 0 6 ≤ 700 := wf_ok (a := 6) (b := 6) (z := (0, 700)) hI.1.1 (by decide +kernel) (Nat.le_refl _) (Nat.le_refl _)
  have f0_6 : η 0 6 = η 0 6 := rfl
  have w0_0_8 : (0 : Int) ≤ η 0 8 ∧ η 0 8 ≤ 6 := wf_ok (a := 8) (b := 8) (z := (0, 6)) hI.1.1 (by decide +kernel) (Nat.le_refl _) (Nat.le_refl _)
  have f0_8 : η 0 8 = η 0 8 := rfl
  have wbE : wB wl_l zTr η := hI.1.1
  
  have I0 : H_l 0 0 0 η := hig.1
  exact I0
set_option maxHeartbeats 8000000 in
theorem zl_signs_o21 {ro : Nat → List Int32} (xs : List Int) (η0 : zE) (hp : sP wl_l zTr zPl_signs xs η0) (hpp : pPl_signs xs η0) (x1 : Int) (η : zE) (hI : zsI wl_l zTr zVl_signs zMl_signs η0 1 [x1] η) (hig : iCl_signs xs η0 1 [x1] η) : (¬ x1 = 0) → ∀ (x2 : Int) (η1 : zE), ((gC2 wl_l [(nat_lit 0, zPl_isSign, zOl_isSign, zMl_isSign), (nat_lit 1, zPl_wrong, zOl_wrong, zMl_wrong), (nat_lit 2, zPl_token, zOl_token, zMl_token), (nat_lit 3, zPl_isKey, zOl_isKey, zMl_isKey), (nat_lit 4, zPl_isCounted, zOl_isCounted, zMl_isCounted), (nat_lit 5, zPl_waitsFor, zOl_waitsFor, zMl_waitsFor), (nat_lit 6, zPl_rank, zOl_rank, zMl_rank), (nat_lit 7, zPl_bind, zOl_bind, zMl_bind)] pCl_signs qCl_signs) 6).2 [x1] η x2 η1 → (¬ x2 = 4) → ((gC2 wl_l [(nat_lit 0, zPl_isSign, zOl_isSign, zMl_isSign), (nat_lit 1, zPl_wrong, zOl_wrong, zMl_wrong), (nat_lit 2, zPl_token, zOl_token, zMl_token), (nat_lit 3, zPl_isKey, zOl_isKey, zMl_isKey), (nat_lit 4, zPl_isCounted, zOl_isCounted, zMl_isCounted), (nat_lit 5, zPl_waitsFor, zOl_waitsFor, zMl_waitsFor), (nat_lit 6, zPl_rank, zOl_rank, zMl_rank), (nat_lit 7, zPl_bind, zOl_bind, zMl_bind)] pCl_signs qCl_signs) 6).1 [x1] η1 := by
  have hw : η 0 45 = 0 := hig.2.1
  have hr1 : 1 ≤ η 0 19 := hig.2.2.1
  have hs1 : η 0 7 = η0 0 7 := hig.2.2.2.1
  have hs2 : η 0 6 = η0 0 6 := hig.2.2.2.2.1
  have hs3 : η 0 8 = η0 0 8 := hig.2.2.2.2.2.1
  have hk : x1 = 0 ∨ (3 ≤ x1 ∧ ¬ η 0 8 = 0) := hig.2.2.2.2.2.2
  have kk : η 0 8 = 5 → 0 ≤ η 0 9 ∧ η 0 9 ≤ 5 := hig.1.1.1.2.1.2
  have bd43 : (0 : Int) ≤ η 0 43 ∧ η 0 43 ≤ 8 := wf_ok (a := 43) (b := 43) (z := (0, 8)) hI.1.1 (by decide +kernel) (Nat.le_refl _) (Nat.le_refl _)
  have bd44 : (0 : Int) ≤ η 0 44 ∧ η 0 44 ≤ 64 := wf_ok (a := 44) (b := 44) (z := (0, 64)) hI.1.1 (by decide +kernel) (Nat.le_refl _) (Nat.le_refl _)
  have bd19 : (0 : Int) ≤ η 0 19 ∧ η 0 19 ≤ 64 := wf_ok (a := 19) (b := 19) (z := (0, 64)) hI.1.1 (by decide +kernel) (Nat.le_refl _) (Nat.le_refl _)
  obtain ⟨u1, u2, u3, u4⟩ := hig.1.2
  have cn := cz_n (η := η) (η 0 41).toNat
  intro c1 x2 η1 h2 c2
  have k2 : sQ wl_l zTr zOl_rank zMl_rank [x1] η x2 η1 ∧ pQl_rank [x1] η x2 η1 := h2
  have bx1 : (0 : Int) ≤ x1 ∧ x1 ≤ 14 := hI.1.2.1.1
  have w0_0_8 : (0 : Int) ≤ η 0 8 ∧ η 0 8 ≤ 6 := wf_ok (a := 8) (b := 8) (z := (0, 6)) hI.1.1 (by decide +kernel) (Nat.le_refl _) (Nat.le_refl _)
  have c0_0_8 : η 0 8 = η 0 8 := rfl
  have wb1 : wB wl_l zTr η1 := k2.1.1
  have bx2 : (0 : Int) ≤ x2 ∧ x2 ≤ 6 := k2.1.2.1
  have fm1 : zFm zMl_signs η0 η1 := zFm_tr2 hI.2 k2.1.2.2.2.1 (by decide +kernel)
  have fmE : zFm zMl_signs η0 η1 := fm1
  have fr22_0 : ∀ j, η 22 j = η 22 j := fun _ => rfl
  have v1 : ∀ j, η1 22 j = η 22 j := fun j => k2.1.2.2.2.1 22 _ (zinr_not (by decide +kernel))
  have fr22_1 : ∀ j, η1 22 j = η 22 j := v1
  have fr22 : ∀ j, η1 22 j = η 22 j := v1
  have v3 : zEq (η1 0 41) (η 0 41) := (k2.1.2.2.2.1 0 41 (by decide +kernel)).trans rfl
  have f0_41 : η1 0 41 = η 0 41 := v3
  have w0_0_43 : (0 : Int) ≤ η 0 43 ∧ η 0 43 ≤ 8 := wf_ok (a := 43) (b := 43) (z := (0, 8)) hI.1.1 (by decide +kernel) (Nat.le_refl _) (Nat.le_refl _)
  have v5 : zEq (η1 0 43) (η 0 43) := (k2.1.2.2.2.1 0 43 (by decide +kernel)).trans rfl
  have f0_43 : η1 0 43 = η 0 43 := v5
  have v7 : zEq (η1 0 42) (η 0 42) := (k2.1.2.2.2.1 0 42 (by decide +kernel)).trans rfl
  have f0_42 : η1 0 42 = η 0 42 := v7
  have v9 : zEq (η1 0 45) (η 0 45) := (k2.1.2.2.2.1 0 45 (by decide +kernel)).trans rfl
  have f0_45 : η1 0 45 = η 0 45 := v9
  have w0_0_19 : (0 : Int) ≤ η 0 19 ∧ η 0 19 ≤ 64 := wf_ok (a := 19) (b := 19) (z := (0, 64)) hI.1.1 (by decide +kernel) (Nat.le_refl _) (Nat.le_refl _)
  have v11 : zEq (η1 0 19) (η 0 19) := (k2.1.2.2.2.1 0 19 (by decide +kernel)).trans rfl
  have f0_19 : η1 0 19 = η 0 19 := v11
  have w0_0_44 : (0 : Int) ≤ η 0 44 ∧ η 0 44 ≤ 64 := wf_ok (a := 44) (b := 44) (z := (0, 64)) hI.1.1 (by decide +kernel) (Nat.le_refl _) (Nat.le_refl _)
  have v13 : zEq (η1 0 44) (η 0 44) := (k2.1.2.2.2.1 0 44 (by decide +kernel)).trans rfl
  have f0_44 : η1 0 44 = η 0 44 := v13
  have w0_0_7 : (0 : Int) ≤ η 0 7 ∧ η 0 7 ≤ 700 := wf_ok (a := 7) (b := 7) (z := (0, 700)) hI.1.1 (by decide +kernel) (Nat.le_refl _) (Nat.le_refl _)
  have v15 : zEq (η1 0 7) (η 0 7) := (k2.1.2.2.2.1 0 7 (by decide +kernel)).trans rfl
  have f0_7 : η1 0 7 = η 0 7 := v15
  have w0_0_6 : (0 : Int) ≤ η 0 6 ∧ η 0 6 ≤ 700 := wf_ok (a := 6) (b := 6) (z := (0, 700)) hI.1.1 (by decide +kernel) (Nat.le_refl _) (Nat.le_refl _)
  have v17 : zEq (η1 0 6) (η 0 6) := (k2.1.2.2.2.1 0 6 (by decide +kernel)).trans rfl
  have f0_6 : η1 0 6 = η 0 6 := v17
  have v18 : zEq (η1 0 8) (η 0 8) := (k2.1.2.2.2.1 0 8 (by decide +kernel)).trans rfl
  have f0_8 : η1 0 8 = η 0 8 := v18
  have wbE : wB wl_l zTr η1 := wb1
  
  have I0 : H_l 0 0 0 η := hig.1
  have I1 : H_l 0 0 0 η1 := k2.2.1
  have qr2 : (1 ≤ x2 → 2 ≤ x1) ∧ (2 ≤ x1 → 1 ≤ x2) := k2.2.2
  exact I1
set_option maxHeartbeats 8000000 in
theorem zl_signs_o22 {ro : Nat → List Int32} (xs : List Int) (η0 : zE) (hp : sP wl_l zTr zPl_signs xs η0) (hpp : pPl_signs xs η0) (x1 : Int) (η : zE) (hI : zsI wl_l zTr zVl_signs zMl_signs η0 1 [x1] η) (hig : iCl_signs xs η0 1 [x1] η) : (¬ x1 = 0) → ∀ (x2 : Int) (η1 : zE), ((gC2 wl_l [(nat_lit 0, zPl_isSign, zOl_isSign, zMl_isSign), (nat_lit 1, zPl_wrong, zOl_wrong, zMl_wrong), (nat_lit 2, zPl_token, zOl_token, zMl_token), (nat_lit 3, zPl_isKey, zOl_isKey, zMl_isKey), (nat_lit 4, zPl_isCounted, zOl_isCounted, zMl_isCounted), (nat_lit 5, zPl_waitsFor, zOl_waitsFor, zMl_waitsFor), (nat_lit 6, zPl_rank, zOl_rank, zMl_rank), (nat_lit 7, zPl_bind, zOl_bind, zMl_bind)] pCl_signs qCl_signs) 6).2 [x1] η x2 η1 → (x2 = 4) → ((gC2 wl_l [(nat_lit 0, zPl_isSign, zOl_isSign, zMl_isSign), (nat_lit 1, zPl_wrong, zOl_wrong, zMl_wrong), (nat_lit 2, zPl_token, zOl_token, zMl_token), (nat_lit 3, zPl_isKey, zOl_isKey, zMl_isKey), (nat_lit 4, zPl_isCounted, zOl_isCounted, zMl_isCounted), (nat_lit 5, zPl_waitsFor, zOl_waitsFor, zMl_waitsFor), (nat_lit 6, zPl_rank, zOl_rank, zMl_rank), (nat_lit 7, zPl_bind, zOl_bind, zMl_bind)] pCl_signs qCl_signs) 7).1 [5] η1 := by
  have hw : η 0 45 = 0 := hig.2.1
  have hr1 : 1 ≤ η 0 19 := hig.2.2.1
  have hs1 : η 0 7 = η0 0 7 := hig.2.2.2.1
  have hs2 : η 0 6 = η0 0 6 := hig.2.2.2.2.1
  have hs3 : η 0 8 = η0 0 8 := hig.2.2.2.2.2.1
  have hk : x1 = 0 ∨ (3 ≤ x1 ∧ ¬ η 0 8 = 0) := hig.2.2.2.2.2.2
  have kk : η 0 8 = 5 → 0 ≤ η 0 9 ∧ η 0 9 ≤ 5 := hig.1.1.1.2.1.2
  have bd43 : (0 : Int) ≤ η 0 43 ∧ η 0 43 ≤ 8 := wf_ok (a := 43) (b := 43) (z := (0, 8)) hI.1.1 (by decide +kernel) (Nat.le_refl _) (Nat.le_refl _)
  have bd44 : (0 : Int) ≤ η 0 44 ∧ η 0 44 ≤ 64 := wf_ok (a := 44) (b := 44) (z := (0, 64)) hI.1.1 (by decide +kernel) (Nat.le_refl _) (Nat.le_refl _)
  have bd19 : (0 : Int) ≤ η 0 19 ∧ η 0 19 ≤ 64 := wf_ok (a := 19) (b := 19) (z := (0, 64)) hI.1.1 (by decide +kernel) (Nat.le_refl _) (Nat.le_refl _)
  obtain ⟨u1, u2, u3, u4⟩ := hig.1.2
  have cn := cz_n (η := η) (η 0 41).toNat
  intro c1 x2 η1 h2 c2
  have k2 : sQ wl_l zTr zOl_rank zMl_rank [x1] η x2 η1 ∧ pQl_rank [x1] η x2 η1 := h2
  have bx1 : (0 : Int) ≤ x1 ∧ x1 ≤ 14 := hI.1.2.1.1
  have w0_0_8 : (0 : Int) ≤ η 0 8 ∧ η 0 8 ≤ 6 := wf_ok (a := 8) (b := 8) (z := (0, 6)) hI.1.1 (by decide +kernel) (Nat.le_refl _) (Nat.le_refl _)
  have c0_0_8 : η 0 8 = η 0 8 := rfl
  have wb1 : wB wl_l zTr η1 := k2.1.1
  have bx2 : (0 : Int) ≤ x2 ∧ x2 ≤ 6 := k2.1.2.1
  have fm1 : zFm zMl_signs η0 η1 := zFm_tr2 hI.2 k2.1.2.2.2.1 (by decide +kernel)
  have fmE : zFm zMl_signs η0 η1 := fm1
  have fr22_0 : ∀ j, η 22 j = η 22 j := fun _ => rfl
  have v1 : ∀ j, η1 22 j = η 22 j := fun j => k2.1.2.2.2.1 22 _ (zinr_not (by decide +kernel))
  have fr22_1 : ∀ j, η1 22 j = η 22 j := v1
  have fr22 : ∀ j, η1 22 j = η 22 j := v1
  have v3 : zEq (η1 0 41) (η 0 41) := (k2.1.2.2.2.1 0 41 (by decide +kernel)).trans rfl
  have f0_41 : η1 0 41 = η 0 41 := v3
  have w0_0_43 : (0 : Int) ≤ η 0 43 ∧ η 0 43 ≤ 8 := wf_ok (a := 43) (b := 43) (z := (0, 8)) hI.1.1 (by decide +kernel) (Nat.le_refl _) (Nat.le_refl _)
  have v5 : zEq (η1 0 43) (η 0 43) := (k2.1.2.2.2.1 0 43 (by decide +kernel)).trans rfl
  have f0_43 : η1 0 43 = η 0 43 := v5
  have v7 : zEq (η1 0 42) (η 0 42) := (k2.1.2.2.2.1 0 42 (by decide +kernel)).trans rfl
  have f0_42 : η1 0 42 = η 0 42 := v7
  have v9 : zEq (η1 0 45) (η 0 45) := (k2.1.2.2.2.1 0 45 (by decide +kernel)).trans rfl
  have f0_45 : η1 0 45 = η 0 45 := v9
  have w0_0_19 : (0 : Int) ≤ η 0 19 ∧ η 0 19 ≤ 64 := wf_ok (a := 19) (b := 19) (z := (0, 64)) hI.1.1 (by decide +kernel) (Nat.le_refl _) (Nat.le_refl _)
  have v11 : zEq (η1 0 19) (η 0 19) := (k2.1.2.2.2.1 0 19 (by decide +kernel)).trans rfl
  have f0_19 : η1 0 19 = η 0 19 := v11
  have w0_0_44 : (0 : Int) ≤ η 0 44 ∧ η 0 44 ≤ 64 := wf_ok (a := 44) (b := 44) (z := (0, 64)) hI.1.1 (by decide +kernel) (Nat.le_refl _) (Nat.le_refl _)
  have v13 : zEq (η1 0 44) (η 0 44) := (k2.1.2.2.2.1 0 44 (by decide +kernel)).trans rfl
  have f0_44 : η1 0 44 = η 0 44 := v13
  have w0_0_7 : (0 : Int) ≤ η 0 7 ∧ η 0 7 ≤ 700 := wf_ok (a := 7) (b := 7) (z := (0, 700)) hI.1.1 (by decide +kernel) (Nat.le_refl _) (Nat.le_refl _)
  have v15 : zEq (η1 0 7) (η 0 7) := (k2.1.2.2.2.1 0 7 (by decide +kernel)).trans rfl
  have f0_7 : η1 0 7 = η 0 7 := v15
  have w0_0_6 : (0 : Int) ≤ η 0 6 ∧ η 0 6 ≤ 700 := wf_ok (a := 6) (b := 6) (z := (0, 700)) hI.1.1 (by decide +kernel) (Nat.le_refl _) (Nat.le_refl _)
  have v17 : zEq (η1 0 6) (η 0 6) := (k2.1.2.2.2.1 0 6 (by decide +kernel)).trans rfl
  have f0_6 : η1 0 6 = η 0 6 := v17
  have v18 : zEq (η1 0 8) (η 0 8) := (k2.1.2.2.2.1 0 8 (by decide +kernel)).trans rfl
  have f0_8 : η1 0 8 = η 0 8 := v18
  have wbE : wB wl_l zTr η1 := wb1
  
  have I0 : H_l 0 0 0 η := hig.1
  have I1 : H_l 0 0 0 η1 := k2.2.1
  have qr2 : (1 ≤ x2 → 2 ≤ x1) ∧ (2 ≤ x1 → 1 ≤ x2) := k2.2.2
  exact ⟨I1, show η1 0 45 = 0 by apply Int.le_antisymm <;> omega⟩
