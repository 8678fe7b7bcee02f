set_option maxHeartbeats 8000000 in
theorem zl_signs_o34 {ro : Nat → List Int32} (xs : List Int) (η0 : zE) (hp : sP wl_l zTr zPl_signs xs η0) (hpp : pPl_signs xs η0) (x1 : Int) (η : zE) (hI : zsI wl_l zTr zVl_signs zMl_signs η0 2 [x1] η) (hig : iCl_signs xs η0 2 [x1] η) : ∀ (x2 : Int) (η1 : zE), ((gC2 wl_l [(nat_lit 0, zPl_isSign, zOl_isSign, zMl_isSign), (nat_lit 1, zPl_wrong, zOl_wrong, zMl_wrong), (nat_lit 2, zPl_token, zOl_token, zMl_token), (nat_lit 3, zPl_isKey, zOl_isKey, zMl_isKey), (nat_lit 4, zPl_isCounted, zOl_isCounted, zMl_isCounted), (nat_lit 5, zPl_waitsFor, zOl_waitsFor, zMl_waitsFor), (nat_lit 6, zPl_rank, zOl_rank, zMl_rank), (nat_lit 7, zPl_bind, zOl_bind, zMl_bind)] pCl_signs qCl_signs) 6).2 [x1] η x2 η1 → (x2 = 4) → ∀ x3 : Int, x3 = η1 0 (Int.toNat 41) → zok 0 x3 → (0 < x3) → ∀ x4 : Int, x4 = η1 0 (Int.toNat 41) → zok 0 x4 → ∀ x5 : Int, x5 = zd 0 2 x4 1 → ∀ x6 : Int, x6 = η1 22 (Int.toNat x5) → zok 0 x6 → ∀ (x7 : Int) (η2 : zE), ((gC2 wl_l [(nat_lit 0, zPl_isSign, zOl_isSign, zMl_isSign), (nat_lit 1, zPl_wrong, zOl_wrong, zMl_wrong), (nat_lit 2, zPl_token, zOl_token, zMl_token), (nat_lit 3, zPl_isKey, zOl_isKey, zMl_isKey), (nat_lit 4, zPl_isCounted, zOl_isCounted, zMl_isCounted), (nat_lit 5, zPl_waitsFor, zOl_waitsFor, zMl_waitsFor), (nat_lit 6, zPl_rank, zOl_rank, zMl_rank), (nat_lit 7, zPl_bind, zOl_bind, zMl_bind)] pCl_signs qCl_signs) 6).2 [x6] η1 x7 η2 → (x7 = 4) → ∀ (x8 : Int) (η3 : zE), ((gC2 wl_l [(nat_lit 0, zPl_isSign, zOl_isSign, zMl_isSign), (nat_lit 1, zPl_wrong, zOl_wrong, zMl_wrong), (nat_lit 2, zPl_token, zOl_token, zMl_token), (nat_lit 3, zPl_isKey, zOl_isKey, zMl_isKey), (nat_lit 4, zPl_isCounted, zOl_isCounted, zMl_isCounted), (nat_lit 5, zPl_waitsFor, zOl_waitsFor, zMl_waitsFor), (nat_lit 6, zPl_rank, zOl_rank, zMl_rank), (nat_lit 7, zPl_bind, zOl_bind, zMl_bind)] pCl_signs qCl_signs) 1).2 [1] η2 x8 η3 → (fun (_ : Nat) (y : Int) (η' : zE) => pQl_signs xs η0 y η') 0 x8 η3 := by
  have hw : η 0 45 = 0 := hig.2.1
  have hr1 : 1 ≤ η 0 19 := hig.2.2.1
  have hs1 : η 0 7 = η0 0 7 := hig.2.2.2.1
  have hs2 : η 0 6 = η0 0 6 := hig.2.2.2.2.1
  have hs3 : η 0 8 = η0 0 8 := hig.2.2.2.2.2.1
  have hk : x1 = 0 ∨ (3 ≤ x1 ∧ ¬ η 0 8 = 0) := hig.2.2.2.2.2.2
  have kk : η 0 8 = 5 → 0 ≤ η 0 9 ∧ η 0 9 ≤ 5 := hig.1.1.1.2.1.2
  have bd43 : (0 : Int) ≤ η 0 43 ∧ η 0 43 ≤ 8 := wf_ok (a := 43) (b := 43) (z := (0, 8)) hI.1.1 (by decide +kernel) (Nat.le_refl _) (Nat.le_refl _)
  have bd44 : (0 : Int) ≤ η 0 44 ∧ η 0 44 ≤ 64 := wf_ok (a := 44) (b := 44) (z := (0, 64)) hI.1.1 (by decide +kernel) (Nat.le_refl _) (Nat.le_refl _)
  have bd19 : (0 : Int) ≤ η 0 19 ∧ η 0 19 ≤ 64 := wf_ok (a := 19) (b := 19) (z := (0, 64)) hI.1.1 (by decide +kernel) (Nat.le_refl _) (Nat.le_refl _)
  obtain ⟨u1, u2, u3, u4⟩ := hig.1.2
  have cn := cz_n (η := η) (η 0 41).toNat
  intro x2 η1 h2 c1 x3 e3 r3 c2 x4 e4 r4 x5 e5 x6 e6 r6 x7 η2 h7 c3 x8 η3 h8
  replace e5 := zEq_i e5
  have k2 : sQ wl_l zTr zOl_rank zMl_rank [x1] η x2 η1 ∧ pQl_rank [x1] η x2 η1 := h2
  have k7 : sQ wl_l zTr zOl_rank zMl_rank [x6] η1 x7 η2 ∧ pQl_rank [x6] η1 x7 η2 := h7
  have k8 : sQ wl_l zTr zOl_wrong zMl_wrong [1] η2 x8 η3 ∧ pQl_wrong [1] η2 x8 η3 := h8
  have bx1 : (3 : Int) ≤ x1 ∧ x1 ≤ 14 := hI.1.2.1.1
  have w0_0_8 : (0 : Int) ≤ η 0 8 ∧ η 0 8 ≤ 6 := wf_ok (a := 8) (b := 8) (z := (0, 6)) hI.1.1 (by decide +kernel) (Nat.le_refl _) (Nat.le_refl _)
  have c0_0_8 : η 0 8 = η 0 8 := rfl
  have wb1 : wB wl_l zTr η1 := k2.1.1
  have bx2 : (0 : Int) ≤ x2 ∧ x2 ≤ 6 := k2.1.2.1
  have v2 : zEq (η1 0 41) (η 0 41) := (k2.1.2.2.2.1 0 41 (by decide +kernel)).trans rfl
  replace e3 : x3 = η 0 41 := e3.trans v2
  replace r3 : -2147483648 ≤ x3 ∧ x3 ≤ 2147483647 := r3
  replace e4 : x4 = η 0 41 := e4.trans v2
  replace r4 : -2147483648 ≤ x4 ∧ x4 ≤ 2147483647 := r4
  first
  | replace e5 : x5 = x4 - 1 := zd_s2 (zEq_o e5) (by clear e5; exact ⟨by omega, by omega⟩)
  | clear e5
  have v4 : zEq (η1 22 (Int.toNat x5)) (η 22 (Int.toNat x5)) := (k2.1.2.2.2.1 22 _ (zinr_not (by decide +kernel))).trans rfl
  replace e6 : x6 = η 22 (Int.toNat x5) := e6.trans v4
  replace r6 : -2147483648 ≤ x6 ∧ x6 ≤ 2147483647 := r6
  try have rb6 : (0 : Int) ≤ η 22 (Int.toNat x5) ∧ η 22 (Int.toNat x5) ≤ 14 := wf_ok (a := 0) (b := 95) (z := (0, 14)) hI.1.1 (by decide +kernel) (Nat.zero_le _) (by omega)
  have v5 : zEq (η1 0 8) (η 0 8) := (k2.1.2.2.2.1 0 8 (by decide +kernel)).trans rfl
  have c1_0_8 : η1 0 8 = η 0 8 := v5
  have wb2 : wB wl_l zTr η2 := k7.1.1
  have bx7 : (0 : Int) ≤ x7 ∧ x7 ≤ 6 := k7.1.2.1
  have v6 : zEq (η2 0 8) (η 0 8) := (k7.1.2.2.2.1 0 8 (by decide +kernel)).trans v5
  have c2_0_8 : η2 0 8 = η 0 8 := v6
  have wb3 : wB wl_l zTr η3 := k8.1.1
  have bx8 : (0 : Int) ≤ x8 ∧ x8 ≤ 0 := k8.1.2.1
  have fm1 : zFm zMl_signs η0 η1 := zFm_tr2 hI.2 k2.1.2.2.2.1 (by decide +kernel)
  have fm2 : zFm zMl_signs η0 η2 := zFm_tr2 fm1 k7.1.2.2.2.1 (by decide +kernel)
  have fm3 : zFm zMl_signs η0 η3 := zFm_tr2 fm2 k8.1.2.2.2.1 (by decide +kernel)
  have fmE : zFm zMl_signs η0 η3 := fm3
  have fr22_0 : ∀ j, η 22 j = η 22 j := fun _ => rfl
  have v7 : ∀ j, η1 22 j = η 22 j := fun j => k2.1.2.2.2.1 22 _ (zinr_not (by decide +kernel))
  have fr22_1 : ∀ j, η1 22 j = η 22 j := v7
  have v8 : ∀ j, η2 22 j = η 22 j := fun j => (k7.1.2.2.2.1 22 _ (zinr_not (by decide +kernel))).trans (v7 j)
  have fr22_2 : ∀ j, η2 22 j = η 22 j := v8
  have v9 : ∀ j, η3 22 j = η 22 j := fun j => (k8.1.2.2.2.1 22 _ (zinr_not (by decide +kernel))).trans (v8 j)
  have fr22_3 : ∀ j, η3 22 j = η 22 j := v9
  have fr22 : ∀ j, η3 22 j = η 22 j := v9
  have v10 : zEq (η2 0 41) (η 0 41) := (k7.1.2.2.2.1 0 41 (by decide +kernel)).trans v2
  have v11 : zEq (η3 0 41) (η 0 41) := (k8.1.2.2.2.1 0 41 (by decide +kernel)).trans v10
  have f0_41 : η3 0 41 = η 0 41 := v11
  have w0_0_43 : (0 : Int) ≤ η 0 43 ∧ η 0 43 ≤ 8 := wf_ok (a := 43) (b := 43) (z := (0, 8)) hI.1.1 (by decide +kernel) (Nat.le_refl _) (Nat.le_refl _)
  have v13 : zEq (η1 0 43) (η 0 43) := (k2.1.2.2.2.1 0 43 (by decide +kernel)).trans rfl
  have v14 : zEq (η2 0 43) (η 0 43) := (k7.1.2.2.2.1 0 43 (by decide +kernel)).trans v13
  have v15 : zEq (η3 0 43) (η 0 43) := (k8.1.2.2.2.1 0 43 (by decide +kernel)).trans v14
  have f0_43 : η3 0 43 = η 0 43 := v15
  have v17 : zEq (η1 0 42) (η 0 42) := (k2.1.2.2.2.1 0 42 (by decide +kernel)).trans rfl
  have v18 : zEq (η2 0 42) (η 0 42) := (k7.1.2.2.2.1 0 42 (by decide +kernel)).trans v17
  have v19 : zEq (η3 0 42) (η 0 42) := (k8.1.2.2.2.1 0 42 (by decide +kernel)).trans v18
  have f0_42 : η3 0 42 = η 0 42 := v19
  have v21 : zEq (η1 0 45) (η 0 45) := (k2.1.2.2.2.1 0 45 (by decide +kernel)).trans rfl
  have v22 : zEq (η2 0 45) (η 0 45) := (k7.1.2.2.2.1 0 45 (by decide +kernel)).trans v21
  have v23 : zEq (η3 0 45) (η 0 45) := (k8.1.2.2.2.1 0 45 (by decide +kernel)).trans v22
  have f0_45 : η3 0 45 = η 0 45 := v23
  have w0_0_19 : (0 : Int) ≤ η 0 19 ∧ η 0 19 ≤ 64 := wf_ok (a := 19) (b := 19) (z := (0, 64)) hI.1.1 (by decide +kernel) (Nat.le_refl _) (Nat.le_refl _)
  have v25 : zEq (η1 0 19) (η 0 19) := (k2.1.2.2.2.1 0 19 (by decide +kernel)).trans rfl
  have v26 : zEq (η2 0 19) (η 0 19) := (k7.1.2.2.2.1 0 19 (by decide +kernel)).trans v25
  have v27 : zEq (η3 0 19) (η 0 19) := (k8.1.2.2.2.1 0 19 (by decide +kernel)).trans v26
  have f0_19 : η3 0 19 = η 0 19 := v27
  have w0_0_44 : (0 : Int) ≤ η 0 44 ∧ η 0 44 ≤ 64 := wf_ok (a := 44) (b := 44) (z := (0, 64)) hI.1.1 (by decide +kernel) (Nat.le_refl _) (Nat.le_refl _)
  have v29 : zEq (η1 0 44) (η 0 44) := (k2.1.2.2.2.1 0 44 (by decide +kernel)).trans rfl
  have v30 : zEq (η2 0 44) (η 0 44) := (k7.1.2.2.2.1 0 44 (by decide +kernel)).trans v29
  have v31 : zEq (η3 0 44) (η 0 44) := (k8.1.2.2.2.1 0 44 (by decide +kernel)).trans v30
  have f0_44 : η3 0 44 = η 0 44 := v31
  have w0_0_7 : (0 : Int) ≤ η 0 7 ∧ η 0 7 ≤ 700 := wf_ok (a := 7) (b := 7) (z := (0, 700)) hI.1.1 (by decide +kernel) (Nat.le_refl _) (Nat.le_refl _)
  have v33 : zEq (η1 0 7) (η 0 7) := (k2.1.2.2.2.1 0 7 (by decide +kernel)).trans rfl
  have v34 : zEq (η2 0 7) (η 0 7) := (k7.1.2.2.2.1 0 7 (by decide +kernel)).trans v33
  have v35 : zEq (η3 0 7) (η 0 7) := (k8.1.2.2.2.1 0 7 (by decide +kernel)).trans v34
  have f0_7 : η3 0 7 = η 0 7 := v35
  have w0_0_6 : (0 : Int) ≤ η 0 6 ∧ η 0 6 ≤ 700 := wf_ok (a := 6) (b := 6) (z := (0, 700)) hI.1.1 (by decide +kernel) (Nat.le_refl _) (Nat.le_refl _)
  have v37 : zEq (η1 0 6) (η 0 6) := (k2.1.2.2.2.1 0 6 (by decide +kernel)).trans rfl
  have v38 : zEq (η2 0 6) (η 0 6) := (k7.1.2.2.2.1 0 6 (by decide +kernel)).trans v37
  have v39 : zEq (η3 0 6) (η 0 6) := (k8.1.2.2.2.1 0 6 (by decide +kernel)).trans v38
  have f0_6 : η3 0 6 = η 0 6 := v39
  have v40 : zEq (η3 0 8) (η 0 8) := (k8.1.2.2.2.1 0 8 (by decide +kernel)).trans v6
  have f0_8 : η3 0 8 = η 0 8 := v40
  have wbE : wB wl_l zTr η3 := wb3
  
  have I0 : H_l 0 0 0 η := hig.1
  have I1 : H_l 0 0 0 η1 := k2.2.1
  have qr2 : (1 ≤ x2 → 2 ≤ x1) ∧ (2 ≤ x1 → 1 ≤ x2) := k2.2.2
  have I2 : H_l 0 0 0 η2 := k7.2.1
  have qr7 : (1 ≤ x7 → 2 ≤ x6) ∧ (2 ≤ x6 → 1 ≤ x7) := k7.2.2
  have I3 : H_l 0 0 0 η3 := k8.2
  exact ⟨I3.1, fun w => absurd (show (x8 : Int) = 0 by apply Int.le_antisymm <;> omega) w⟩
set_option maxHeartbeats 8000000 in
theorem zl_signs_o35 {ro : Nat → List Int32} (xs : List Int) (η0 : zE) (hp : sP wl_l zTr zPl_signs xs η0) (hpp : pPl_signs xs η0) (x1 : Int) (η : zE) (hI : zsI wl_l zTr zVl_signs zMl_signs η0 2 [x1] η) (hig : iCl_signs xs η0 2 [x1] η) : ∀ (x2 : Int) (η1 : zE), ((gC wl_l [(nat_lit 0, zPl_isSign, zOl_isSign, zMl_isSign), (nat_lit 1, zPl_wrong, zOl_wrong, zMl_wrong), (nat_lit 2, zPl_token, zOl_token, zMl_token), (nat_lit 3, zPl_isKey, zOl_isKey, zMl_isKey), (nat_lit 4, zPl_isCounted, zOl_isCounted, zMl_isCounted), (nat_lit 5, zPl_waitsFor, zOl_waitsFor, zMl_waitsFor), (nat_lit 6, zPl_rank, zOl_rank, zMl_rank), (nat_lit 7, zPl_bind, zOl_bind, zMl_bind)] pCl_signs qCl_signs) 6).2 [x1] η x2 η1 → (x2 = 4) → ∀ x3 : Int, x3 = η1 0 (Int.toNat 41) → zok 0 x3 → (0 < x3) → ∀ x4 : Int, x4 = η1 0 (Int.toNat 41) → zok 0 x4 → ∀ x5 : Int, x5 = zd 0 2 x4 1 → (0 : Int) ≤ x5 ∧ (x5 : Int) < 96 := by
  have hw : η 0 45 = 0 := hig.2.1
  have hr1 : 1 ≤ η 0 19 := hig.2.2.1
  have hs1 : η 0 7 = η0 0 7 := hig.2.2.2.1
  have hs2 : η 0 6 = η0 0 6 := hig.2.2.2.2.1
  have hs3 : η 0 8 = η0 0 8 := hig.2.2.2.2.2.1
  have hk : x1 = 0 ∨ (3 ≤ x1 ∧ ¬ η 0 8 = 0) := hig.2.2.2.2.2.2
  have kk : η 0 8 = 5 → 0 ≤ η 0 9 ∧ η 0 9 ≤ 5 := hig.1.1.1.2.1.2
  have bd43 : (0 : Int) ≤ η 0 43 ∧ η 0 43 ≤ 8 := wf_ok (a := 43) (b := 43) (z := (0, 8)) hI.1.1 (by decide +kernel) (Nat.le_refl _) (Nat.le_refl _)
  have bd44 : (0 : Int) ≤ η 0 44 ∧ η 0 44 ≤ 64 := wf_ok (a := 44) (b := 44) (z := (0, 64)) hI.1.1 (by decide +kernel) (Nat.le_refl _) (Nat.le_refl _)
  have bd19 : (0 : Int) ≤ η 0 19 ∧ η 0 19 ≤ 64 := wf_ok (a := 19) (b := 19) (z := (0, 64)) hI.1.1 (by decide +kernel) (Nat.le_refl _) (Nat.le_refl _)
  obtain ⟨u1, u2, u3, u4⟩ := hig.1.2
  have cn := cz_n (η := η) (η 0 41).toNat
  intro x2 η1 h2 c1 x3 e3 r3 c2 x4 e4 r4 x5 e5
  replace e5 := zEq_i e5
  have k2 : sQ wl_l zTr zOl_rank zMl_rank [x1] η x2 η1 ∧ pQl_rank [x1] η x2 η1 := h2
  have bx1 : (3 : Int) ≤ x1 ∧ x1 ≤ 14 := hI.1.2.1.1
  have w0_0_8 : (0 : Int) ≤ η 0 8 ∧ η 0 8 ≤ 6 := wf_ok (a := 8) (b := 8) (z := (0, 6)) hI.1.1 (by decide +kernel) (Nat.le_refl _) (Nat.le_refl _)
  have c0_0_8 : η 0 8 = η 0 8 := rfl
  have wb1 : wB wl_l zTr η1 := k2.1.1
  have bx2 : (0 : Int) ≤ x2 ∧ x2 ≤ 6 := k2.1.2.1
  have v2 : zEq (η1 0 41) (η 0 41) := (k2.1.2.2.2.1 0 41 (by decide +kernel)).trans rfl
  replace e3 : x3 = η 0 41 := e3.trans v2
  replace r3 : -2147483648 ≤ x3 ∧ x3 ≤ 2147483647 := r3
  replace e4 : x4 = η 0 41 := e4.trans v2
  replace r4 : -2147483648 ≤ x4 ∧ x4 ≤ 2147483647 := r4
  first
  | replace e5 : x5 = x4 - 1 := zd_s2 (zEq_o e5) (by clear e5; exact ⟨by omega, by omega⟩)
  | clear e5
  have fm1 : zFm zMl_signs η0 η1 := zFm_tr2 hI.2 k2.1.2.2.2.1 (by decide +kernel)
  have fmE : zFm zMl_signs η0 η1 := fm1
  have fr22_0 : ∀ j, η 22 j = η 22 j := fun _ => rfl
  have v3 : ∀ j, η1 22 j = η 22 j := fun j => k2.1.2.2.2.1 22 _ (zinr_not (by decide +kernel))
  have fr22_1 : ∀ j, η1 22 j = η 22 j := v3
  have fr22 : ∀ j, η1 22 j = η 22 j := v3
  have f0_41 : η1 0 41 = η 0 41 := v2
  have w0_0_43 : (0 : Int) ≤ η 0 43 ∧ η 0 43 ≤ 8 := wf_ok (a := 43) (b := 43) (z := (0, 8)) hI.1.1 (by decide +kernel) (Nat.le_refl _) (Nat.le_refl _)
  have v5 : zEq (η1 0 43) (η 0 43) := (k2.1.2.2.2.1 0 43 (by decide +kernel)).trans rfl
  have f0_43 : η1 0 43 = η 0 43 := v5
  have v7 : zEq (η1 0 42) (η 0 42) := (k2.1.2.2.2.1 0 42 (by decide +kernel)).trans rfl
  have f0_42 : η1 0 42 = η 0 42 := v7
  have v9 : zEq (η1 0 45) (η 0 45) := (k2.1.2.2.2.1 0 45 (by decide +kernel)).trans rfl
  have f0_45 : η1 0 45 = η 0 45 := v9
  have w0_0_19 : (0 : Int) ≤ η 0 19 ∧ η 0 19 ≤ 64 := wf_ok (a := 19) (b := 19) (z := (0, 64)) hI.1.1 (by decide +kernel) (Nat.le_refl _) (Nat.le_refl _)
  have v11 : zEq (η1 0 19) (η 0 19) := (k2.1.2.2.2.1 0 19 (by decide +kernel)).trans rfl
  have f0_19 : η1 0 19 = η 0 19 := v11
  have w0_0_44 : (0 : Int) ≤ η 0 44 ∧ η 0 44 ≤ 64 := wf_ok (a := 44) (b := 44) (z := (0, 64)) hI.1.1 (by decide +kernel) (Nat.le_refl _) (Nat.le_refl _)
  have v13 : zEq (η1 0 44) (η 0 44) := (k2.1.2.2.2.1 0 44 (by decide +kernel)).trans rfl
  have f0_44 : η1 0 44 = η 0 44 := v13
  have w0_0_7 : (0 : Int) ≤ η 0 7 ∧ η 0 7 ≤ 700 := wf_ok (a := 7) (b := 7) (z := (0, 700)) hI.1.1 (by decide +kernel) (Nat.le_refl _) (Nat.le_refl _)
  have v15 : zEq (η1 0 7) (η 0 7) := (k2.1.2.2.2.1 0 7 (by decide +kernel)).trans rfl
  have f0_7 : η1 0 7 = η 0 7 := v15
  have w0_0_6 : (0 : Int) ≤ η 0 6 ∧ η 0 6 ≤ 700 := wf_ok (a := 6) (b := 6) (z := (0, 700)) hI.1.1 (by decide +kernel) (Nat.le_refl _) (Nat.le_refl _)
  have v17 : zEq (η1 0 6) (η 0 6) := (k2.1.2.2.2.1 0 6 (by decide +kernel)).trans rfl
  have f0_6 : η1 0 6 = η 0 6 := v17
  have v18 : zEq (η1 0 8) (η 0 8) := (k2.1.2.2.2.1 0 8 (by decide +kernel)).trans rfl
  have f0_8 : η1 0 8 = η 0 8 := v18
  have wbE : wB wl_l zTr η1 := wb1
  
  have I0 : H_l 0 0 0 η := hig.1
  have I1 : H_l 0 0 0 η1 := k2.2.1
  have qr2 : (1 ≤ x2 → 2 ≤ x1) ∧ (2 ≤ x1 → 1 ≤ x2) := k2.2.2
  exact ⟨by omega, by omega⟩
set_option maxHeartbeats 8000000 in
theorem zl_signs_o36 {ro : Nat → List Int32} (xs : List Int) (η0 : zE) (hp : sP wl_l zTr zPl_signs xs η0) (hpp : pPl_signs xs η0) (x1 : Int) (η : zE) (hI : zsI wl_l zTr zVl_signs zMl_signs η0 3 [x1] η) (hig : iCl_signs xs η0 3 [x1] η) : ((gC2 wl_l [(nat_lit 0, zPl_isSign, zOl_isSign, zMl_isSign), (nat_lit 1, zPl_wrong, zOl_wrong, zMl_wrong), (nat_lit 2, zPl_token, zOl_token, zMl_token), (nat_lit 3, zPl_isKey, zOl_isKey, zMl_isKey), (nat_lit 4, zPl_isCounted, zOl_isCounted, zMl_isCounted), (nat_lit 5, zPl_waitsFor, zOl_waitsFor, zMl_waitsFor), (nat_lit 6, zPl_rank, zOl_rank, zMl_rank), (nat_lit 7, zPl_bind, zOl_bind, zMl_bind)] pCl_signs qCl_signs) 4).1 [] η := by
  have hw : η 0 45 = 0 := hig.2.1
  have hr1 : 1 ≤ η 0 19 := hig.2.2.1
  have hs1 : η 0 7 = η0 0 7 := hig.2.2.2.1
  have hs2 : η 0 6 = η0 0 6 := hig.2.2.2.2.1
  have hs3 : η 0 8 = η0 0 8 := hig.2.2.2.2.2.1
  have hk : x1 = 0 ∨ (3 ≤ x1 ∧ ¬ η 0 8 = 0) := hig.2.2.2.2.2.2
  have kk : η 0 8 = 5 → 0 ≤ η 0 9 ∧ η 0 9 ≤ 5 := hig.1.1.1.2.1.2
  have bd43 : (0 : Int) ≤ η 0 43 ∧ η 0 43 ≤ 8 := wf_ok (a := 43) (b := 43) (z := (0, 8)) hI.1.1 (by decide +kernel) (Nat.le_refl _) (Nat.le_refl _)
  have bd44 : (0 : Int) ≤ η 0 44 ∧ η 0 44 ≤ 64 := wf_ok (a := 44) (b := 44) (z := (0, 64)) hI.1.1 (by decide +kernel) (Nat.le_refl _) (Nat.le_refl _)
  have bd19 : (0 : Int) ≤ η 0 19 ∧ η 0 19 ≤ 64 := wf_ok (a := 19) (b := 19) (z := (0, 64)) hI.1.1 (by decide +kernel) (Nat.le_refl _) (Nat.le_refl _)
  obtain ⟨u1, u2, u3, u4⟩ := hig.1.2
  have cn := cz_n (η := η) (η 0 41).toNat
  have bx1 : (3 : Int) ≤ x1 ∧ x1 ≤ 14 := hI.1.2.1.1
  have fmE : zFm zMl_signs η0 η := hI.2
  have fr22_0 : ∀ j, η 22 j = η 22 j := fun _ => rfl
  have fr22 : ∀ j, η 22 j = η 22 j := fun _ => rfl
  have f0_41 : η 0 41 = η 0 41 := rfl
  have w0_0_43 : (0 : Int) ≤ η 0 43 ∧ η 0 43 ≤ 8 := wf_ok (a := 43) (b := 43) (z := (0, 8)) hI.1.1 (by decide +kernel) (Nat.le_refl _) (Nat.le_refl _)
  have f0_43 : η 0 43 = η 0 43 := rfl
  have f0_42 : η 0 42 = η 0 42 := rfl
  have f0_45 : η 0 45 = η 0 45 := rfl
  have w0_0_19 : (0 : Int) ≤ η 0 19 ∧ η 0 19 ≤ 64 := wf_ok (a := 19) (b := 19) (z := (0, 64)) hI.1.1 (by decide +kernel) (Nat.le_refl _) (Nat.le_refl _)
  have f0_19 : η 0 19 = η 0 19 := rfl
  have w0_0_44 : (0 : Int) ≤ η 0 44 ∧ η 0 44 ≤ 64 := wf_ok (a := 44) (b := 44) (z := (0, 64)) hI.1.1 (by decide +kernel) (Nat.le_refl _) (Nat.le_refl _)
  have f0_44 : η 0 44 = η 0 44 := rfl
  have w0_0_7 : (0 : Int) ≤ η 0 7 ∧ η 0 7 ≤ 700 := wf_ok (a := 7) (b := 7) (z := (0, 700)) hI.1.1 (by decide +kernel) (Nat.le_refl _) (Nat.le_refl _)
  have f0_7 : η 0 7 = η 0 7 := rfl
  have w0_0_6 : (0 : Int) ≤ η 0 6 ∧ η 0 6 ≤ 700 := wf_ok (a := 6) (b := 6) (z := (0, 700)) hI.1.1 (by decide +kernel) (Nat.le_refl _) (Nat.le_refl _)
  have f0_6 : η 0 6 = η 0 6 := rfl
  have w0_0_8 : (0 : Int) ≤ η 0 8 ∧ η 0 8 ≤ 6 := wf_ok (a := 8) (b := 8) (z := (0, 6)) hI.1.1 (by decide +kernel) (Nat.le_refl _) (Nat.le_refl _)
  have f0_8 : η 0 8 = η 0 8 := rfl
  have wbE : wB wl_l zTr η := hI.1.1
  
  have I0 : H_l 0 0 0 η := hig.1
  exact I0
set_option maxHeartbeats 8000000 in
theorem zl_signs_o37 {ro : Nat → List Int32} (xs : List Int) (η0 : zE) (hp : sP wl_l zTr zPl_signs xs η0) (hpp : pPl_signs xs η0) (x1 : Int) (η : zE) (hI : zsI wl_l zTr zVl_signs zMl_signs η0 3 [x1] η) (hig : iCl_signs xs η0 3 [x1] η) : ∀ (x2 : Int) (η1 : zE), ((gC2 wl_l [(nat_lit 0, zPl_isSign, zOl_isSign, zMl_isSign), (nat_lit 1, zPl_wrong, zOl_wrong, zMl_wrong), (nat_lit 2, zPl_token, zOl_token, zMl_token), (nat_lit 3, zPl_isKey, zOl_isKey, zMl_isKey), (nat_lit 4, zPl_isCounted, zOl_isCounted, zMl_isCounted), (nat_lit 5, zPl_waitsFor, zOl_waitsFor, zMl_waitsFor), (nat_lit 6, zPl_rank, zOl_rank, zMl_rank), (nat_lit 7, zPl_bind, zOl_bind, zMl_bind)] pCl_signs qCl_signs) 4).2 [] η x2 η1 → (¬ x2 = 0) → ((gC2 wl_l [(nat_lit 0, zPl_isSign, zOl_isSign, zMl_isSign), (nat_lit 1, zPl_wrong, zOl_wrong, zMl_wrong), (nat_lit 2, zPl_token, zOl_token, zMl_token), (nat_lit 3, zPl_isKey, zOl_isKey, zMl_isKey), (nat_lit 4, zPl_isCounted, zOl_isCounted, zMl_isCounted), (nat_lit 5, zPl_waitsFor, zOl_waitsFor, zMl_waitsFor), (nat_lit 6, zPl_rank, zOl_rank, zMl_rank), (nat_lit 7, zPl_bind, zOl_bind, zMl_bind)] pCl_signs qCl_signs) 5).1 [x1] η1 := by
  have hw : η 0 45 = 0 := hig.2.1
  have hr1 : 1 ≤ η 0 19 := hig.2.2.1
  have hs1 : η 0 7 = η0 0 7 := hig.2.2.2.1
  have hs2 : η 0 6 = η0 0 6 := hig.2.2.2.2.1
  have hs3 : η 0 8 = η0 0 8 := hig.2.2.2.2.2.1
  have hk : x1 = 0 ∨ (3 ≤ x1 ∧ ¬ η 0 8 = 0) := hig.2.2.2.2.2.2
  have kk : η 0 8 = 5 → 0 ≤ η 0 9 ∧ η 0 9 ≤ 5 := hig.1.1.1.2.1.2
  have bd43 : (0 : Int) ≤ η 0 43 ∧ η 0 43 ≤ 8 := wf_ok (a := 43) (b := 43) (z := (0, 8)) hI.1.1 (by decide +kernel) (Nat.le_refl _) (Nat.le_refl _)
  have bd44 : (0 : Int) ≤ η 0 44 ∧ η 0 44 ≤ 64 := wf_ok (a := 44) (b := 44) (z := (0, 64)) hI.1.1 (by decide +kernel) (Nat.le_refl _) (Nat.le_refl _)
  have bd19 : (0 : Int) ≤ η 0 19 ∧ η 0 19 ≤ 64 := wf_ok (a := 19) (b := 19) (z := (0, 64)) hI.1.1 (by decide +kernel) (Nat.le_refl _) (Nat.le_refl _)
  obtain ⟨u1, u2, u3, u4⟩ := hig.1.2
  have cn := cz_n (η := η) (η 0 41).toNat
  intro x2 η1 h2 c1
  have k2 : sQ wl_l zTr zOl_isCounted zMl_isCounted [] η x2 η1 ∧ pQl_isCounted [] η x2 η1 := h2
  have bx1 : (3 : Int) ≤ x1 ∧ x1 ≤ 14 := hI.1.2.1.1
  have w0_0_8 : (0 : Int) ≤ η 0 8 ∧ η 0 8 ≤ 6 := wf_ok (a := 8) (b := 8) (z := (0, 6)) hI.1.1 (by decide +kernel) (Nat.le_refl _) (Nat.le_refl _)
  have c0_0_8 : η 0 8 = η 0 8 := rfl
  have wb1 : wB wl_l zTr η1 := k2.1.1
  have bx2 : (0 : Int) ≤ x2 ∧ x2 ≤ 1 := k2.1.2.1
  have fm1 : zFm zMl_signs η0 η1 := zFm_tr2 hI.2 k2.1.2.2.2.1 (by decide +kernel)
  have fmE : zFm zMl_signs η0 η1 := fm1
  have fr22_0 : ∀ j, η 22 j = η 22 j := fun _ => rfl
  have v1 : ∀ j, η1 22 j = η 22 j := fun j => k2.1.2.2.2.1 22 _ (zinr_not (by decide +kernel))
  have fr22_1 : ∀ j, η1 22 j = η 22 j := v1
  have fr22 : ∀ j, η1 22 j = η 22 j := v1
  have v3 : zEq (η1 0 41) (η 0 41) := (k2.1.2.2.2.1 0 41 (by decide +kernel)).trans rfl
  have f0_41 : η1 0 41 = η 0 41 := v3
  have w0_0_43 : (0 : Int) ≤ η 0 43 ∧ η 0 43 ≤ 8 := wf_ok (a := 43) (b := 43) (z := (0, 8)) hI.1.1 (by decide +kernel) (Nat.le_refl _) (Nat.le_refl _)
  have v5 : zEq (η1 0 43) (η 0 43) := (k2.1.2.2.2.1 0 43 (by decide +kernel)).trans rfl
  have f0_43 : η1 0 43 = η 0 43 := v5
  have v7 : zEq (η1 0 42) (η 0 42) := (k2.1.2.2.2.1 0 42 (by decide +kernel)).trans rfl
  have f0_42 : η1 0 42 = η 0 42 := v7
  have v9 : zEq (η1 0 45) (η 0 45) := (k2.1.2.2.2.1 0 45 (by decide +kernel)).trans rfl
  have f0_45 : η1 0 45 = η 0 45 := v9
  have w0_0_19 : (0 : Int) ≤ η 0 19 ∧ η 0 19 ≤ 64 := wf_ok (a := 19) (b := 19) (z := (0, 64)) hI.1.1 (by decide +kernel) (Nat.le_refl _) (Nat.le_refl _)
  have v11 : zEq (η1 0 19) (η 0 19) := (k2.1.2.2.2.1 0 19 (by decide +kernel)).trans rfl
  have f0_19 : η1 0 19 = η 0 19 := v11
  have w1_0_44 : (0 : Int) ≤ η1 0 44 ∧ η1 0 44 ≤ 64 := wf_ok (a := 44) (b := 44) (z := (0, 64)) k2.1.1 (by decide +kernel) (Nat.le_refl _) (Nat.le_refl _)
  have f0_44 : η1 0 44 = η1 0 44 := rfl
  have w0_0_7 : (0 : Int) ≤ η 0 7 ∧ η 0 7 ≤ 700 := wf_ok (a := 7) (b := 7) (z := (0, 700)) hI.1.1 (by decide +kernel) (Nat.le_refl _) (Nat.le_refl _)
  have v14 : zEq (η1 0 7) (η 0 7) := (k2.1.2.2.2.1 0 7 (by decide +kernel)).trans rfl
  have f0_7 : η1 0 7 = η 0 7 := v14
  have w0_0_6 : (0 : Int) ≤ η 0 6 ∧ η 0 6 ≤ 700 := wf_ok (a := 6) (b := 6) (z := (0, 700)) hI.1.1 (by decide +kernel) (Nat.le_refl _) (Nat.le_refl _)
  have v16 : zEq (η1 0 6) (η 0 6) := (k2.1.2.2.2.1 0 6 (by decide +kernel)).trans rfl
  have f0_6 : η1 0 6 = η 0 6 := v16
  have v17 : zEq (η1 0 8) (η 0 8) := (k2.1.2.2.2.1 0 8 (by decide +kernel)).trans rfl
  have f0_8 : η1 0 8 = η 0 8 := v17
  have wbE : wB wl_l zTr η1 := wb1
  
  have I0 : H_l 0 0 0 η := hig.1
  have I1 : H_l 1 0 0 η1 := k2.2.1 c1
  exact I1
set_option maxHeartbeats 8000000 in
theorem zl_signs_o38 {ro : Nat → List Int32} (xs : List Int) (η0 : zE) (hp : sP wl_l zTr zPl_signs xs η0) (hpp : pPl_signs xs η0) (x1 : Int) (η : zE) (hI : zsI wl_l zTr zVl_signs zMl_signs η0 3 [x1] η) (hig : iCl_signs xs η0 3 [x1] η) : ∀ (x2 : Int) (η1 : zE), ((gC2 wl_l [(nat_lit 0, zPl_isSign, zOl_isSign, zMl_isSign), (nat_lit 1, zPl_wrong, zOl_wrong, zMl_wrong), (nat_lit 2, zPl_token, zOl_token, zMl_token), (nat_lit 3, zPl_isKey, zOl_isKey, zMl_isKey), (nat_lit 4, zPl_isCounted, zOl_isCounted, zMl_isCounted), (nat_lit 5, zPl_waitsFor, zOl_waitsFor, zMl_waitsFor), (nat_lit 6, zPl_rank, zOl_rank, zMl_rank), (nat_lit 7, zPl_bind, zOl_bind, zMl_bind)] pCl_signs qCl_signs) 4).2 [] η x2 η1 → (¬ x2 = 0) → ∀ (x3 : Int) (η2 : zE), ((gC2 wl_l [(nat_lit 0, zPl_isSign, zOl_isSign, zMl_isSign), (nat_lit 1, zPl_wrong, zOl_wrong, zMl_wrong), (nat_lit 2, zPl_token, zOl_token, zMl_token), (nat_lit 3, zPl_isKey, zOl_isKey, zMl_isKey), (nat_lit 4, zPl_isCounted, zOl_isCounted, zMl_isCounted), (nat_lit 5, zPl_waitsFor, zOl_waitsFor, zMl_waitsFor), (nat_lit 6, zPl_rank, zOl_rank, zMl_rank), (nat_lit 7, zPl_bind, zOl_bind, zMl_bind)] pCl_signs qCl_signs) 5).2 [x1] η1 x3 η2 → ∀ η3 : zE, η3 = zup η2 0 (Int.toNat 45) 1 → ((gC2 wl_l [(nat_lit 0, zPl_isSign, zOl_isSign, zMl_isSign), (nat_lit 1, zPl_wrong, zOl_wrong, zMl_wrong), (nat_lit 2, zPl_token, zOl_token, zMl_token), (nat_lit 3, zPl_isKey, zOl_isKey, zMl_isKey), (nat_lit 4, zPl_isCounted, zOl_isCounted, zMl_isCounted), (nat_lit 5, zPl_waitsFor, zOl_waitsFor, zMl_waitsFor), (nat_lit 6, zPl_rank, zOl_rank, zMl_rank), (nat_lit 7, zPl_bind, zOl_bind, zMl_bind)] pCl_signs qCl_signs) 6).1 [x1] η3 := by
  have hw : η 0 45 = 0 := hig.2.1
  have hr1 : 1 ≤ η 0 19 := hig.2.2.1
  have hs1 : η 0 7 = η0 0 7 := hig.2.2.2.1
  have hs2 : η 0 6 = η0 0 6 := hig.2.2.2.2.1
  have hs3 : η 0 8 = η0 0 8 := hig.2.2.2.2.2.1
  have hk : x1 = 0 ∨ (3 ≤ x1 ∧ ¬ η 0 8 = 0) := hig.2.2.2.2.2.2
  have kk : η 0 8 = 5 → 0 ≤ η 0 9 ∧ η 0 9 ≤ 5 := hig.1.1.1.2.1.2
  have bd43 : (0 : Int) ≤ η 0 43 ∧ η 0 43 ≤ 8 := wf_ok (a := 43) (b := 43) (z := (0, 8)) hI.1.1 (by decide +kernel) (Nat.le_refl _) (Nat.le_refl _)
  have bd44 : (0 : Int) ≤ η 0 44 ∧ η 0 44 ≤ 64 := wf_ok (a := 44) (b := 44) (z := (0, 64)) hI.1.1 (by decide +kernel) (Nat.le_refl _) (Nat.le_refl _)
  have bd19 : (0 : Int) ≤ η 0 19 ∧ η 0 19 ≤ 64 := wf_ok (a := 19) (b := 19) (z := (0, 64)) hI.1.1 (by decide +kernel) (Nat.le_refl _) (Nat.le_refl _)
  obtain ⟨u1, u2, u3, u4⟩ := hig.1.2
  have cn := cz_n (η := η) (η 0 41).toNat
  intro x2 η1 h2 c1 x3 η2 h3 η3 eη3
  have k2 : sQ wl_l zTr zOl_isCounted zMl_isCounted [] η x2 η1 ∧ pQl_isCounted [] η x2 η1 := h2
  have k3 : sQ wl_l zTr zOl_waitsFor zMl_waitsFor [x1] η1 x3 η2 ∧ pQl_waitsFor [x1] η1 x3 η2 := h3
  have bx1 : (3 : Int) ≤ x1 ∧ x1 ≤ 14 := hI.1.2.1.1
  have w0_0_8 : (0 : Int) ≤ η 0 8 ∧ η 0 8 ≤ 6 := wf_ok (a := 8) (b := 8) (z := (0, 6)) hI.1.1 (by decide +kernel) (Nat.le_refl _) (Nat.le_refl _)
  have c0_0_8 : η 0 8 = η 0 8 := rfl
  have wb1 : wB wl_l zTr η1 := k2.1.1
  have bx2 : (0 : Int) ≤ x2 ∧ x2 ≤ 1 := k2.1.2.1
  have v1 : zEq (η1 0 8) (η 0 8) := (k2.1.2.2.2.1 0 8 (by decide +kernel)).trans rfl
  have c1_0_8 : η1 0 8 = η 0 8 := v1
  have wb2 : wB wl_l zTr η2 := k3.1.1
  have bx3 : (0 : Int) ≤ x3 ∧ x3 ≤ 0 := k3.1.2.1
  have v3 : zEq (η1 0 45) (η 0 45) := (k2.1.2.2.2.1 0 45 (by decide +kernel)).trans rfl
  have v4 : zEq (η2 0 45) (η 0 45) := (k3.1.2.2.2.1 0 45 (by decide +kernel)).trans v3
  have c2_0_45 : η2 0 45 = η 0 45 := v4
  have wb3 : wB wl_l zTr η3 := by rw [eη3]; exact wk_ok (a := 45) (b := 45) (z := ((-2147483648), 2147483647)) zTr_k (GR := []) wb2 (by decide +kernel) (by decide) (by decide) (show ((-2147483648) : Int) ≤ 1 by omega) (show 1 ≤ (2147483647 : Int) by omega)
  have fm1 : zFm zMl_signs η0 η1 := zFm_tr2 hI.2 k2.1.2.2.2.1 (by decide +kernel)
  have fm2 : zFm zMl_signs η0 η2 := zFm_tr2 fm1 k3.1.2.2.2.1 (by decide +kernel)
  have fm3 : zFm zMl_signs η0 η3 := by rw [eη3]; exact zFm_up fm2 rfl
  have fmE : zFm zMl_signs η0 η3 := fm3
  have fr22_0 : ∀ j, η 22 j = η 22 j := fun _ => rfl
  have v5 : ∀ j, η1 22 j = η 22 j := fun j => k2.1.2.2.2.1 22 _ (zinr_not (by decide +kernel))
  have fr22_1 : ∀ j, η1 22 j = η 22 j := v5
  have fr22_2 : ∀ j, η2 22 j = η2 22 j := fun _ => rfl
  have v7 : ∀ j, η3 22 j = η2 22 j := fun j => by rw [eη3]; exact zup_ne (fun e _ => absurd e (by decide))
  have fr22_3 : ∀ j, η3 22 j = η2 22 j := v7
  have fr22 : ∀ j, η3 22 j = η2 22 j := v7
  have v9 : zEq (η3 0 41) (η2 0 41) := by rw [eη3]; exact (zup_ne (fun _ e => absurd e (by decide))).trans rfl
  have f0_41 : η3 0 41 = η2 0 41 := v9
  have w0_0_43 : (0 : Int) ≤ η 0 43 ∧ η 0 43 ≤ 8 := wf_ok (a := 43) (b := 43) (z := (0, 8)) hI.1.1 (by decide +kernel) (Nat.le_refl _) (Nat.le_refl _)
  have v11 : zEq (η1 0 43) (η 0 43) := (k2.1.2.2.2.1 0 43 (by decide +kernel)).trans rfl
  have v12 : zEq (η2 0 43) (η 0 43) := (k3.1.2.2.2.1 0 43 (by decide +kernel)).trans v11
  have v13 : zEq (η3 0 43) (η 0 43) := by rw [eη3]; exact (zup_ne (fun _ e => absurd e (by decide))).trans v12
  have f0_43 : η3 0 43 = η 0 43 := v13
  have v15 : zEq (η1 0 42) (η 0 42) := (k2.1.2.2.2.1 0 42 (by decide +kernel)).trans rfl
  have v16 : zEq (η2 0 42) (η 0 42) := (k3.1.2.2.2.1 0 42 (by decide +kernel)).trans v15
  have v17 : zEq (η3 0 42) (η 0 42) := by rw [eη3]; exact (zup_ne (fun _ e => absurd e (by decide))).trans v16
  have f0_42 : η3 0 42 = η 0 42 := v17
  have v18 : zEq (η3 0 45) (1) := by rw [eη3]; exact zup_eq
  have f0_45 : η3 0 45 = 1 := v18
  have w0_0_19 : (0 : Int) ≤ η 0 19 ∧ η 0 19 ≤ 64 := wf_ok (a := 19) (b := 19) (z := (0, 64)) hI.1.1 (by decide +kernel) (Nat.le_refl _) (Nat.le_refl _)
  have v20 : zEq (η1 0 19) (η 0 19) := (k2.1.2.2.2.1 0 19 (by decide +kernel)).trans rfl
  have v21 : zEq (η2 0 19) (η 0 19) := (k3.1.2.2.2.1 0 19 (by decide +kernel)).trans v20
  have v22 : zEq (η3 0 19) (η 0 19) := by rw [eη3]; exact (zup_ne (fun _ e => absurd e (by decide))).trans v21
  have f0_19 : η3 0 19 = η 0 19 := v22
  have w1_0_44 : (0 : Int) ≤ η1 0 44 ∧ η1 0 44 ≤ 64 := wf_ok (a := 44) (b := 44) (z := (0, 64)) k2.1.1 (by decide +kernel) (Nat.le_refl _) (Nat.le_refl _)
  have v24 : zEq (η2 0 44) (η1 0 44) := (k3.1.2.2.2.1 0 44 (by decide +kernel)).trans rfl
  have v25 : zEq (η3 0 44) (η1 0 44) := by rw [eη3]; exact (zup_ne (fun _ e => absurd e (by decide))).trans v24
  have f0_44 : η3 0 44 = η1 0 44 := v25
  have w0_0_7 : (0 : Int) ≤ η 0 7 ∧ η 0 7 ≤ 700 := wf_ok (a := 7) (b := 7) (z := (0, 700)) hI.1.1 (by decide +kernel) (Nat.le_refl _) (Nat.le_refl _)
  have v27 : zEq (η1 0 7) (η 0 7) := (k2.1.2.2.2.1 0 7 (by decide +kernel)).trans rfl
  have v28 : zEq (η2 0 7) (η 0 7) := (k3.1.2.2.2.1 0 7 (by decide +kernel)).trans v27
  have v29 : zEq (η3 0 7) (η 0 7) := by rw [eη3]; exact (zup_ne (fun _ e => absurd e (by decide))).trans v28
  have f0_7 : η3 0 7 = η 0 7 := v29
  have w0_0_6 : (0 : Int) ≤ η 0 6 ∧ η 0 6 ≤ 700 := wf_ok (a := 6) (b := 6) (z := (0, 700)) hI.1.1 (by decide +kernel) (Nat.le_refl _) (Nat.le_refl _)
  have v31 : zEq (η1 0 6) (η 0 6) := (k2.1.2.2.2.1 0 6 (by decide +kernel)).trans rfl
  have v32 : zEq (η2 0 6) (η 0 6) := (k3.1.2.2.2.1 0 6 (by decide +kernel)).trans v31
  have v33 : zEq (η3 0 6) (η 0 6) := by rw [eη3]; exact (zup_ne (fun _ e => absurd e (by decide))).trans v32
  have f0_6 : η3 0 6 = η 0 6 := v33
  have v34 : zEq (η2 0 8) (η 0 8) := (k3.1.2.2.2.1 0 8 (by decide +kernel)).trans v1
  have v35 : zEq (η3 0 8) (η 0 8) := by rw [eη3]; exact (zup_ne (fun _ e => absurd e (by decide))).trans v34
  have f0_8 : η3 0 8 = η 0 8 := v35
  have wbE : wB wl_l zTr η3 := wb3
  
  have I0 : H_l 0 0 0 η := hig.1
  have I1 : H_l 1 0 0 η1 := k2.2.1 c1
  have I2 : H_l 0 0 (-1) η2 := k3.2
  have I3 : H_l 0 0 0 η3 := by rw [eη3]; exact h_eq (wn_up I2) rfl rfl (by apply Int.le_antisymm <;> omega)
  exact I3
set_option maxHeartbeats 8000000 in
theorem zl_signs_o39 {ro : Nat → List Int32} (xs : List Int) (η0 : zE) (hp : sP wl_l zTr zPl_signs xs η0) (hpp : pPl_signs xs η0) (x1 : Int) (η : zE) (hI : zsI wl_l zTr zVl_signs zMl_signs η0 3 [x1] η) (hig : iCl_signs xs η0 3 [x1] η) : ∀ (x2 : Int) (η1 : zE), ((gC2 wl_l [(nat_lit 0, zPl_isSign, zOl_isSign, zMl_isSign), (nat_lit 1, zPl_wrong, zOl_wrong, zMl_wrong), (nat_lit 2, zPl_token, zOl_token, zMl_token), (nat_lit 3, zPl_isKey, zOl_isKey, zMl_isKey), (nat_lit 4, zPl_isCounted, zOl_isCounted, zMl_isCounted), (nat_lit 5, zPl_waitsFor, zOl_waitsFor, zMl_waitsFor), (nat_lit 6, zPl_rank, zOl_rank, zMl_rank), (nat_lit 7, zPl_bind, zOl_bind, zMl_bind)] pCl_signs qCl_signs) 4).2 [] η x2 η1 → (¬ x2 = 0) → ∀ (x3 : Int) (η2 : zE), ((gC2 wl_l [(nat_lit 0, zPl_isSign, zOl_isSign, zMl_isSign), (nat_lit 1, zPl_wrong, zOl_wrong, zMl_wrong), (nat_lit 2, zPl_token, zOl_token, zMl_token), (nat_lit 3, zPl_isKey, zOl_isKey, zMl_isKey), (nat_lit 4, zPl_isCounted, zOl_isCounted, zMl_isCounted), (nat_lit 5, zPl_waitsFor, zOl_waitsFor, zMl_waitsFor), (nat_lit 6, zPl_rank, zOl_rank, zMl_rank), (nat_lit 7, zPl_bind, zOl_bind, zMl_bind)] pCl_signs qCl_signs) 5).2 [x1] η1 x3 η2 → ∀ η3 : zE, η3 = zup η2 0 (Int.toNat 45) 1 → ∀ (x4 : Int) (η4 : zE), ((gC2 wl_l [(nat_lit 0, zPl_isSign, zOl_isSign, zMl_isSign), (nat_lit 1, zPl_wrong, zOl_wrong, zMl_wrong), (nat_lit 2, zPl_token, zOl_token, zMl_token), (nat_lit 3, zPl_isKey, zOl_isKey, zMl_isKey), (nat_lit 4, zPl_isCounted, zOl_isCounted, zMl_isCounted), (nat_lit 5, zPl_waitsFor, zOl_waitsFor, zMl_waitsFor), (nat_lit 6, zPl_rank, zOl_rank, zMl_rank), (nat_lit 7, zPl_bind, zOl_bind, zMl_bind)] pCl_signs qCl_signs) 6).2 [x1] η3 x4 η4 → (3 ≤ x4) → ∀ η5 : zE, η5 = zup η4 0 (Int.toNat 46) 0 → ((gC2 wl_l [(nat_lit 0, zPl_isSign, zOl_isSign, zMl_isSign), (nat_lit 1, zPl_wrong, zOl_wrong, zMl_wrong), (nat_lit 2, zPl_token, zOl_token, zMl_token), (nat_lit 3, zPl_isKey, zOl_isKey, zMl_isKey), (nat_lit 4, zPl_isCounted, zOl_isCounted, zMl_isCounted), (nat_lit 5, zPl_waitsFor, zOl_waitsFor, zMl_waitsFor), (nat_lit 6, zPl_rank, zOl_rank, zMl_rank), (nat_lit 7, zPl_bind, zOl_bind, zMl_bind)] pCl_signs qCl_signs) 2).1 [] η5 := by
  have hw : η 0 45 = 0 := hig.2.1
  have hr1 : 1 ≤ η 0 19 := hig.2.2.1
  have hs1 : η 0 7 = η0 0 7 := hig.2.2.2.1
  have hs2 : η 0 6 = η0 0 6 := hig.2.2.2.2.1
  have hs3 : η 0 8 = η0 0 8 := hig.2.2.2.2.2.1
  have hk : x1 = 0 ∨ (3 ≤ x1 ∧ ¬ η 0 8 = 0) := hig.2.2.2.2.2.2
  have kk : η 0 8 = 5 → 0 ≤ η 0 9 ∧ η 0 9 ≤ 5 := hig.1.1.1.2.1.2
  have bd43 : (0 : Int) ≤ η 0 43 ∧ η 0 43 ≤ 8 := wf_ok (a := 43) (b := 43) (z := (0, 8)) hI.1.1 (by decide +kernel) (Nat.le_refl _) (Nat.le_refl _)
  have bd44 : (0 : Int) ≤ η 0 44 ∧ η 0 44 ≤ 64 := wf_ok (a := 44) (b := 44) (z := (0, 64)) hI.1.1 (by decide +kernel) (Nat.le_refl _) (Nat.le_refl _)
  have bd19 : (0 : Int) ≤ η 0 19 ∧ η 0 19 ≤ 64 := wf_ok (a := 19) (b := 19) (z := (0, 64)) hI.1.1 (by decide +kernel) (Nat.le_refl _) (Nat.le_refl _)
  obtain ⟨u1, u2, u3, u4⟩ := hig.1.2
  have cn := cz_n (η := η) (η 0 41).toNat
  intro x2 η1 h2 c1 x3 η2 h3 η3 eη3 x4 η4 h4 c2 η5 eη5
  have k2 : sQ wl_l zTr zOl_isCounted zMl_isCounted [] η x2 η1 ∧ pQl_isCounted [] η x2 η1 := h2
  have k3 : sQ wl_l zTr zOl_waitsFor zMl_waitsFor [x1] η1 x3 η2 ∧ pQl_waitsFor [x1] η1 x3 η2 := h3
  have k4 : sQ wl_l zTr zOl_rank zMl_rank [x1] η3 x4 η4 ∧ pQl_rank [x1] η3 x4 η4 := h4
  have bx1 : (3 : Int) ≤ x1 ∧ x1 ≤ 14 := hI.1.2.1.1
  have w0_0_8 : (0 : Int) ≤ η 0 8 ∧ η 0 8 ≤ 6 := wf_ok (a := 8) (b := 8) (z := (0, 6)) hI.1.1 (by decide +kernel) (Nat.le_refl _) (Nat.le_refl _)
  have c0_0_8 : η 0 8 = η 0 8 := rfl
  have wb1 : wB wl_l zTr η1 := k2.1.1
  have bx2 : (0 : Int) ≤ x2 ∧ x2 ≤ 1 := k2.1.2.1
  have v1 : zEq (η1 0 8) (η 0 8) := (k2.1.2.2.2.1 0 8 (by decide +kernel)).trans rfl
  have c1_0_8 : η1 0 8 = η 0 8 := v1
  have wb2 : wB wl_l zTr η2 := k3.1.1
  have bx3 : (0 : Int) ≤ x3 ∧ x3 ≤ 0 := k3.1.2.1
  have v3 : zEq (η1 0 45) (η 0 45) := (k2.1.2.2.2.1 0 45 (by decide +kernel)).trans rfl
  have v4 : zEq (η2 0 45) (η 0 45) := (k3.1.2.2.2.1 0 45 (by decide +kernel)).trans v3
  have c2_0_45 : η2 0 45 = η 0 45 := v4
  have wb3 : wB wl_l zTr η3 := by rw [eη3]; exact wk_ok (a := 45) (b := 45) (z := ((-2147483648), 2147483647)) zTr_k (GR := []) wb2 (by decide +kernel) (by decide) (by decide) (show ((-2147483648) : Int) ≤ 1 by omega) (show 1 ≤ (2147483647 : Int) by omega)
  have v5 : zEq (η2 0 8) (η 0 8) := (k3.1.2.2.2.1 0 8 (by decide +kernel)).trans v1
  have v6 : zEq (η3 0 8) (η 0 8) := by rw [eη3]; exact (zup_ne (fun _ e => absurd e (by decide))).trans v5
  have c3_0_8 : η3 0 8 = η 0 8 := v6
  have wb4 : wB wl_l zTr η4 := k4.1.1
  have bx4 : (0 : Int) ≤ x4 ∧ x4 ≤ 6 := k4.1.2.1
  have wb5 : wB wl_l zTr η5 := by rw [eη5]; exact wk_ok (a := 46) (b := 46) (z := ((-2147483648), 2147483647)) zTr_k (GR := []) wb4 (by decide +kernel) (by decide) (by decide) (show ((-2147483648) : Int) ≤ 0 by omega) (show 0 ≤ (2147483647 : Int) by omega)
  have fm1 : zFm zMl_signs η0 η1 := zFm_tr2 hI.2 k2.1.2.2.2.1 (by decide +kernel)
  have fm2 : zFm zMl_signs η0 η2 := zFm_tr2 fm1 k3.1.2.2.2.1 (by decide +kernel)
  have fm3 : zFm zMl_signs η0 η3 := by rw [eη3]; exact zFm_up fm2 rfl
  have fm4 : zFm zMl_signs η0 η4 := zFm_tr2 fm3 k4.1.2.2.2.1 (by decide +kernel)
  have fm5 : zFm zMl_signs η0 η5 := by rw [eη5]; exact zFm_up fm4 rfl
  have fmE : zFm zMl_signs η0 η5 := fm5
  have fr22_0 : ∀ j, η 22 j = η 22 j := fun _ => rfl
  have v7 : ∀ j, η1 22 j = η 22 j := fun j => k2.1.2.2.2.1 22 _ (zinr_not (by decide +kernel))
  have fr22_1 : ∀ j, η1 22 j = η 22 j := v7
  have fr22_2 : ∀ j, η2 22 j = η2 22 j := fun _ => rfl
  have v9 : ∀ j, η3 22 j = η2 22 j := fun j => by rw [eη3]; exact zup_ne (fun e _ => absurd e (by decide))
  have fr22_3 : ∀ j, η3 22 j = η2 22 j := v9
  have v10 : ∀ j, η4 22 j = η2 22 j := fun j => (k4.1.2.2.2.1 22 _ (zinr_not (by decide +kernel))).trans (v9 j)
  have fr22_4 : ∀ j, η4 22 j = η2 22 j := v10
  have v11 : ∀ j, η5 22 j = η2 22 j := fun j => by rw [eη5]; exact (zup_ne (fun e _ => absurd e (by decide))).trans (v10 j)
  have fr22_5 : ∀ j, η5 22 j = η2 22 j := v11
  have fr22 : ∀ j, η5 22 j = η2 22 j := v11
  have v13 : zEq (η3 0 41) (η2 0 41) := by rw [eη3]; exact (zup_ne (fun _ e => absurd e (by decide))).trans rfl
  have v14 : zEq (η4 0 41) (η2 0 41) := (k4.1.2.2.2.1 0 41 (by decide +kernel)).trans v13
  have v15 : zEq (η5 0 41) (η2 0 41) := by rw [eη5]; exact (zup_ne (fun _ e => absurd e (by decide))).trans v14
  have f0_41 : η5 0 41 = η2 0 41 := v15
  have w0_0_43 : (0 : Int) ≤ η 0 43 ∧ η 0 43 ≤ 8 := wf_ok (a := 43) (b := 43) (z := (0, 8)) hI.1.1 (by decide +kernel) (Nat.le_refl _) (Nat.le_refl _)
  have v17 : zEq (η1 0 43) (η 0 43) := (k2.1.2.2.2.1 0 43 (by decide +kernel)).trans rfl
  have v18 : zEq (η2 0 43) (η 0 43) := (k3.1.2.2.2.1 0 43 (by decide +kernel)).trans v17
  have v19 : zEq (η3 0 43) (η 0 43) := by rw [eη3]; exact (zup_ne (fun _ e => absurd e (by decide))).trans v18
  have v20 : zEq (η4 0 43) (η 0 43) := (k4.1.2.2.2.1 0 43 (by decide +kernel)).trans v19
  have v21 : zEq (η5 0 43) (η 0 43) := by rw [eη5]; exact (zup_ne (fun _ e => absurd e (by decide))).trans v20
  have f0_43 : η5 0 43 = η 0 43 := v21
  have v23 : zEq (η1 0 42) (η 0 42) := (k2.1.2.2.2.1 0 42 (by decide +kernel)).trans rfl
  have v24 : zEq (η2 0 42) (η 0 42) := (k3.1.2.2.2.1 0 42 (by decide +kernel)).trans v23
  have v25 : zEq (η3 0 42) (η 0 42) := by rw [eη3]; exact (zup_ne (fun _ e => absurd e (by decide))).trans v24
  have v26 : zEq (η4 0 42) (η 0 42) := (k4.1.2.2.2.1 0 42 (by decide +kernel)).trans v25
  have v27 : zEq (η5 0 42) (η 0 42) := by rw [eη5]; exact (zup_ne (fun _ e => absurd e (by decide))).trans v26
  have f0_42 : η5 0 42 = η 0 42 := v27
  have v28 : zEq (η3 0 45) (1) := by rw [eη3]; exact zup_eq
  have v29 : zEq (η4 0 45) (1) := (k4.1.2.2.2.1 0 45 (by decide +kernel)).trans v28
  have v30 : zEq (η5 0 45) (1) := by rw [eη5]; exact (zup_ne (fun _ e => absurd e (by decide))).trans v29
  have f0_45 : η5 0 45 = 1 := v30
  have w0_0_19 : (0 : Int) ≤ η 0 19 ∧ η 0 19 ≤ 64 := wf_ok (a := 19) (b := 19) (z := (0, 64)) hI.1.1 (by decide +kernel) (Nat.le_refl _) (Nat.le_refl _)
  have v32 : zEq (η1 0 19) (η 0 19) := (k2.1.2.2.2.1 0 19 (by decide +kernel)).trans rfl
  have v33 : zEq (η2 0 19) (η 0 19) := (k3.1.2.2.2.1 0 19 (by decide +kernel)).trans v32
  have v34 : zEq (η3 0 19) (η 0 19) := by rw [eη3]; exact (zup_ne (fun _ e => absurd e (by decide))).trans v33
  have v35 : zEq (η4 0 19) (η 0 19) := (k4.1.2.2.2.1 0 19 (by decide +kernel)).trans v34
  have v36 : zEq (η5 0 19) (η 0 19) := by rw [eη5]; exact (zup_ne (fun _ e => absurd e (by decide))).trans v35
  have f0_19 : η5 0 19 = η 0 19 := v36
  have w1_0_44 : (0 : Int) ≤ η1 0 44 ∧ η1 0 44 ≤ 64 := wf_ok (a := 44) (b := 44) (z := (0, 64)) k2.1.1 (by decide +kernel) (Nat.le_refl _) (Nat.le_refl _)
  have v38 : zEq (η2 0 44) (η1 0 44) := (k3.1.2.2.2.1 0 44 (by decide +kernel)).trans rfl
  have v39 : zEq (η3 0 44) (η1 0 44) := by rw [eη3]; exact (zup_ne (fun _ e => absurd e (by decide))).trans v38
  have v40 : zEq (η4 0 44) (η1 0 44) := (k4.1.2.2.2.1 0 44 (by decide +kernel)).trans v39
  have v41 : zEq (η5 0 44) (η1 0 44) := by rw [eη5]; exact (zup_ne (fun _ e => absurd e (by decide))).trans v40
  have f0_44 : η5 0 44 = η1 0 44 := v41
  have w0_0_7 : (0 : Int) ≤ η 0 7 ∧ η 0 7 ≤ 700 := wf_ok (a := 7) (b := 7) (z := (0, 700)) hI.1.1 (by decide +kernel) (Nat.le_refl _) (Nat.le_refl _)
  have v43 : zEq (η1 0 7) (η 0 7) := (k2.1.2.2.2.1 0 7 (by decide +kernel)).trans rfl
  have v44 : zEq (η2 0 7) (η 0 7) := (k3.1.2.2.2.1 0 7 (by decide +kernel)).trans v43
  have v45 : zEq (η3 0 7) (η 0 7) := by rw [eη3]; exact (zup_ne (fun _ e => absurd e (by decide))).trans v44
  have v46 : zEq (η4 0 7) (η 0 7) := (k4.1.2.2.2.1 0 7 (by decide +kernel)).trans v45
  have v47 : zEq (η5 0 7) (η 0 7) := by rw [eη5]; exact (zup_ne (fun _ e => absurd e (by decide))).trans v46
  have f0_7 : η5 0 7 = η 0 7 := v47
  have w0_0_6 : (0 : Int) ≤ η 0 6 ∧ η 0 6 ≤ 700 := wf_ok (a := 6) (b := 6) (z := (0, 700)) hI.1.1 (by decide +kernel) (Nat.le_refl _) (Nat.le_refl _)
  have v49 : zEq (η1 0 6) (η 0 6) := (k2.1.2.2.2.1 0 6 (by decide +kernel)).trans rfl
  have v50 : zEq (η2 0 6) (η 0 6) := (k3.1.2.2.2.1 0 6 (by decide +kernel)).trans v49
  have v51 : zEq (η3 0 6) (η 0 6) := by rw [eη3]; exact (zup_ne (fun _ e => absurd e (by decide))).trans v50
  have v52 : zEq (η4 0 6) (η 0 6) := (k4.1.2.2.2.1 0 6 (by decide +kernel)).trans v51
  have v53 : zEq (η5 0 6) (η 0 6) := by rw [eη5]; exact (zup_ne (fun _ e => absurd e (by decide))).trans v52
  have f0_6 : η5 0 6 = η 0 6 := v53
  have v54 : zEq (η4 0 8) (η 0 8) := (k4.1.2.2.2.1 0 8 (by decide +kernel)).trans v6
  have v55 : zEq (η5 0 8) (η 0 8) := by rw [eη5]; exact (zup_ne (fun _ e => absurd e (by decide))).trans v54
  have f0_8 : η5 0 8 = η 0 8 := v55
  have wbE : wB wl_l zTr η5 := wb5
  
  have I0 : H_l 0 0 0 η := hig.1
  have I1 : H_l 1 0 0 η1 := k2.2.1 c1
  have I2 : H_l 0 0 (-1) η2 := k3.2
  have I3 : H_l 0 0 0 η3 := by rw [eη3]; exact h_eq (wn_up I2) rfl rfl (by apply Int.le_antisymm <;> omega)
  have I4 : H_l 0 0 0 η4 := k4.2.1
  have qr4 : (1 ≤ x4 → 2 ≤ x1) ∧ (2 ≤ x1 → 1 ≤ x4) := k4.2.2
  have I5 : H_l 0 0 0 η5 := by rw [eη5]; exact zGk_upc hk_l I4 (by decide +kernel)
  exact I5
set_option maxHeartbeats 8000000 in
theorem zl_signs_o40 {ro : Nat → List Int32} (xs : List Int) (η0 : zE) (hp : sP wl_l zTr zPl_signs xs η0) (hpp : pPl_signs xs η0) (x1 : Int) (η : zE) (hI : zsI wl_l zTr zVl_signs zMl_signs η0 3 [x1] η) (hig : iCl_signs xs η0 3 [x1] η) : ∀ (x2 : Int) (η1 : zE), ((gC2 wl_l [(nat_lit 0, zPl_isSign, zOl_isSign, zMl_isSign), (nat_lit 1, zPl_wrong, zOl_wrong, zMl_wrong), (nat_lit 2, zPl_token, zOl_token, zMl_token), (nat_lit 3, zPl_isKey, zOl_isKey, zMl_isKey), (nat_lit 4, zPl_isCounted, zOl_isCounted, zMl_isCounted), (nat_lit 5, zPl_waitsFor, zOl_waitsFor, zMl_waitsFor), (nat_lit 6, zPl_rank, zOl_rank, zMl_rank), (nat_lit 7, zPl_bind, zOl_bind, zMl_bind)] pCl_signs qCl_signs) 4).2 [] η x2 η1 → (¬ x2 = 0) → ∀ (x3 : Int) (η2 : zE), ((gC2 wl_l [(nat_lit 0, zPl_isSign, zOl_isSign, zMl_isSign), (nat_lit 1, zPl_wrong, zOl_wrong, zMl_wrong), (nat_lit 2, zPl_token, zOl_token, zMl_token), (nat_lit 3, zPl_isKey, zOl_isKey, zMl_isKey), (nat_lit 4, zPl_isCounted, zOl_isCounted, zMl_isCounted), (nat_lit 5, zPl_waitsFor, zOl_waitsFor, zMl_waitsFor), (nat_lit 6, zPl_rank, zOl_rank, zMl_rank), (nat_lit 7, zPl_bind, zOl_bind, zMl_bind)] pCl_signs qCl_signs) 5).2 [x1] η1 x3 η2 → ∀ η3 : zE, η3 = zup η2 0 (Int.toNat 45) 1 → ∀ (x4 : Int) (η4 : zE), ((gC2 wl_l [(nat_lit 0, zPl_isSign, zOl_isSign, zMl_isSign), (nat_lit 1, zPl_wrong, zOl_wrong, zMl_wrong), (nat_lit 2, zPl_token, zOl_token, zMl_token), (nat_lit 3, zPl_isKey, zOl_isKey, zMl_isKey), (nat_lit 4, zPl_isCounted, zOl_isCounted, zMl_isCounted), (nat_lit 5, zPl_waitsFor, zOl_waitsFor, zMl_waitsFor), (nat_lit 6, zPl_rank, zOl_rank, zMl_rank), (nat_lit 7, zPl_bind, zOl_bind, zMl_bind)] pCl_signs qCl_signs) 6).2 [x1] η3 x4 η4 → (3 ≤ x4) → ∀ η5 : zE, η5 = zup η4 0 (Int.toNat 46) 0 → ∀ (x5 : Int) (η6 : zE), ((gC2 wl_l [(nat_lit 0, zPl_isSign, zOl_isSign, zMl_isSign), (nat_lit 1, zPl_wrong, zOl_wrong, zMl_wrong), (nat_lit 2, zPl_token, zOl_token, zMl_token), (nat_lit 3, zPl_isKey, zOl_isKey, zMl_isKey), (nat_lit 4, zPl_isCounted, zOl_isCounted, zMl_isCounted), (nat_lit 5, zPl_waitsFor, zOl_waitsFor, zMl_waitsFor), (nat_lit 6, zPl_rank, zOl_rank, zMl_rank), (nat_lit 7, zPl_bind, zOl_bind, zMl_bind)] pCl_signs qCl_signs) 2).2 [] η5 x5 η6 → (fun (_ : Nat) (y : Int) (η' : zE) => pQl_signs xs η0 y η') 0 1 η6 := by
  have hw : η 0 45 = 0 := hig.2.1
  have hr1 : 1 ≤ η 0 19 := hig.2.2.1
  have hs1 : η 0 7 = η0 0 7 := hig.2.2.2.1
  have hs2 : η 0 6 = η0 0 6 := hig.2.2.2.2.1
  have hs3 : η 0 8 = η0 0 8 := hig.2.2.2.2.2.1
  have hk : x1 = 0 ∨ (3 ≤ x1 ∧ ¬ η 0 8 = 0) := hig.2.2.2.2.2.2
  have kk : η 0 8 = 5 → 0 ≤ η 0 9 ∧ η 0 9 ≤ 5 := hig.1.1.1.2.1.2
  have bd43 : (0 : Int) ≤ η 0 43 ∧ η 0 43 ≤ 8 := wf_ok (a := 43) (b := 43) (z := (0, 8)) hI.1.1 (by decide +kernel) (Nat.le_refl _) (Nat.le_refl _)
  have bd44 : (0 : Int) ≤ η 0 44 ∧ η 0 44 ≤ 64 := wf_ok (a := 44) (b := 44) (z := (0, 64)) hI.1.1 (by decide +kernel) (Nat.le_refl _) (Nat.le_refl _)
  have bd19 : (0 : Int) ≤ η 0 19 ∧ η 0 19 ≤ 64 := wf_ok (a := 19) (b := 19) (z := (0, 64)) hI.1.1 (by decide +kernel) (Nat.le_refl _) (Nat.le_refl _)
  obtain ⟨u1, u2, u3, u4⟩ := hig.1.2
  have cn := cz_n (η := η) (η 0 41).toNat
  intro x2 η1 h2 c1 x3 η2 h3 η3 eη3 x4 η4 h4 c2 η5 eη5 x5 η6 h5
  have k2 : sQ wl_l zTr zOl_isCounted zMl_isCounted [] η x2 η1 ∧ pQl_isCounted [] η x2 η1 := h2
  have k3 : sQ wl_l zTr zOl_waitsFor zMl_waitsFor [x1] η1 x3 η2 ∧ pQl_waitsFor [x1] η1 x3 η2 := h3
  have k4 : sQ wl_l zTr zOl_rank zMl_rank [x1] η3 x4 η4 ∧ pQl_rank [x1] η3 x4 η4 := h4
  have k5 : sQ wl_l zTr zOl_token zMl_token [] η5 x5 η6 ∧ pQl_token [] η5 x5 η6 := h5
  have bx1 : (3 : Int) ≤ x1 ∧ x1 ≤ 14 := hI.1.2.1.1
  have w0_0_8 : (0 : Int) ≤ η 0 8 ∧ η 0 8 ≤ 6 := wf_ok (a := 8) (b := 8) (z := (0, 6)) hI.1.1 (by decide +kernel) (Nat.le_refl _) (Nat.le_refl _)
  have c0_0_8 : η 0 8 = η 0 8 := rfl
  have wb1 : wB wl_l zTr η1 := k2.1.1
  have bx2 : (0 : Int) ≤ x2 ∧ x2 ≤ 1 := k2.1.2.1
  have v1 : zEq (η1 0 8) (η 0 8) := (k2.1.2.2.2.1 0 8 (by decide +kernel)).trans rfl
  have c1_0_8 : η1 0 8 = η 0 8 := v1
  have wb2 : wB wl_l zTr η2 := k3.1.1
  have bx3 : (0 : Int) ≤ x3 ∧ x3 ≤ 0 := k3.1.2.1
  have v3 : zEq (η1 0 45) (η 0 45) := (k2.1.2.2.2.1 0 45 (by decide +kernel)).trans rfl
  have v4 : zEq (η2 0 45) (η 0 45) := (k3.1.2.2.2.1 0 45 (by decide +kernel)).trans v3
  have c2_0_45 : η2 0 45 = η 0 45 := v4
  have wb3 : wB wl_l zTr η3 := by rw [eη3]; exact wk_ok (a := 45) (b := 45) (z := ((-2147483648), 2147483647)) zTr_k (GR := []) wb2 (by decide +kernel) (by decide) (by decide) (show ((-2147483648) : Int) ≤ 1 by omega) (show 1 ≤ (2147483647 : Int) by omega)
  have v5 : zEq (η2 0 8) (η 0 8) := (k3.1.2.2.2.1 0 8 (by decide +kernel)).trans v1
  have v6 : zEq (η3 0 8) (η 0 8) := by rw [eη3]; exact (zup_ne (fun _ e => absurd e (by decide))).trans v5
  have c3_0_8 : η3 0 8 = η 0 8 := v6
  have wb4 : wB wl_l zTr η4 := k4.1.1
  have bx4 : (0 : Int) ≤ x4 ∧ x4 ≤ 6 := k4.1.2.1
  have wb5 : wB wl_l zTr η5 := by rw [eη5]; exact wk_ok (a := 46) (b := 46) (z := ((-2147483648), 2147483647)) zTr_k (GR := []) wb4 (by decide +kernel) (by decide) (by decide) (show ((-2147483648) : Int) ≤ 0 by omega) (show 0 ≤ (2147483647 : Int) by omega)
  have w0_0_7 : (0 : Int) ≤ η 0 7 ∧ η 0 7 ≤ 700 := wf_ok (a := 7) (b := 7) (z := (0, 700)) hI.1.1 (by decide +kernel) (Nat.le_refl _) (Nat.le_refl _)
  have v8 : zEq (η1 0 7) (η 0 7) := (k2.1.2.2.2.1 0 7 (by decide +kernel)).trans rfl
  have v9 : zEq (η2 0 7) (η 0 7) := (k3.1.2.2.2.1 0 7 (by decide +kernel)).trans v8
  have v10 : zEq (η3 0 7) (η 0 7) := by rw [eη3]; exact (zup_ne (fun _ e => absurd e (by decide))).trans v9
  have v11 : zEq (η4 0 7) (η 0 7) := (k4.1.2.2.2.1 0 7 (by decide +kernel)).trans v10
  have v12 : zEq (η5 0 7) (η 0 7) := by rw [eη5]; exact (zup_ne (fun _ e => absurd e (by decide))).trans v11
  have c5_0_7 : η5 0 7 = η 0 7 := v12
  have w0_0_6 : (0 : Int) ≤ η 0 6 ∧ η 0 6 ≤ 700 := wf_ok (a := 6) (b := 6) (z := (0, 700)) hI.1.1 (by decide +kernel) (Nat.le_refl _) (Nat.le_refl _)
  have v14 : zEq (η1 0 6) (η 0 6) := (k2.1.2.2.2.1 0 6 (by decide +kernel)).trans rfl
  have v15 : zEq (η2 0 6) (η 0 6) := (k3.1.2.2.2.1 0 6 (by decide +kernel)).trans v14
  have v16 : zEq (η3 0 6) (η 0 6) := by rw [eη3]; exact (zup_ne (fun _ e => absurd e (by decide))).trans v15
  have v17 : zEq (η4 0 6) (η 0 6) := (k4.1.2.2.2.1 0 6 (by decide +kernel)).trans v16
  have v18 : zEq (η5 0 6) (η 0 6) := by rw [eη5]; exact (zup_ne (fun _ e => absurd e (by decide))).trans v17
  have c5_0_6 : η5 0 6 = η 0 6 := v18
  have v19 : zEq (η4 0 8) (η 0 8) := (k4.1.2.2.2.1 0 8 (by decide +kernel)).trans v6
  have v20 : zEq (η5 0 8) (η 0 8) := by rw [eη5]; exact (zup_ne (fun _ e => absurd e (by decide))).trans v19
  have c5_0_8 : η5 0 8 = η 0 8 := v20
  have wb6 : wB wl_l zTr η6 := k5.1.1
  have bx5 : (0 : Int) ≤ x5 ∧ x5 ≤ 0 := k5.1.2.1
  have fm1 : zFm zMl_signs η0 η1 := zFm_tr2 hI.2 k2.1.2.2.2.1 (by decide +kernel)
  have fm2 : zFm zMl_signs η0 η2 := zFm_tr2 fm1 k3.1.2.2.2.1 (by decide +kernel)
  have fm3 : zFm zMl_signs η0 η3 := by rw [eη3]; exact zFm_up fm2 rfl
  have fm4 : zFm zMl_signs η0 η4 := zFm_tr2 fm3 k4.1.2.2.2.1 (by decide +kernel)
  have fm5 : zFm zMl_signs η0 η5 := by rw [eη5]; exact zFm_up fm4 rfl
  have fm6 : zFm zMl_signs η0 η6 := zFm_tr2 fm5 k5.1.2.2.2.1 (by decide +kernel)
  have fmE : zFm zMl_signs η0 η6 := fm6
  have fr22_0 : ∀ j, η 22 j = η 22 j := fun _ => rfl
  have v21 : ∀ j, η1 22 j = η 22 j := fun j => k2.1.2.2.2.1 22 _ (zinr_not (by decide +kernel))
  have fr22_1 : ∀ j, η1 22 j = η 22 j := v21
  have fr22_2 : ∀ j, η2 22 j = η2 22 j := fun _ => rfl
  have v23 : ∀ j, η3 22 j = η2 22 j := fun j => by rw [eη3]; exact zup_ne (fun e _ => absurd e (by decide))
  have fr22_3 : ∀ j, η3 22 j = η2 22 j := v23
  have v24 : ∀ j, η4 22 j = η2 22 j := fun j => (k4.1.2.2.2.1 22 _ (zinr_not (by decide +kernel))).trans (v23 j)
  have fr22_4 : ∀ j, η4 22 j = η2 22 j := v24
  have v25 : ∀ j, η5 22 j = η2 22 j := fun j => by rw [eη5]; exact (zup_ne (fun e _ => absurd e (by decide))).trans (v24 j)
  have fr22_5 : ∀ j, η5 22 j = η2 22 j := v25
  have v26 : ∀ j, η6 22 j = η2 22 j := fun j => (k5.1.2.2.2.1 22 _ (zinr_not (by decide +kernel))).trans (v25 j)
  have fr22_6 : ∀ j, η6 22 j = η2 22 j := v26
  have fr22 : ∀ j, η6 22 j = η2 22 j := v26
  have v28 : zEq (η3 0 41) (η2 0 41) := by rw [eη3]; exact (zup_ne (fun _ e => absurd e (by decide))).trans rfl
  have v29 : zEq (η4 0 41) (η2 0 41) := (k4.1.2.2.2.1 0 41 (by decide +kernel)).trans v28
  have v30 : zEq (η5 0 41) (η2 0 41) := by rw [eη5]; exact (zup_ne (fun _ e => absurd e (by decide))).trans v29
  have v31 : zEq (η6 0 41) (η2 0 41) := (k5.1.2.2.2.1 0 41 (by decide +kernel)).trans v30
  have f0_41 : η6 0 41 = η2 0 41 := v31
  have w0_0_43 : (0 : Int) ≤ η 0 43 ∧ η 0 43 ≤ 8 := wf_ok (a := 43) (b := 43) (z := (0, 8)) hI.1.1 (by decide +kernel) (Nat.le_refl _) (Nat.le_refl _)
  have v33 : zEq (η1 0 43) (η 0 43) := (k2.1.2.2.2.1 0 43 (by decide +kernel)).trans rfl
  have v34 : zEq (η2 0 43) (η 0 43) := (k3.1.2.2.2.1 0 43 (by decide +kernel)).trans v33
  have v35 : zEq (η3 0 43) (η 0 43) := by rw [eη3]; exact (zup_ne (fun _ e => absurd e (by decide))).trans v34
  have v36 : zEq (η4 0 43) (η 0 43) := (k4.1.2.2.2.1 0 43 (by decide +kernel)).trans v35
  have v37 : zEq (η5 0 43) (η 0 43) := by rw [eη5]; exact (zup_ne (fun _ e => absurd e (by decide))).trans v36
  have v38 : zEq (η6 0 43) (η 0 43) := (k5.1.2.2.2.1 0 43 (by decide +kernel)).trans v37
  have f0_43 : η6 0 43 = η 0 43 := v38
  have v40 : zEq (η1 0 42) (η 0 42) := (k2.1.2.2.2.1 0 42 (by decide +kernel)).trans rfl
  have v41 : zEq (η2 0 42) (η 0 42) := (k3.1.2.2.2.1 0 42 (by decide +kernel)).trans v40
  have v42 : zEq (η3 0 42) (η 0 42) := by rw [eη3]; exact (zup_ne (fun _ e => absurd e (by decide))).trans v41
  have v43 : zEq (η4 0 42) (η 0 42) := (k4.1.2.2.2.1 0 42 (by decide +kernel)).trans v42
  have v44 : zEq (η5 0 42) (η 0 42) := by rw [eη5]; exact (zup_ne (fun _ e => absurd e (by decide))).trans v43
  have v45 : zEq (η6 0 42) (η 0 42) := (k5.1.2.2.2.1 0 42 (by decide +kernel)).trans v44
  have f0_42 : η6 0 42 = η 0 42 := v45
  have v46 : zEq (η3 0 45) (1) := by rw [eη3]; exact zup_eq
  have v47 : zEq (η4 0 45) (1) := (k4.1.2.2.2.1 0 45 (by decide +kernel)).trans v46
  have v48 : zEq (η5 0 45) (1) := by rw [eη5]; exact (zup_ne (fun _ e => absurd e (by decide))).trans v47
  have v49 : zEq (η6 0 45) (1) := (k5.1.2.2.2.1 0 45 (by decide +kernel)).trans v48
  have f0_45 : η6 0 45 = 1 := v49
  have w0_0_19 : (0 : Int) ≤ η 0 19 ∧ η 0 19 ≤ 64 := wf_ok (a := 19) (b := 19) (z := (0, 64)) hI.1.1 (by decide +kernel) (Nat.le_refl _) (Nat.le_refl _)
  have v51 : zEq (η1 0 19) (η 0 19) := (k2.1.2.2.2.1 0 19 (by decide +kernel)).trans rfl
  have v52 : zEq (η2 0 19) (η 0 19) := (k3.1.2.2.2.1 0 19 (by decide +kernel)).trans v51
  have v53 : zEq (η3 0 19) (η 0 19) := by rw [eη3]; exact (zup_ne (fun _ e => absurd e (by decide))).trans v52
  have v54 : zEq (η4 0 19) (η 0 19) := (k4.1.2.2.2.1 0 19 (by decide +kernel)).trans v53
  have v55 : zEq (η5 0 19) (η 0 19) := by rw [eη5]; exact (zup_ne (fun _ e => absurd e (by decide))).trans v54
  have v56 : zEq (η6 0 19) (η 0 19) := (k5.1.2.2.2.1 0 19 (by decide +kernel)).trans v55
  have f0_19 : η6 0 19 = η 0 19 := v56
  have w1_0_44 : (0 : Int) ≤ η1 0 44 ∧ η1 0 44 ≤ 64 := wf_ok (a := 44) (b := 44) (z := (0, 64)) k2.1.1 (by decide +kernel) (Nat.le_refl _) (Nat.le_refl _)
  have v58 : zEq (η2 0 44) (η1 0 44) := (k3.1.2.2.2.1 0 44 (by decide +kernel)).trans rfl
  have v59 : zEq (η3 0 44) (η1 0 44) := by rw [eη3]; exact (zup_ne (fun _ e => absurd e (by decide))).trans v58
  have v60 : zEq (η4 0 44) (η1 0 44) := (k4.1.2.2.2.1 0 44 (by decide +kernel)).trans v59
  have v61 : zEq (η5 0 44) (η1 0 44) := by rw [eη5]; exact (zup_ne (fun _ e => absurd e (by decide))).trans v60
  have v62 : zEq (η6 0 44) (η1 0 44) := (k5.1.2.2.2.1 0 44 (by decide +kernel)).trans v61
  have f0_44 : η6 0 44 = η1 0 44 := v62
  have w6_0_7 : (0 : Int) ≤ η6 0 7 ∧ η6 0 7 ≤ 700 := wf_ok (a := 7) (b := 7) (z := (0, 700)) k5.1.1 (by decide +kernel) (Nat.le_refl _) (Nat.le_refl _)
  have f0_7 : η6 0 7 = η6 0 7 := rfl
  have v64 : zEq (η6 0 6) (η 0 6) := (k5.1.2.2.2.1 0 6 (by decide +kernel)).trans v18
  have f0_6 : η6 0 6 = η 0 6 := v64
  have w6_0_8 : (0 : Int) ≤ η6 0 8 ∧ η6 0 8 ≤ 6 := wf_ok (a := 8) (b := 8) (z := (0, 6)) k5.1.1 (by decide +kernel) (Nat.le_refl _) (Nat.le_refl _)
  have f0_8 : η6 0 8 = η6 0 8 := rfl
  have wbE : wB wl_l zTr η6 := wb6
  
  have I0 : H_l 0 0 0 η := hig.1
  have I1 : H_l 1 0 0 η1 := k2.2.1 c1
  have I2 : H_l 0 0 (-1) η2 := k3.2
  have I3 : H_l 0 0 0 η3 := by rw [eη3]; exact h_eq (wn_up I2) rfl rfl (by apply Int.le_antisymm <;> omega)
  have I4 : H_l 0 0 0 η4 := k4.2.1
  have qr4 : (1 ≤ x4 → 2 ≤ x1) ∧ (2 ≤ x1 → 1 ≤ x4) := k4.2.2
  have I5 : H_l 0 0 0 η5 := by rw [eη5]; exact zGk_upc hk_l I4 (by decide +kernel)
  have I6 : H_l 0 0 0 η6 := k5.2.1
  have qt5 : ¬ η5 0 8 = 0 → 10 * (η6 0 6 - η6 0 7) + η6 0 8 < 10 * (η5 0 6 - η5 0 7) + η5 0 8 := k5.2.2
  refine ⟨I6.1, fun _ => ⟨I6, show 10 * (η6 0 6 - η6 0 7) + η6 0 8 < 10 * (η0 0 6 - η0 0 7) + η0 0 8 by omega, fun w => ?_⟩⟩
  have w : η6 0 45 = 0 := w
  omega
set_option maxHeartbeats 8000000 in
theorem zl_signs_o41 {ro : Nat → List Int32} (xs : List Int) (η0 : zE) (hp : sP wl_l zTr zPl_signs xs η0) (hpp : pPl_signs xs η0) (x1 : Int) (η : zE) (hI : zsI wl_l zTr zVl_signs zMl_signs η0 3 [x1] η) (hig : iCl_signs xs η0 3 [x1] η) : ∀ (x2 : Int) (η1 : zE), ((gC2 wl_l [(nat_lit 0, zPl_isSign, zOl_isSign, zMl_isSign), (nat_lit 1, zPl_wrong, zOl_wrong, zMl_wrong), (nat_lit 2, zPl_token, zOl_token, zMl_token), (nat_lit 3, zPl_isKey, zOl_isKey, zMl_isKey), (nat_lit 4, zPl_isCounted, zOl_isCounted, zMl_isCounted), (nat_lit 5, zPl_waitsFor, zOl_waitsFor, zMl_waitsFor), (nat_lit 6, zPl_rank, zOl_rank, zMl_rank), (nat_lit 7, zPl_bind, zOl_bind, zMl_bind)] pCl_signs qCl_signs) 4).2 [] η x2 η1 → (¬ x2 = 0) → ∀ (x3 : Int) (η2 : zE), ((gC2 wl_l [(nat_lit 0, zPl_isSign, zOl_isSign, zMl_isSign), (nat_lit 1, zPl_wrong, zOl_wrong, zMl_wrong), (nat_lit 2, zPl_token, zOl_token, zMl_token), (nat_lit 3, zPl_isKey, zOl_isKey, zMl_isKey), (nat_lit 4, zPl_isCounted, zOl_isCounted, zMl_isCounted), (nat_lit 5, zPl_waitsFor, zOl_waitsFor, zMl_waitsFor), (nat_lit 6, zPl_rank, zOl_rank, zMl_rank), (nat_lit 7, zPl_bind, zOl_bind, zMl_bind)] pCl_signs qCl_signs) 5).2 [x1] η1 x3 η2 → ∀ η3 : zE, η3 = zup η2 0 (Int.toNat 45) 1 → ∀ (x4 : Int) (η4 : zE), ((gC2 wl_l [(nat_lit 0, zPl_isSign, zOl_isSign, zMl_isSign), (nat_lit 1, zPl_wrong, zOl_wrong, zMl_wrong), (nat_lit 2, zPl_token, zOl_token, zMl_token), (nat_lit 3, zPl_isKey, zOl_isKey, zMl_isKey), (nat_lit 4, zPl_isCounted, zOl_isCounted, zMl_isCounted), (nat_lit 5, zPl_waitsFor, zOl_waitsFor, zMl_waitsFor), (nat_lit 6, zPl_rank, zOl_rank, zMl_rank), (nat_lit 7, zPl_bind, zOl_bind, zMl_bind)] pCl_signs qCl_signs) 6).2 [x1] η3 x4 η4 → (x4 < 3) → ∀ η5 : zE, η5 = zup η4 0 (Int.toNat 46) 1 → ((gC2 wl_l [(nat_lit 0, zPl_isSign, zOl_isSign, zMl_isSign), (nat_lit 1, zPl_wrong, zOl_wrong, zMl_wrong), (nat_lit 2, zPl_token, zOl_token, zMl_token), (nat_lit 3, zPl_isKey, zOl_isKey, zMl_isKey), (nat_lit 4, zPl_isCounted, zOl_isCounted, zMl_isCounted), (nat_lit 5, zPl_waitsFor, zOl_waitsFor, zMl_waitsFor), (nat_lit 6, zPl_rank, zOl_rank, zMl_rank), (nat_lit 7, zPl_bind, zOl_bind, zMl_bind)] pCl_signs qCl_signs) 2).1 [] η5 := by
  have hw : η 0 45 = 0 := hig.2.1
  have hr1 : 1 ≤ η 0 19 := hig.2.2.1
  have hs1 : η 0 7 = η0 0 7 := hig.2.2.2.1
  have hs2 : η 0 6 = η0 0 6 := hig.2.2.2.2.1
  have hs3 : η 0 8 = η0 0 8 := hig.2.2.2.2.2.1
  have hk : x1 = 0 ∨ (3 ≤ x1 ∧ ¬ η 0 8 = 0) := hig.2.2.2.2.2.2
  have kk : η 0 8 = 5 → 0 ≤ η 0 9 ∧ η 0 9 ≤ 5 := hig.1.1.1.2.1.2
  have bd43 : (0 : Int) ≤ η 0 43 ∧ η 0 43 ≤ 8 := wf_ok (a := 43) (b := 43) (z := (0, 8)) hI.1.1 (by decide +kernel) (Nat.le_refl _) (Nat.le_refl _)
  have bd44 : (0 : Int) ≤ η 0 44 ∧ η 0 44 ≤ 64 := wf_ok (a := 44) (b := 44) (z := (0, 64)) hI.1.1 (by decide +kernel) (Nat.le_refl _) (Nat.le_refl _)
  have bd19 : (0 : Int) ≤ η 0 19 ∧ η 0 19 ≤ 64 := wf_ok (a := 19) (b := 19) (z := (0, 64)) hI.1.1 (by decide +kernel) (Nat.le_refl _) (Nat.le_refl _)
  obtain ⟨u1, u2, u3, u4⟩ := hig.1.2
  have cn := cz_n (η := η) (η 0 41).toNat
  intro x2 η1 h2 c1 x3 η2 h3 η3 eη3 x4 η4 h4 c2 η5 eη5
  have k2 : sQ wl_l zTr zOl_isCounted zMl_isCounted [] η x2 η1 ∧ pQl_isCounted [] η x2 η1 := h2
  have k3 : sQ wl_l zTr zOl_waitsFor zMl_waitsFor [x1] η1 x3 η2 ∧ pQl_waitsFor [x1] η1 x3 η2 := h3
  have k4 : sQ wl_l zTr zOl_rank zMl_rank [x1] η3 x4 η4 ∧ pQl_rank [x1] η3 x4 η4 := h4
  have bx1 : (3 : Int) ≤ x1 ∧ x1 ≤ 14 := hI.1.2.1.1
  have w0_0_8 : (0 : Int) ≤ η 0 8 ∧ η 0 8 ≤ 6 := wf_ok (a := 8) (b := 8) (z := (0, 6)) hI.1.1 (by decide +kernel) (Nat.le_refl _) (Nat.le_refl _)
  have c0_0_8 : η 0 8 = η 0 8 := rfl
  have wb1 : wB wl_l zTr η1 := k2.1.1
  have bx2 : (0 : Int) ≤ x2 ∧ x2 ≤ 1 := k2.1.2.1
  have v1 : zEq (η1 0 8) (η 0 8) := (k2.1.2.2.2.1 0 8 (by decide +kernel)).trans rfl
  have c1_0_8 : η1 0 8 = η 0 8 := v1
  have wb2 : wB wl_l zTr η2 := k3.1.1
  have bx3 : (0 : Int) ≤ x3 ∧ x3 ≤ 0 := k3.1.2.1
  have v3 : zEq (η1 0 45) (η 0 45) := (k2.1.2.2.2.1 0 45 (by decide +kernel)).trans rfl
  have v4 : zEq (η2 0 45) (η 0 45) := (k3.1.2.2.2.1 0 45 (by decide +kernel)).trans v3
  have c2_0_45 : η2 0 45 = η 0 45 := v4
  have wb3 : wB wl_l zTr η3 := by rw [eη3]; exact wk_ok (a := 45) (b := 45) (z := ((-2147483648), 2147483647)) zTr_k (GR := []) wb2 (by decide +kernel) (by decide) (by decide) (show ((-2147483648) : Int) ≤ 1 by omega) (show 1 ≤ (2147483647 : Int) by omega)
  have v5 : zEq (η2 0 8) (η 0 8) := (k3.1.2.2.2.1 0 8 (by decide +kernel)).trans v1
  have v6 : zEq (η3 0 8) (η 0 8) := by rw [eη3]; exact (zup_ne (fun _ e => absurd e (by decide))).trans v5
  have c3_0_8 : η3 0 8 = η 0 8 := v6
  have wb4 : wB wl_l zTr η4 := k4.1.1
  have bx4 : (0 : Int) ≤ x4 ∧ x4 ≤ 6 := k4.1.2.1
  have wb5 : wB wl_l zTr η5 := by rw [eη5]; exact wk_ok (a := 46) (b := 46) (z := ((-2147483648), 2147483647)) zTr_k (GR := []) wb4 (by decide +kernel) (by decide) (by decide) (show ((-2147483648) : Int) ≤ 1 by omega) (show 1 ≤ (2147483647 : Int) by omega)
  have fm1 : zFm zMl_signs η0 η1 := zFm_tr2 hI.2 k2.1.2.2.2.1 (by decide +kernel)
  have fm2 : zFm zMl_signs η0 η2 := zFm_tr2 fm1 k3.1.2.2.2.1 (by decide +kernel)
  have fm3 : zFm zMl_signs η0 η3 := by rw [eη3]; exact zFm_up fm2 rfl
  have fm4 : zFm zMl_signs η0 η4 := zFm_tr2 fm3 k4.1.2.2.2.1 (by decide +kernel)
  have fm5 : zFm zMl_signs η0 η5 := by rw [eη5]; exact zFm_up fm4 rfl
  have fmE : zFm zMl_signs η0 η5 := fm5
  have fr22_0 : ∀ j, η 22 j = η 22 j := fun _ => rfl
  have v7 : ∀ j, η1 22 j = η 22 j := fun j => k2.1.2.2.2.1 22 _ (zinr_not (by decide +kernel))
  have fr22_1 : ∀ j, η1 22 j = η 22 j := v7
  have fr22_2 : ∀ j, η2 22 j = η2 22 j := fun _ => rfl
  have v9 : ∀ j, η3 22 j = η2 22 j := fun j => by rw [eη3]; exact zup_ne (fun e _ => absurd e (by decide))
  have fr22_3 : ∀ j, η3 22 j = η2 22 j := v9
  have v10 : ∀ j, η4 22 j = η2 22 j := fun j => (k4.1.2.2.2.1 22 _ (zinr_not (by decide +kernel))).trans (v9 j)
  have fr22_4 : ∀ j, η4 22 j = η2 22 j := v10
  have v11 : ∀ j, η5 22 j = η2 22 j := fun j => by rw [eη5]; exact (zup_ne (fun e _ => absurd e (by decide))).trans (v10 j)
  have fr22_5 : ∀ j, η5 22 j = η2 22 j := v11
  have fr22 : ∀ j, η5 22 j = η2 22 j := v11
  have v13 : zEq (η3 0 41) (η2 0 41) := by rw [eη3]; exact (zup_ne (fun _ e => absurd e (by decide))).trans rfl
  have v14 : zEq (η4 0 41) (η2 0 41) := (k4.1.2.2.2.1 0 41 (by decide +kernel)).trans v13
  have v15 : zEq (η5 0 41) (η2 0 41) := by rw [eη5]; exact (zup_ne (fun _ e => absurd e (by decide))).trans v14
  have f0_41 : η5 0 41 = η2 0 41 := v15
  have w0_0_43 : (0 : Int) ≤ η 0 43 ∧ η 0 43 ≤ 8 := wf_ok (a := 43) (b := 43) (z := (0, 8)) hI.1.1 (by decide +kernel) (Nat.le_refl _) (Nat.le_refl _)
  have v17 : zEq (η1 0 43) (η 0 43) := (k2.1.2.2.2.1 0 43 (by decide +kernel)).trans rfl
  have v18 : zEq (η2 0 43) (η 0 43) := (k3.1.2.2.2.1 0 43 (by decide +kernel)).trans v17
  have v19 : zEq (η3 0 43) (η 0 43) := by rw [eη3]; exact (zup_ne (fun _ e => absurd e (by decide))).trans v18
  have v20 : zEq (η4 0 43) (η 0 43) := (k4.1.2.2.2.1 0 43 (by decide +kernel)).trans v19
  have v21 : zEq (η5 0 43) (η 0 43) := by rw [eη5]; exact (zup_ne (fun _ e => absurd e (by decide))).trans v20
  have f0_43 : η5 0 43 = η 0 43 := v21
  have v23 : zEq (η1 0 42) (η 0 42) := (k2.1.2.2.2.1 0 42 (by decide +kernel)).trans rfl
  have v24 : zEq (η2 0 42) (η 0 42) := (k3.1.2.2.2.1 0 42 (by decide +kernel)).trans v23
  have v25 : zEq (η3 0 42) (η 0 42) := by rw [eη3]; exact (zup_ne (fun _ e => absurd e (by decide))).trans v24
  have v26 : zEq (η4 0 42) (η 0 42) := (k4.1.2.2.2.1 0 42 (by decide +kernel)).trans v25
  have v27 : zEq (η5 0 42) (η 0 42) := by rw [eη5]; exact (zup_ne (fun _ e => absurd e (by decide))).trans v26
  have f0_42 : η5 0 42 = η 0 42 := v27
  have v28 : zEq (η3 0 45) (1) := by rw [eη3]; exact zup_eq
  have v29 : zEq (η4 0 45) (1) := (k4.1.2.2.2.1 0 45 (by decide +kernel)).trans v28
  have v30 : zEq (η5 0 45) (1) := by rw [eη5]; exact (zup_ne (fun _ e => absurd e (by decide))).trans v29
  have f0_45 : η5 0 45 = 1 := v30
  have w0_0_19 : (0 : Int) ≤ η 0 19 ∧ η 0 19 ≤ 64 := wf_ok (a := 19) (b := 19) (z := (0, 64)) hI.1.1 (by decide +kernel) (Nat.le_refl _) (Nat.le_refl _)
  have v32 : zEq (η1 0 19) (η 0 19) := (k2.1.2.2.2.1 0 19 (by decide +kernel)).trans rfl
  have v33 : zEq (η2 0 19) (η 0 19) := (k3.1.2.2.2.1 0 19 (by decide +kernel)).trans v32
  have v34 : zEq (η3 0 19) (η 0 19) := by rw [eη3]; exact (zup_ne (fun _ e => absurd e (by decide))).trans v33
  have v35 : zEq (η4 0 19) (η 0 19) := (k4.1.2.2.2.1 0 19 (by decide +kernel)).trans v34
  have v36 : zEq (η5 0 19) (η 0 19) := by rw [eη5]; exact (zup_ne (fun _ e => absurd e (by decide))).trans v35
  have f0_19 : η5 0 19 = η 0 19 := v36
  have w1_0_44 : (0 : Int) ≤ η1 0 44 ∧ η1 0 44 ≤ 64 := wf_ok (a := 44) (b := 44) (z := (0, 64)) k2.1.1 (by decide +kernel) (Nat.le_refl _) (Nat.le_refl _)
  have v38 : zEq (η2 0 44) (η1 0 44) := (k3.1.2.2.2.1 0 44 (by decide +kernel)).trans rfl
  have v39 : zEq (η3 0 44) (η1 0 44) := by rw [eη3]; exact (zup_ne (fun _ e => absurd e (by decide))).trans v38
  have v40 : zEq (η4 0 44) (η1 0 44) := (k4.1.2.2.2.1 0 44 (by decide +kernel)).trans v39
  have v41 : zEq (η5 0 44) (η1 0 44) := by rw [eη5]; exact (zup_ne (fun _ e => absurd e (by decide))).trans v40
  have f0_44 : η5 0 44 = η1 0 44 := v41
  have w0_0_7 : (0 : Int) ≤ η 0 7 ∧ η 0 7 ≤ 700 := wf_ok (a := 7) (b := 7) (z := (0, 700)) hI.1.1 (by decide +kernel) (Nat.le_refl _) (Nat.le_refl _)
  have v43 : zEq (η1 0 7) (η 0 7) := (k2.1.2.2.2.1 0 7 (by decide +kernel)).trans rfl
  have v44 : zEq (η2 0 7) (η 0 7) := (k3.1.2.2.2.1 0 7 (by decide +kernel)).trans v43
  have v45 : zEq (η3 0 7) (η 0 7) := by rw [eη3]; exact (zup_ne (fun _ e => absurd e (by decide))).trans v44
  have v46 : zEq (η4 0 7) (η 0 7) := (k4.1.2.2.2.1 0 7 (by decide +kernel)).trans v45
  have v47 : zEq (η5 0 7) (η 0 7) := by rw [eη5]; exact (zup_ne (fun _ e => absurd e (by decide))).trans v46
  have f0_7 : η5 0 7 = η 0 7 := v47
  have w0_0_6 : (0 : Int) ≤ η 0 6 ∧ η 0 6 ≤ 700 := wf_ok (a := 6) (b := 6) (z := (0, 700)) hI.1.1 (by decide +kernel) (Nat.le_refl _) (Nat.le_refl _)
  have v49 : zEq (η1 0 6) (η 0 6) := (k2.1.2.2.2.1 0 6 (by decide +kernel)).trans rfl
  have v50 : zEq (η2 0 6) (η 0 6) := (k3.1.2.2.2.1 0 6 (by decide +kernel)).trans v49
  have v51 : zEq (η3 0 6) (η 0 6) := by rw [eη3]; exact (zup_ne (fun _ e => absurd e (by decide))).trans v50
  have v52 : zEq (η4 0 6) (η 0 6) := (k4.1.2.2.2.1 0 6 (by decide +kernel)).trans v51
  have v53 : zEq (η5 0 6) (η 0 6) := by rw [eη5]; exact (zup_ne (fun _ e => absurd e (by decide))).trans v52
  have f0_6 : η5 0 6 = η 0 6 := v53
  have v54 : zEq (η4 0 8) (η 0 8) := (k4.1.2.2.2.1 0 8 (by decide +kernel)).trans v6
  have v55 : zEq (η5 0 8) (η 0 8) := by rw [eη5]; exact (zup_ne (fun _ e => absurd e (by decide))).trans v54
  have f0_8 : η5 0 8 = η 0 8 := v55
  have wbE : wB wl_l zTr η5 := wb5
  
  have I0 : H_l 0 0 0 η := hig.1
  have I1 : H_l 1 0 0 η1 := k2.2.1 c1
  have I2 : H_l 0 0 (-1) η2 := k3.2
  have I3 : H_l 0 0 0 η3 := by rw [eη3]; exact h_eq (wn_up I2) rfl rfl (by apply Int.le_antisymm <;> omega)
  have I4 : H_l 0 0 0 η4 := k4.2.1
  have qr4 : (1 ≤ x4 → 2 ≤ x1) ∧ (2 ≤ x1 → 1 ≤ x4) := k4.2.2
  have I5 : H_l 0 0 0 η5 := by rw [eη5]; exact zGk_upc hk_l I4 (by decide +kernel)
  exact I5
