set_option maxHeartbeats 8000000 in
theorem zl_signs_o39 {ro : Nat → List Int32} (xs : List Int) (η0 : zE) (hp : sP wl_l zTr zPl_signs xs η0) (hpp : pPl_signs xs η0) (x1 : Int) (η : zE) (hI : zsI wl_l zTr zVl_signs zMl_signs η0 3 [x1] η) (hig : iCl_signs xs η0 3 [x1] η) : ∀ (x2 : Int) (η1 : zE), ((gC2 wl_l [(nat_lit 0, zPl_isSign, zOl_isSign, zMl_isSign), (nat_lit 1, zPl_wrong, zOl_wrong, zMl_wrong), (nat_lit 2, zPl_token, zOl_token, zMl_token), (nat_lit 3, zPl_isKey, zOl_isKey, zMl_isKey), (nat_lit 4, zPl_isCounted, zOl_isCounted, zMl_isCounted), (nat_lit 5, zPl_waitsFor, zOl_waitsFor, zMl_waitsFor), (nat_lit 6, zPl_rank, zOl_rank, zMl_rank), (nat_lit 7, zPl_bind, zOl_bind, zMl_bind)] pCl_signs qCl_signs) 4).2 [] η x2 η1 → (¬ x2 = 0) → ∀ (x3 : Int) (η2 : zE), ((gC2 wl_l [(nat_lit 0, zPl_isSign, zOl_isSign, zMl_isSign), (nat_lit 1, zPl_wrong, zOl_wrong, zMl_wrong), (nat_lit 2, zPl_token, zOl_token, zMl_token), (nat_lit 3, zPl_isKey, zOl_isKey, zMl_isKey), (nat_lit 4, zPl_isCounted, zOl_isCounted, zMl_isCounted), (nat_lit 5, zPl_waitsFor, zOl_waitsFor, zMl_waitsFor), (nat_lit 6, zPl_rank, zOl_rank, zMl_rank), (nat_lit 7, zPl_bind, zOl_bind, zMl_bind)] pCl_signs qCl_signs) 5).2 [x1] η1 x3 η2 → ∀ η3 : zE, η3 = zup η2 0 (Int.toNat 45) 1 → ∀ (x4 : Int) (η4 : zE), ((gC2 wl_l [(nat_lit 0, zPl_isSign, zOl_isSign, zMl_isSign), (nat_lit 1, zPl_wrong, zOl_wrong, zMl_wrong), (nat_lit 2, zPl_token, zOl_token, zMl_token), (nat_lit 3, zPl_isKey, zOl_isKey, zMl_isKey), (nat_lit 4, zPl_isCounted, zOl_isCounted, zMl_isCounted), (nat_lit 5, zPl_waitsFor, zOl_waitsFor, zMl_waitsFor), (nat_lit 6, zPl_rank, zOl_rank, zMl_rank), (nat_lit 7, zPl_bind, zOl_bind, zMl_bind)] pCl_signs qCl_signs) 6).2 [x1] η3 x4 η4 → (3 ≤ x4) → ∀ η5 : zE, η5 = zup η4 0 (Int.toNat 46) 0 → ((gC2 wl_l [(nat_lit 0, zPl_isSign, zOl_isSign, zMl_isSign), (nat_lit 1, zPl_wrong, zOl_wrong, zMl_wrong), (nat_lit 2, zPl_token, zOl_token, zMl_token), (nat_lit 3, zPl_isKey, zOl_isKey, zMl_isKey), (nat_lit 4, zPl_isCounted, zOl_isCounted, zMl_isCounted), (nat_lit 5, zPl_waitsFor, zOl_waitsFor, zMl_waitsFor), (nat_lit 6, zPl_rank, zOl_rank, zMl_rank), (nat_lit 7, zPl_bind, zOl_bind, zMl_bind)] pCl_signs qCl_signs) 2).1 [] η5 := by
  have hw : η 0 45 = 0 := hig.2.1
  have hr1 : 1 ≤ η 0 19 := hig.2.2.1
  have hs1 : η 0 7 = η0 0 7 := hig.2.2.2.1
  have hs2 : η 0 6 = η0 0 6 := hig.2.2.2.2.1
  have hs3 : η 0 8 = η0 0 8 := hig.2.2.2.2.2.1
  have hk : x1 = 0 ∨ (3 ≤ x1 ∧ ¬ η 0 8 = 0) := hig.2.2.2.2.2.2
  have kk : η 0 8 = 5 → 0 ≤ η 0 9 ∧ η 0 9 ≤ 5 := hig.1.1.1.2.1.2
  have bd43 : (0 : Int) ≤ η 0 43 ∧ η 0 43 ≤ 8 := wf_ok (a := 43) (b := 43) (z := (0, 8)) hI.1.1 (by decide +kernel) (Nat.le_refl _) (Nat.le_refl _)
  have bd44 : (0 : Int) ≤ η 0 44 ∧ η 0 44 ≤ 64 := wf_ok (a := 44) (b := 44) (z := (0, 64)) hI.1.1 (by decide +kernel) (Nat.le_refl _) (Nat.le_refl _)
  have bd19 : (0 : Int) ≤ η 0 19 ∧ η 0 19 ≤ 64 := wf_ok (a := 19) (b := 19) (z := (0, 64)) hI.1.1 (by decide +kernel) (Nat.le_refl _) (Nat.le_refl _)
  obtain ⟨u1, u2, u3, u4⟩ := hig.1.2
  have cn := cz_n (η := η) (η 0 41).toNat
  intro x2 η1 h2 c1 x3 η2 h3 η3 eη3 x4 η4 h4 c2 η5 eη5
  have k2 : sQ wl_l zTr zOl_isCounted zMl_isCounted [] η x2 η1 ∧ pQl_isCounted [] η x2 η1 := h2
  have k3 : sQ wl_l zTr zOl_waitsFor zMl_waitsFor [x1] η1 x3 η2 ∧ pQl_waitsFor [x1] η1 x3 η2 := h3
  have k4 : sQ wl_l zTr zOl_rank zMl_rank [x1] η3 x4 η4 ∧ pQl_rank [x1] η3 x4 η4 := h4
  have bx1 : (3 : Int) ≤ x1 ∧ x1 ≤ 14 := hI.1.2.1.1
  have c0_0_41 : η 0 41 = η 0 41 := rfl
  have w0_0_43 : (0 : Int) ≤ η 0 43 ∧ η 0 43 ≤ 8 := wf_ok (a := 43) (b := 43) (z := (0, 8)) hI.1.1 (by decide +kernel) (Nat.le_refl _) (Nat.le_refl _)
  have c0_0_43 : η 0 43 = η 0 43 := rfl
  have c0_0_42 : η 0 42 = η 0 42 := rfl
  have c0_0_45 : η 0 45 = η 0 45 := rfl
  have w0_0_19 : (0 : Int) ≤ η 0 19 ∧ η 0 19 ≤ 64 := wf_ok (a := 19) (b := 19) (z := (0, 64)) hI.1.1 (by decide +kernel) (Nat.le_refl _) (Nat.le_refl _)
  have c0_0_19 : η 0 19 = η 0 19 := rfl
  have w0_0_44 : (0 : Int) ≤ η 0 44 ∧ η 0 44 ≤ 64 := wf_ok (a := 44) (b := 44) (z := (0, 64)) hI.1.1 (by decide +kernel) (Nat.le_refl _) (Nat.le_refl _)
  have c0_0_44 : η 0 44 = η 0 44 := rfl
  have w0_0_7 : (0 : Int) ≤ η 0 7 ∧ η 0 7 ≤ 700 := wf_ok (a := 7) (b := 7) (z := (0, 700)) hI.1.1 (by decide +kernel) (Nat.le_refl _) (Nat.le_refl _)
  have c0_0_7 : η 0 7 = η 0 7 := rfl
  have w0_0_6 : (0 : Int) ≤ η 0 6 ∧ η 0 6 ≤ 700 := wf_ok (a := 6) (b := 6) (z := (0, 700)) hI.1.1 (by decide +kernel) (Nat.le_refl _) (Nat.le_refl _)
  have c0_0_6 : η 0 6 = η 0 6 := rfl
  have w0_0_8 : (0 : Int) ≤ η 0 8 ∧ η 0 8 ≤ 6 := wf_ok (a := 8) (b := 8) (z := (0, 6)) hI.1.1 (by decide +kernel) (Nat.le_refl _) (Nat.le_refl _)
  have c0_0_8 : η 0 8 = η 0 8 := rfl
  have wb1 : wB wl_l zTr η1 := k2.1.1
  have bx2 : (0 : Int) ≤ x2 ∧ x2 ≤ 1 := k2.1.2.1
  have v9 : zEq (η1 0 41) (η 0 41) := (k2.1.2.2.2.1 0 41 (by decide +kernel)).trans rfl
  have c1_0_41 : η1 0 41 = η 0 41 := v9
  have v10 : zEq (η1 0 43) (η 0 43) := (k2.1.2.2.2.1 0 43 (by decide +kernel)).trans rfl
  have c1_0_43 : η1 0 43 = η 0 43 := v10
  have v11 : zEq (η1 0 42) (η 0 42) := (k2.1.2.2.2.1 0 42 (by decide +kernel)).trans rfl
  have c1_0_42 : η1 0 42 = η 0 42 := v11
  have v12 : zEq (η1 0 45) (η 0 45) := (k2.1.2.2.2.1 0 45 (by decide +kernel)).trans rfl
  have c1_0_45 : η1 0 45 = η 0 45 := v12
  have v13 : zEq (η1 0 19) (η 0 19) := (k2.1.2.2.2.1 0 19 (by decide +kernel)).trans rfl
  have c1_0_19 : η1 0 19 = η 0 19 := v13
  have w1_0_44 : (0 : Int) ≤ η1 0 44 ∧ η1 0 44 ≤ 64 := wf_ok (a := 44) (b := 44) (z := (0, 64)) k2.1.1 (by decide +kernel) (Nat.le_refl _) (Nat.le_refl _)
  have c1_0_44 : η1 0 44 = η1 0 44 := rfl
  have v15 : zEq (η1 0 7) (η 0 7) := (k2.1.2.2.2.1 0 7 (by decide +kernel)).trans rfl
  have c1_0_7 : η1 0 7 = η 0 7 := v15
  have v16 : zEq (η1 0 6) (η 0 6) := (k2.1.2.2.2.1 0 6 (by decide +kernel)).trans rfl
  have c1_0_6 : η1 0 6 = η 0 6 := v16
  have v17 : zEq (η1 0 8) (η 0 8) := (k2.1.2.2.2.1 0 8 (by decide +kernel)).trans rfl
  have c1_0_8 : η1 0 8 = η 0 8 := v17
  have wb2 : wB wl_l zTr η2 := k3.1.1
  have bx3 : (0 : Int) ≤ x3 ∧ x3 ≤ 0 := k3.1.2.1
  have v18 : zEq (η2 0 45) (η 0 45) := (k3.1.2.2.2.1 0 45 (by decide +kernel)).trans v12
  have c2_0_45 : η2 0 45 = η 0 45 := v18
  have wb3 : wB wl_l zTr η3 := by rw [eη3]; exact wk_ok (a := 45) (b := 45) (z := ((-2147483648), 2147483647)) zTr_k (GR := []) wb2 (by decide +kernel) (by decide) (by decide) (show ((-2147483648) : Int) ≤ 1 by omega) (show 1 ≤ (2147483647 : Int) by omega)
  have v20 : zEq (η3 0 41) (η2 0 41) := by rw [eη3]; exact (zup_ne (fun _ e => absurd e (by decide))).trans rfl
  have c3_0_41 : η3 0 41 = η2 0 41 := v20
  have v21 : zEq (η2 0 43) (η 0 43) := (k3.1.2.2.2.1 0 43 (by decide +kernel)).trans v10
  have v22 : zEq (η3 0 43) (η 0 43) := by rw [eη3]; exact (zup_ne (fun _ e => absurd e (by decide))).trans v21
  have c3_0_43 : η3 0 43 = η 0 43 := v22
  have v23 : zEq (η2 0 42) (η 0 42) := (k3.1.2.2.2.1 0 42 (by decide +kernel)).trans v11
  have v24 : zEq (η3 0 42) (η 0 42) := by rw [eη3]; exact (zup_ne (fun _ e => absurd e (by decide))).trans v23
  have c3_0_42 : η3 0 42 = η 0 42 := v24
  have v25 : zEq (η3 0 45) (1) := by rw [eη3]; exact zup_eq
  have c3_0_45 : η3 0 45 = 1 := v25
  have v26 : zEq (η2 0 19) (η 0 19) := (k3.1.2.2.2.1 0 19 (by decide +kernel)).trans v13
  have v27 : zEq (η3 0 19) (η 0 19) := by rw [eη3]; exact (zup_ne (fun _ e => absurd e (by decide))).trans v26
  have c3_0_19 : η3 0 19 = η 0 19 := v27
  have v28 : zEq (η2 0 44) (η1 0 44) := (k3.1.2.2.2.1 0 44 (by decide +kernel)).trans rfl
  have v29 : zEq (η3 0 44) (η1 0 44) := by rw [eη3]; exact (zup_ne (fun _ e => absurd e (by decide))).trans v28
  have c3_0_44 : η3 0 44 = η1 0 44 := v29
  have v30 : zEq (η2 0 7) (η 0 7) := (k3.1.2.2.2.1 0 7 (by decide +kernel)).trans v15
  have v31 : zEq (η3 0 7) (η 0 7) := by rw [eη3]; exact (zup_ne (fun _ e => absurd e (by decide))).trans v30
  have c3_0_7 : η3 0 7 = η 0 7 := v31
  have v32 : zEq (η2 0 6) (η 0 6) := (k3.1.2.2.2.1 0 6 (by decide +kernel)).trans v16
  have v33 : zEq (η3 0 6) (η 0 6) := by rw [eη3]; exact (zup_ne (fun _ e => absurd e (by decide))).trans v32
  have c3_0_6 : η3 0 6 = η 0 6 := v33
  have v34 : zEq (η2 0 8) (η 0 8) := (k3.1.2.2.2.1 0 8 (by decide +kernel)).trans v17
  have v35 : zEq (η3 0 8) (η 0 8) := by rw [eη3]; exact (zup_ne (fun _ e => absurd e (by decide))).trans v34
  have c3_0_8 : η3 0 8 = η 0 8 := v35
  have wb4 : wB wl_l zTr η4 := k4.1.1
  have bx4 : (0 : Int) ≤ x4 ∧ x4 ≤ 6 := k4.1.2.1
  have wb5 : wB wl_l zTr η5 := by rw [eη5]; exact wk_ok (a := 46) (b := 46) (z := ((-2147483648), 2147483647)) zTr_k (GR := []) wb4 (by decide +kernel) (by decide) (by decide) (show ((-2147483648) : Int) ≤ 0 by omega) (show 0 ≤ (2147483647 : Int) by omega)
  have fm1 : zFm zMl_signs η0 η1 := zFm_tr2 hI.2 k2.1.2.2.2.1 (by decide +kernel)
  have fm2 : zFm zMl_signs η0 η2 := zFm_tr2 fm1 k3.1.2.2.2.1 (by decide +kernel)
  have fm3 : zFm zMl_signs η0 η3 := by rw [eη3]; exact zFm_up fm2 rfl
  have fm4 : zFm zMl_signs η0 η4 := zFm_tr2 fm3 k4.1.2.2.2.1 (by decide +kernel)
  have fm5 : zFm zMl_signs η0 η5 := by rw [eη5]; exact zFm_up fm4 rfl
  have fmE : zFm zMl_signs η0 η5 := fm5
  have fr22_0 : ∀ j, η 22 j = η 22 j := fun _ => rfl
  have v36 : ∀ j, η1 22 j = η 22 j := fun j => k2.1.2.2.2.1 22 _ (zinr_not (by decide +kernel))
  have fr22_1 : ∀ j, η1 22 j = η 22 j := v36
  have fr22_2 : ∀ j, η2 22 j = η2 22 j := fun _ => rfl
  have v38 : ∀ j, η3 22 j = η2 22 j := fun j => by rw [eη3]; exact zup_ne (fun e _ => absurd e (by decide))
  have fr22_3 : ∀ j, η3 22 j = η2 22 j := v38
  have v39 : ∀ j, η4 22 j = η2 22 j := fun j => (k4.1.2.2.2.1 22 _ (zinr_not (by decide +kernel))).trans (v38 j)
  have fr22_4 : ∀ j, η4 22 j = η2 22 j := v39
  have v40 : ∀ j, η5 22 j = η2 22 j := fun j => by rw [eη5]; exact (zup_ne (fun e _ => absurd e (by decide))).trans (v39 j)
  have fr22_5 : ∀ j, η5 22 j = η2 22 j := v40
  have fr22 : ∀ j, η5 22 j = η2 22 j := v40
  have v41 : zEq (η4 0 41) (η2 0 41) := (k4.1.2.2.2.1 0 41 (by decide +kernel)).trans v20
  have v42 : zEq (η5 0 41) (η2 0 41) := by rw [eη5]; exact (zup_ne (fun _ e => absurd e (by decide))).trans v41
  have f0_41 : η5 0 41 = η2 0 41 := v42
  have v43 : zEq (η4 0 43) (η 0 43) := (k4.1.2.2.2.1 0 43 (by decide +kernel)).trans v22
  have v44 : zEq (η5 0 43) (η 0 43) := by rw [eη5]; exact (zup_ne (fun _ e => absurd e (by decide))).trans v43
  have f0_43 : η5 0 43 = η 0 43 := v44
  have v45 : zEq (η4 0 42) (η 0 42) := (k4.1.2.2.2.1 0 42 (by decide +kernel)).trans v24
  have v46 : zEq (η5 0 42) (η 0 42) := by rw [eη5]; exact (zup_ne (fun _ e => absurd e (by decide))).trans v45
  have f0_42 : η5 0 42 = η 0 42 := v46
  have v47 : zEq (η4 0 45) (1) := (k4.1.2.2.2.1 0 45 (by decide +kernel)).trans v25
  have v48 : zEq (η5 0 45) (1) := by rw [eη5]; exact (zup_ne (fun _ e => absurd e (by decide))).trans v47
  have f0_45 : η5 0 45 = 1 := v48
  have v49 : zEq (η4 0 19) (η 0 19) := (k4.1.2.2.2.1 0 19 (by decide +kernel)).trans v27
  have v50 : zEq (η5 0 19) (η 0 19) := by rw [eη5]; exact (zup_ne (fun _ e => absurd e (by decide))).trans v49
  have f0_19 : η5 0 19 = η 0 19 := v50
  have v51 : zEq (η4 0 44) (η1 0 44) := (k4.1.2.2.2.1 0 44 (by decide +kernel)).trans v29
  have v52 : zEq (η5 0 44) (η1 0 44) := by rw [eη5]; exact (zup_ne (fun _ e => absurd e (by decide))).trans v51
  have f0_44 : η5 0 44 = η1 0 44 := v52
  have v53 : zEq (η4 0 7) (η 0 7) := (k4.1.2.2.2.1 0 7 (by decide +kernel)).trans v31
  have v54 : zEq (η5 0 7) (η 0 7) := by rw [eη5]; exact (zup_ne (fun _ e => absurd e (by decide))).trans v53
  have f0_7 : η5 0 7 = η 0 7 := v54
  have v55 : zEq (η4 0 6) (η 0 6) := (k4.1.2.2.2.1 0 6 (by decide +kernel)).trans v33
  have v56 : zEq (η5 0 6) (η 0 6) := by rw [eη5]; exact (zup_ne (fun _ e => absurd e (by decide))).trans v55
  have f0_6 : η5 0 6 = η 0 6 := v56
  have v57 : zEq (η4 0 8) (η 0 8) := (k4.1.2.2.2.1 0 8 (by decide +kernel)).trans v35
  have v58 : zEq (η5 0 8) (η 0 8) := by rw [eη5]; exact (zup_ne (fun _ e => absurd e (by decide))).trans v57
  have f0_8 : η5 0 8 = η 0 8 := v58
  have wbE : wB wl_l zTr η5 := wb5
  
  have I0 : H_l 0 0 0 η := hig.1
  have I1 : H_l 1 0 0 η1 := k2.2.1 c1
  have I2 : H_l 0 0 (-1) η2 := k3.2
  have I3 : H_l 0 0 0 η3 := by rw [eη3]; exact h_eq (wn_up I2) rfl rfl (by omega)
  have I4 : H_l 0 0 0 η4 := k4.2.1
  have qr4 : (1 ≤ x4 → 2 ≤ x1) ∧ (2 ≤ x1 → 1 ≤ x4) := k4.2.2
  have I5 : H_l 0 0 0 η5 := by rw [eη5]; exact zGk_upc hk_l I4 (by decide +kernel)
  exact I5
set_option maxHeartbeats 8000000 in
theorem zl_signs_o40 {ro : Nat → List Int32} (xs : List Int) (η0 : zE) (hp : sP wl_l zTr zPl_signs xs η0) (hpp : pPl_signs xs η0) (x1 : Int) (η : zE) (hI : zsI wl_l zTr zVl_signs zMl_signs η0 3 [x1] η) (hig : iCl_signs xs η0 3 [x1] η) : ∀ (x2 : Int) (η1 : zE), ((gC2 wl_l [(nat_lit 0, zPl_isSign, zOl_isSign, zMl_isSign), (nat_lit 1, zPl_wrong, zOl_wrong, zMl_wrong), (nat_lit 2, zPl_token, zOl_token, zMl_token), (nat_lit 3, zPl_isKey, zOl_isKey, zMl_isKey), (nat_lit 4, zPl_isCounted, zOl_isCounted, zMl_isCounted), (nat_lit 5, zPl_waitsFor, zOl_waitsFor, zMl_waitsFor), (nat_lit 6, zPl_rank, zOl_rank, zMl_rank), (nat_lit 7, zPl_bind, zOl_bind, zMl_bind)] pCl_signs qCl_signs) 4).2 [] η x2 η1 → (¬ x2 = 0) → ∀ (x3 : Int) (η2 : zE), ((gC2 wl_l [(nat_lit 0, zPl_isSign, zOl_isSign, zMl_isSign), (nat_lit 1, zPl_wrong, zOl_wrong, zMl_wrong), (nat_lit 2, zPl_token, zOl_token, zMl_token), (nat_lit 3, zPl_isKey, zOl_isKey, zMl_isKey), (nat_lit 4, zPl_isCounted, zOl_isCounted, zMl_isCounted), (nat_lit 5, zPl_waitsFor, zOl_waitsFor, zMl_waitsFor), (nat_lit 6, zPl_rank, zOl_rank, zMl_rank), (nat_lit 7, zPl_bind, zOl_bind, zMl_bind)] pCl_signs qCl_signs) 5).2 [x1] η1 x3 η2 → ∀ η3 : zE, η3 = zup η2 0 (Int.toNat 45) 1 → ∀ (x4 : Int) (η4 : zE), ((gC2 wl_l [(nat_lit 0, zPl_isSign, zOl_isSign, zMl_isSign), (nat_lit 1, zPl_wrong, zOl_wrong, zMl_wrong), (nat_lit 2, zPl_token, zOl_token, zMl_token), (nat_lit 3, zPl_isKey, zOl_isKey, zMl_isKey), (nat_lit 4, zPl_isCounted, zOl_isCounted, zMl_isCounted), (nat_lit 5, zPl_waitsFor, zOl_waitsFor, zMl_waitsFor), (nat_lit 6, zPl_rank, zOl_rank, zMl_rank), (nat_lit 7, zPl_bind, zOl_bind, zMl_bind)] pCl_signs qCl_signs) 6).2 [x1] η3 x4 η4 → (3 ≤ x4) → ∀ η5 : zE, η5 = zup η4 0 (Int.toNat 46) 0 → ∀ (x5 : Int) (η6 : zE), ((gC2 wl_l [(nat_lit 0, zPl_isSign, zOl_isSign, zMl_isSign), (nat_lit 1, zPl_wrong, zOl_wrong, zMl_wrong), (nat_lit 2, zPl_token, zOl_token, zMl_token), (nat_lit 3, zPl_isKey, zOl_isKey, zMl_isKey), (nat_lit 4, zPl_isCounted, zOl_isCounted, zMl_isCounted), (nat_lit 5, zPl_waitsFor, zOl_waitsFor, zMl_waitsFor), (nat_lit 6, zPl_rank, zOl_rank, zMl_rank), (nat_lit 7, zPl_bind, zOl_bind, zMl_bind)] pCl_signs qCl_signs) 2).2 [] η5 x5 η6 → (fun (_ : Nat) (y : Int) (η' : zE) => pQl_signs xs η0 y η') 0 1 η6 := by
  have hw : η 0 45 = 0 := hig.2.1
  have hr1 : 1 ≤ η 0 19 := hig.2.2.1
  have hs1 : η 0 7 = η0 0 7 := hig.2.2.2.1
  have hs2 : η 0 6 = η0 0 6 := hig.2.2.2.2.1
  have hs3 : η 0 8 = η0 0 8 := hig.2.2.2.2.2.1
  have hk : x1 = 0 ∨ (3 ≤ x1 ∧ ¬ η 0 8 = 0) := hig.2.2.2.2.2.2
  have kk : η 0 8 = 5 → 0 ≤ η 0 9 ∧ η 0 9 ≤ 5 := hig.1.1.1.2.1.2
  have bd43 : (0 : Int) ≤ η 0 43 ∧ η 0 43 ≤ 8 := wf_ok (a := 43) (b := 43) (z := (0, 8)) hI.1.1 (by decide +kernel) (Nat.le_refl _) (Nat.le_refl _)
  have bd44 : (0 : Int) ≤ η 0 44 ∧ η 0 44 ≤ 64 := wf_ok (a := 44) (b := 44) (z := (0, 64)) hI.1.1 (by decide +kernel) (Nat.le_refl _) (Nat.le_refl _)
  have bd19 : (0 : Int) ≤ η 0 19 ∧ η 0 19 ≤ 64 := wf_ok (a := 19) (b := 19) (z := (0, 64)) hI.1.1 (by decide +kernel) (Nat.le_refl _) (Nat.le_refl _)
  obtain ⟨u1, u2, u3, u4⟩ := hig.1.2
  have cn := cz_n (η := η) (η 0 41).toNat
  intro x2 η1 h2 c1 x3 η2 h3 η3 eη3 x4 η4 h4 c2 η5 eη5 x5 η6 h5
  have k2 : sQ wl_l zTr zOl_isCounted zMl_isCounted [] η x2 η1 ∧ pQl_isCounted [] η x2 η1 := h2
  have k3 : sQ wl_l zTr zOl_waitsFor zMl_waitsFor [x1] η1 x3 η2 ∧ pQl_waitsFor [x1] η1 x3 η2 := h3
  have k4 : sQ wl_l zTr zOl_rank zMl_rank [x1] η3 x4 η4 ∧ pQl_rank [x1] η3 x4 η4 := h4
  have k5 : sQ wl_l zTr zOl_token zMl_token [] η5 x5 η6 ∧ pQl_token [] η5 x5 η6 := h5
  have bx1 : (3 : Int) ≤ x1 ∧ x1 ≤ 14 := hI.1.2.1.1
  have c0_0_41 : η 0 41 = η 0 41 := rfl
  have w0_0_43 : (0 : Int) ≤ η 0 43 ∧ η 0 43 ≤ 8 := wf_ok (a := 43) (b := 43) (z := (0, 8)) hI.1.1 (by decide +kernel) (Nat.le_refl _) (Nat.le_refl _)
  have c0_0_43 : η 0 43 = η 0 43 := rfl
  have c0_0_42 : η 0 42 = η 0 42 := rfl
  have c0_0_45 : η 0 45 = η 0 45 := rfl
  have w0_0_19 : (0 : Int) ≤ η 0 19 ∧ η 0 19 ≤ 64 := wf_ok (a := 19) (b := 19) (z := (0, 64)) hI.1.1 (by decide +kernel) (Nat.le_refl _) (Nat.le_refl _)
  have c0_0_19 : η 0 19 = η 0 19 := rfl
  have w0_0_44 : (0 : Int) ≤ η 0 44 ∧ η 0 44 ≤ 64 := wf_ok (a := 44) (b := 44) (z := (0, 64)) hI.1.1 (by decide +kernel) (Nat.le_refl _) (Nat.le_refl _)
  have c0_0_44 : η 0 44 = η 0 44 := rfl
  have w0_0_7 : (0 : Int) ≤ η 0 7 ∧ η 0 7 ≤ 700 := wf_ok (a := 7) (b := 7) (z := (0, 700)) hI.1.1 (by decide +kernel) (Nat.le_refl _) (Nat.le_refl _)
  have c0_0_7 : η 0 7 = η 0 7 := rfl
  have w0_0_6 : (0 : Int) ≤ η 0 6 ∧ η 0 6 ≤ 700 := wf_ok (a := 6) (b := 6) (z := (0, 700)) hI.1.1 (by decide +kernel) (Nat.le_refl _) (Nat.le_refl _)
  have c0_0_6 : η 0 6 = η 0 6 := rfl
  have w0_0_8 : (0 : Int) ≤ η 0 8 ∧ η 0 8 ≤ 6 := wf_ok (a := 8) (b := 8) (z := (0, 6)) hI.1.1 (by decide +kernel) (Nat.le_refl _) (Nat.le_refl _)
  have c0_0_8 : η 0 8 = η 0 8 := rfl
  have wb1 : wB wl_l zTr η1 := k2.1.1
  have bx2 : (0 : Int) ≤ x2 ∧ x2 ≤ 1 := k2.1.2.1
  have v9 : zEq (η1 0 41) (η 0 41) := (k2.1.2.2.2.1 0 41 (by decide +kernel)).trans rfl
  have c1_0_41 : η1 0 41 = η 0 41 := v9
  have v10 : zEq (η1 0 43) (η 0 43) := (k2.1.2.2.2.1 0 43 (by decide +kernel)).trans rfl
  have c1_0_43 : η1 0 43 = η 0 43 := v10
  have v11 : zEq (η1 0 42) (η 0 42) := (k2.1.2.2.2.1 0 42 (by decide +kernel)).trans rfl
  have c1_0_42 : η1 0 42 = η 0 42 := v11
  have v12 : zEq (η1 0 45) (η 0 45) := (k2.1.2.2.2.1 0 45 (by decide +kernel)).trans rfl
  have c1_0_45 : η1 0 45 = η 0 45 := v12
  have v13 : zEq (η1 0 19) (η 0 19) := (k2.1.2.2.2.1 0 19 (by decide +kernel)).trans rfl
  have c1_0_19 : η1 0 19 = η 0 19 := v13
  have w1_0_44 : (0 : Int) ≤ η1 0 44 ∧ η1 0 44 ≤ 64 := wf_ok (a := 44) (b := 44) (z := (0, 64)) k2.1.1 (by decide +kernel) (Nat.le_refl _) (Nat.le_refl _)
  have c1_0_44 : η1 0 44 = η1 0 44 := rfl
  have v15 : zEq (η1 0 7) (η 0 7) := (k2.1.2.2.2.1 0 7 (by decide +kernel)).trans rfl
  have c1_0_7 : η1 0 7 = η 0 7 := v15
  have v16 : zEq (η1 0 6) (η 0 6) := (k2.1.2.2.2.1 0 6 (by decide +kernel)).trans rfl
  have c1_0_6 : η1 0 6 = η 0 6 := v16
  have v17 : zEq (η1 0 8) (η 0 8) := (k2.1.2.2.2.1 0 8 (by decide +kernel)).trans rfl
  have c1_0_8 : η1 0 8 = η 0 8 := v17
  have wb2 : wB wl_l zTr η2 := k3.1.1
  have bx3 : (0 : Int) ≤ x3 ∧ x3 ≤ 0 := k3.1.2.1
  have v18 : zEq (η2 0 45) (η 0 45) := (k3.1.2.2.2.1 0 45 (by decide +kernel)).trans v12
  have c2_0_45 : η2 0 45 = η 0 45 := v18
  have wb3 : wB wl_l zTr η3 := by rw [eη3]; exact wk_ok (a := 45) (b := 45) (z := ((-2147483648), 2147483647)) zTr_k (GR := []) wb2 (by decide +kernel) (by decide) (by decide) (show ((-2147483648) : Int) ≤ 1 by omega) (show 1 ≤ (2147483647 : Int) by omega)
  have v20 : zEq (η3 0 41) (η2 0 41) := by rw [eη3]; exact (zup_ne (fun _ e => absurd e (by decide))).trans rfl
  have c3_0_41 : η3 0 41 = η2 0 41 := v20
  have v21 : zEq (η2 0 43) (η 0 43) := (k3.1.2.2.2.1 0 43 (by decide +kernel)).trans v10
  have v22 : zEq (η3 0 43) (η 0 43) := by rw [eη3]; exact (zup_ne (fun _ e => absurd e (by decide))).trans v21
  have c3_0_43 : η3 0 43 = η 0 43 := v22
  have v23 : zEq (η2 0 42) (η 0 42) := (k3.1.2.2.2.1 0 42 (by decide +kernel)).trans v11
  have v24 : zEq (η3 0 42) (η 0 42) := by rw [eη3]; exact (zup_ne (fun _ e => absurd e (by decide))).trans v23
  have c3_0_42 : η3 0 42 = η 0 42 := v24
  have v25 : zEq (η3 0 45) (1) := by rw [eη3]; exact zup_eq
  have c3_0_45 : η3 0 45 = 1 := v25
  have v26 : zEq (η2 0 19) (η 0 19) := (k3.1.2.2.2.1 0 19 (by decide +kernel)).trans v13
  have v27 : zEq (η3 0 19) (η 0 19) := by rw [eη3]; exact (zup_ne (fun _ e => absurd e (by decide))).trans v26
  have c3_0_19 : η3 0 19 = η 0 19 := v27
  have v28 : zEq (η2 0 44) (η1 0 44) := (k3.1.2.2.2.1 0 44 (by decide +kernel)).trans rfl
  have v29 : zEq (η3 0 44) (η1 0 44) := by rw [eη3]; exact (zup_ne (fun _ e => absurd e (by decide))).trans v28
  have c3_0_44 : η3 0 44 = η1 0 44 := v29
  have v30 : zEq (η2 0 7) (η 0 7) := (k3.1.2.2.2.1 0 7 (by decide +kernel)).trans v15
  have v31 : zEq (η3 0 7) (η 0 7) := by rw [eη3]; exact (zup_ne (fun _ e => absurd e (by decide))).trans v30
  have c3_0_7 : η3 0 7 = η 0 7 := v31
  have v32 : zEq (η2 0 6) (η 0 6) := (k3.1.2.2.2.1 0 6 (by decide +kernel)).trans v16
  have v33 : zEq (η3 0 6) (η 0 6) := by rw [eη3]; exact (zup_ne (fun _ e => absurd e (by decide))).trans v32
  have c3_0_6 : η3 0 6 = η 0 6 := v33
  have v34 : zEq (η2 0 8) (η 0 8) := (k3.1.2.2.2.1 0 8 (by decide +kernel)).trans v17
  have v35 : zEq (η3 0 8) (η 0 8) := by rw [eη3]; exact (zup_ne (fun _ e => absurd e (by decide))).trans v34
  have c3_0_8 : η3 0 8 = η 0 8 := v35
  have wb4 : wB wl_l zTr η4 := k4.1.1
  have bx4 : (0 : Int) ≤ x4 ∧ x4 ≤ 6 := k4.1.2.1
  have wb5 : wB wl_l zTr η5 := by rw [eη5]; exact wk_ok (a := 46) (b := 46) (z := ((-2147483648), 2147483647)) zTr_k (GR := []) wb4 (by decide +kernel) (by decide) (by decide) (show ((-2147483648) : Int) ≤ 0 by omega) (show 0 ≤ (2147483647 : Int) by omega)
  have v36 : zEq (η4 0 41) (η2 0 41) := (k4.1.2.2.2.1 0 41 (by decide +kernel)).trans v20
  have v37 : zEq (η5 0 41) (η2 0 41) := by rw [eη5]; exact (zup_ne (fun _ e => absurd e (by decide))).trans v36
  have c5_0_41 : η5 0 41 = η2 0 41 := v37
  have v38 : zEq (η4 0 43) (η 0 43) := (k4.1.2.2.2.1 0 43 (by decide +kernel)).trans v22
  have v39 : zEq (η5 0 43) (η 0 43) := by rw [eη5]; exact (zup_ne (fun _ e => absurd e (by decide))).trans v38
  have c5_0_43 : η5 0 43 = η 0 43 := v39
  have v40 : zEq (η4 0 42) (η 0 42) := (k4.1.2.2.2.1 0 42 (by decide +kernel)).trans v24
  have v41 : zEq (η5 0 42) (η 0 42) := by rw [eη5]; exact (zup_ne (fun _ e => absurd e (by decide))).trans v40
  have c5_0_42 : η5 0 42 = η 0 42 := v41
  have v42 : zEq (η4 0 45) (1) := (k4.1.2.2.2.1 0 45 (by decide +kernel)).trans v25
  have v43 : zEq (η5 0 45) (1) := by rw [eη5]; exact (zup_ne (fun _ e => absurd e (by decide))).trans v42
  have c5_0_45 : η5 0 45 = 1 := v43
  have v44 : zEq (η4 0 19) (η 0 19) := (k4.1.2.2.2.1 0 19 (by decide +kernel)).trans v27
  have v45 : zEq (η5 0 19) (η 0 19) := by rw [eη5]; exact (zup_ne (fun _ e => absurd e (by decide))).trans v44
  have c5_0_19 : η5 0 19 = η 0 19 := v45
  have v46 : zEq (η4 0 44) (η1 0 44) := (k4.1.2.2.2.1 0 44 (by decide +kernel)).trans v29
  have v47 : zEq (η5 0 44) (η1 0 44) := by rw [eη5]; exact (zup_ne (fun _ e => absurd e (by decide))).trans v46
  have c5_0_44 : η5 0 44 = η1 0 44 := v47
  have v48 : zEq (η4 0 7) (η 0 7) := (k4.1.2.2.2.1 0 7 (by decide +kernel)).trans v31
  have v49 : zEq (η5 0 7) (η 0 7) := by rw [eη5]; exact (zup_ne (fun _ e => absurd e (by decide))).trans v48
  have c5_0_7 : η5 0 7 = η 0 7 := v49
  have v50 : zEq (η4 0 6) (η 0 6) := (k4.1.2.2.2.1 0 6 (by decide +kernel)).trans v33
  have v51 : zEq (η5 0 6) (η 0 6) := by rw [eη5]; exact (zup_ne (fun _ e => absurd e (by decide))).trans v50
  have c5_0_6 : η5 0 6 = η 0 6 := v51
  have v52 : zEq (η4 0 8) (η 0 8) := (k4.1.2.2.2.1 0 8 (by decide +kernel)).trans v35
  have v53 : zEq (η5 0 8) (η 0 8) := by rw [eη5]; exact (zup_ne (fun _ e => absurd e (by decide))).trans v52
  have c5_0_8 : η5 0 8 = η 0 8 := v53
  have wb6 : wB wl_l zTr η6 := k5.1.1
  have bx5 : (0 : Int) ≤ x5 ∧ x5 ≤ 0 := k5.1.2.1
  have fm1 : zFm zMl_signs η0 η1 := zFm_tr2 hI.2 k2.1.2.2.2.1 (by decide +kernel)
  have fm2 : zFm zMl_signs η0 η2 := zFm_tr2 fm1 k3.1.2.2.2.1 (by decide +kernel)
  have fm3 : zFm zMl_signs η0 η3 := by rw [eη3]; exact zFm_up fm2 rfl
  have fm4 : zFm zMl_signs η0 η4 := zFm_tr2 fm3 k4.1.2.2.2.1 (by decide +kernel)
  have fm5 : zFm zMl_signs η0 η5 := by rw [eη5]; exact zFm_up fm4 rfl
  have fm6 : zFm zMl_signs η0 η6 := zFm_tr2 fm5 k5.1.2.2.2.1 (by decide +kernel)
  have fmE : zFm zMl_signs η0 η6 := fm6
  have fr22_0 : ∀ j, η 22 j = η 22 j := fun _ => rfl
  have v54 : ∀ j, η1 22 j = η 22 j := fun j => k2.1.2.2.2.1 22 _ (zinr_not (by decide +kernel))
  have fr22_1 : ∀ j, η1 22 j = η 22 j := v54
  have fr22_2 : ∀ j, η2 22 j = η2 22 j := fun _ => rfl
  have v56 : ∀ j, η3 22 j = η2 22 j := fun j => by rw [eη3]; exact zup_ne (fun e _ => absurd e (by decide))
  have fr22_3 : ∀ j, η3 22 j = η2 22 j := v56
  have v57 : ∀ j, η4 22 j = η2 22 j := fun j => (k4.1.2.2.2.1 22 _ (zinr_not (by decide +kernel))).trans (v56 j)
  have fr22_4 : ∀ j, η4 22 j = η2 22 j := v57
  have v58 : ∀ j, η5 22 j = η2 22 j := fun j => by rw [eη5]; exact (zup_ne (fun e _ => absurd e (by decide))).trans (v57 j)
  have fr22_5 : ∀ j, η5 22 j = η2 22 j := v58
  have v59 : ∀ j, η6 22 j = η2 22 j := fun j => (k5.1.2.2.2.1 22 _ (zinr_not (by decide +kernel))).trans (v58 j)
  have fr22_6 : ∀ j, η6 22 j = η2 22 j := v59
  have fr22 : ∀ j, η6 22 j = η2 22 j := v59
  have v60 : zEq (η6 0 41) (η2 0 41) := (k5.1.2.2.2.1 0 41 (by decide +kernel)).trans v37
  have f0_41 : η6 0 41 = η2 0 41 := v60
  have v61 : zEq (η6 0 43) (η 0 43) := (k5.1.2.2.2.1 0 43 (by decide +kernel)).trans v39
  have f0_43 : η6 0 43 = η 0 43 := v61
  have v62 : zEq (η6 0 42) (η 0 42) := (k5.1.2.2.2.1 0 42 (by decide +kernel)).trans v41
  have f0_42 : η6 0 42 = η 0 42 := v62
  have v63 : zEq (η6 0 45) (1) := (k5.1.2.2.2.1 0 45 (by decide +kernel)).trans v43
  have f0_45 : η6 0 45 = 1 := v63
  have v64 : zEq (η6 0 19) (η 0 19) := (k5.1.2.2.2.1 0 19 (by decide +kernel)).trans v45
  have f0_19 : η6 0 19 = η 0 19 := v64
  have v65 : zEq (η6 0 44) (η1 0 44) := (k5.1.2.2.2.1 0 44 (by decide +kernel)).trans v47
  have f0_44 : η6 0 44 = η1 0 44 := v65
  have w6_0_7 : (0 : Int) ≤ η6 0 7 ∧ η6 0 7 ≤ 700 := wf_ok (a := 7) (b := 7) (z := (0, 700)) k5.1.1 (by decide +kernel) (Nat.le_refl _) (Nat.le_refl _)
  have f0_7 : η6 0 7 = η6 0 7 := rfl
  have v67 : zEq (η6 0 6) (η 0 6) := (k5.1.2.2.2.1 0 6 (by decide +kernel)).trans v51
  have f0_6 : η6 0 6 = η 0 6 := v67
  have w6_0_8 : (0 : Int) ≤ η6 0 8 ∧ η6 0 8 ≤ 6 := wf_ok (a := 8) (b := 8) (z := (0, 6)) k5.1.1 (by decide +kernel) (Nat.le_refl _) (Nat.le_refl _)
  have f0_8 : η6 0 8 = η6 0 8 := rfl
  have wbE : wB wl_l zTr η6 := wb6
  
  have I0 : H_l 0 0 0 η := hig.1
  have I1 : H_l 1 0 0 η1 := k2.2.1 c1
  have I2 : H_l 0 0 (-1) η2 := k3.2
  have I3 : H_l 0 0 0 η3 := by rw [eη3]; exact h_eq (wn_up I2) rfl rfl (by omega)
  have I4 : H_l 0 0 0 η4 := k4.2.1
  have qr4 : (1 ≤ x4 → 2 ≤ x1) ∧ (2 ≤ x1 → 1 ≤ x4) := k4.2.2
  have I5 : H_l 0 0 0 η5 := by rw [eη5]; exact zGk_upc hk_l I4 (by decide +kernel)
  have I6 : H_l 0 0 0 η6 := k5.2.1
  have qt5 : ¬ η5 0 8 = 0 → 10 * (η6 0 6 - η6 0 7) + η6 0 8 < 10 * (η5 0 6 - η5 0 7) + η5 0 8 := k5.2.2
  refine ⟨I6.1, fun _ => ⟨I6, show 10 * (η6 0 6 - η6 0 7) + η6 0 8 < 10 * (η0 0 6 - η0 0 7) + η0 0 8 by omega, fun w => ?_⟩⟩
  have w : η6 0 45 = 0 := w
  omega
set_option maxHeartbeats 8000000 in
theorem zl_signs_o41 {ro : Nat → List Int32} (xs : List Int) (η0 : zE) (hp : sP wl_l zTr zPl_signs xs η0) (hpp : pPl_signs xs η0) (x1 : Int) (η : zE) (hI : zsI wl_l zTr zVl_signs zMl_signs η0 3 [x1] η) (hig : iCl_signs xs η0 3 [x1] η) : ∀ (x2 : Int) (η1 : zE), ((gC2 wl_l [(nat_lit 0, zPl_isSign, zOl_isSign, zMl_isSign), (nat_lit 1, zPl_wrong, zOl_wrong, zMl_wrong), (nat_lit 2, zPl_token, zOl_token, zMl_token), (nat_lit 3, zPl_isKey, zOl_isKey, zMl_isKey), (nat_lit 4, zPl_isCounted, zOl_isCounted, zMl_isCounted), (nat_lit 5, zPl_waitsFor, zOl_waitsFor, zMl_waitsFor), (nat_lit 6, zPl_rank, zOl_rank, zMl_rank), (nat_lit 7, zPl_bind, zOl_bind, zMl_bind)] pCl_signs qCl_signs) 4).2 [] η x2 η1 → (¬ x2 = 0) → ∀ (x3 : Int) (η2 : zE), ((gC2 wl_l [(nat_lit 0, zPl_isSign, zOl_isSign, zMl_isSign), (nat_lit 1, zPl_wrong, zOl_wrong, zMl_wrong), (nat_lit 2, zPl_token, zOl_token, zMl_token), (nat_lit 3, zPl_isKey, zOl_isKey, zMl_isKey), (nat_lit 4, zPl_isCounted, zOl_isCounted, zMl_isCounted), (nat_lit 5, zPl_waitsFor, zOl_waitsFor, zMl_waitsFor), (nat_lit 6, zPl_rank, zOl_rank, zMl_rank), (nat_lit 7, zPl_bind, zOl_bind, zMl_bind)] pCl_signs qCl_signs) 5).2 [x1] η1 x3 η2 → ∀ η3 : zE, η3 = zup η2 0 (Int.toNat 45) 1 → ∀ (x4 : Int) (η4 : zE), ((gC2 wl_l [(nat_lit 0, zPl_isSign, zOl_isSign, zMl_isSign), (nat_lit 1, zPl_wrong, zOl_wrong, zMl_wrong), (nat_lit 2, zPl_token, zOl_token, zMl_token), (nat_lit 3, zPl_isKey, zOl_isKey, zMl_isKey), (nat_lit 4, zPl_isCounted, zOl_isCounted, zMl_isCounted), (nat_lit 5, zPl_waitsFor, zOl_waitsFor, zMl_waitsFor), (nat_lit 6, zPl_rank, zOl_rank, zMl_rank), (nat_lit 7, zPl_bind, zOl_bind, zMl_bind)] pCl_signs qCl_signs) 6).2 [x1] η3 x4 η4 → (x4 < 3) → ∀ η5 : zE, η5 = zup η4 0 (Int.toNat 46) 1 → ((gC2 wl_l [(nat_lit 0, zPl_isSign, zOl_isSign, zMl_isSign), (nat_lit 1, zPl_wrong, zOl_wrong, zMl_wrong), (nat_lit 2, zPl_token, zOl_token, zMl_token), (nat_lit 3, zPl_isKey, zOl_isKey, zMl_isKey), (nat_lit 4, zPl_isCounted, zOl_isCounted, zMl_isCounted), (nat_lit 5, zPl_waitsFor, zOl_waitsFor, zMl_waitsFor), (nat_lit 6, zPl_rank, zOl_rank, zMl_rank), (nat_lit 7, zPl_bind, zOl_bind, zMl_bind)] pCl_signs qCl_signs) 2).1 [] η5 := by
  have hw : η 0 45 = 0 := hig.2.1
  have hr1 : 1 ≤ η 0 19 := hig.2.2.1
  have hs1 : η 0 7 = η0 0 7 := hig.2.2.2.1
  have hs2 : η 0 6 = η0 0 6 := hig.2.2.2.2.1
  have hs3 : η 0 8 = η0 0 8 := hig.2.2.2.2.2.1
  have hk : x1 = 0 ∨ (3 ≤ x1 ∧ ¬ η 0 8 = 0) := hig.2.2.2.2.2.2
  have kk : η 0 8 = 5 → 0 ≤ η 0 9 ∧ η 0 9 ≤ 5 := hig.1.1.1.2.1.2
  have bd43 : (0 : Int) ≤ η 0 43 ∧ η 0 43 ≤ 8 := wf_ok (a := 43) (b := 43) (z := (0, 8)) hI.1.1 (by decide +kernel) (Nat.le_refl _) (Nat.le_refl _)
  have bd44 : (0 : Int) ≤ η 0 44 ∧ η 0 44 ≤ 64 := wf_ok (a := 44) (b := 44) (z := (0, 64)) hI.1.1 (by decide +kernel) (Nat.le_refl _) (Nat.le_refl _)
  have bd19 : (0 : Int) ≤ η 0 19 ∧ η 0 19 ≤ 64 := wf_ok (a := 19) (b := 19) (z := (0, 64)) hI.1.1 (by decide +kernel) (Nat.le_refl _) (Nat.le_refl _)
  obtain ⟨u1, u2, u3, u4⟩ := hig.1.2
  have cn := cz_n (η := η) (η 0 41).toNat
  intro x2 η1 h2 c1 x3 η2 h3 η3 eη3 x4 η4 h4 c2 η5 eη5
  have k2 : sQ wl_l zTr zOl_isCounted zMl_isCounted [] η x2 η1 ∧ pQl_isCounted [] η x2 η1 := h2
  have k3 : sQ wl_l zTr zOl_waitsFor zMl_waitsFor [x1] η1 x3 η2 ∧ pQl_waitsFor [x1] η1 x3 η2 := h3
  have k4 : sQ wl_l zTr zOl_rank zMl_rank [x1] η3 x4 η4 ∧ pQl_rank [x1] η3 x4 η4 := h4
  have bx1 : (3 : Int) ≤ x1 ∧ x1 ≤ 14 := hI.1.2.1.1
  have c0_0_41 : η 0 41 = η 0 41 := rfl
  have w0_0_43 : (0 : Int) ≤ η 0 43 ∧ η 0 43 ≤ 8 := wf_ok (a := 43) (b := 43) (z := (0, 8)) hI.1.1 (by decide +kernel) (Nat.le_refl _) (Nat.le_refl _)
  have c0_0_43 : η 0 43 = η 0 43 := rfl
  have c0_0_42 : η 0 42 = η 0 42 := rfl
  have c0_0_45 : η 0 45 = η 0 45 := rfl
  have w0_0_19 : (0 : Int) ≤ η 0 19 ∧ η 0 19 ≤ 64 := wf_ok (a := 19) (b := 19) (z := (0, 64)) hI.1.1 (by decide +kernel) (Nat.le_refl _) (Nat.le_refl _)
  have c0_0_19 : η 0 19 = η 0 19 := rfl
  have w0_0_44 : (0 : Int) ≤ η 0 44 ∧ η 0 44 ≤ 64 := wf_ok (a := 44) (b := 44) (z := (0, 64)) hI.1.1 (by decide +kernel) (Nat.le_refl _) (Nat.le_refl _)
  have c0_0_44 : η 0 44 = η 0 44 := rfl
  have w0_0_7 : (0 : Int) ≤ η 0 7 ∧ η 0 7 ≤ 700 := wf_ok (a := 7) (b := 7) (z := (0, 700)) hI.1.1 (by decide +kernel) (Nat.le_refl _) (Nat.le_refl _)
  have c0_0_7 : η 0 7 = η 0 7 := rfl
  have w0_0_6 : (0 : Int) ≤ η 0 6 ∧ η 0 6 ≤ 700 := wf_ok (a := 6) (b := 6) (z := (0, 700)) hI.1.1 (by decide +kernel) (Nat.le_refl _) (Nat.le_refl _)
  have c0_0_6 : η 0 6 = η 0 6 := rfl
  have w0_0_8 : (0 : Int) ≤ η 0 8 ∧ η 0 8 ≤ 6 := wf_ok (a := 8) (b := 8) (z := (0, 6)) hI.1.1 (by decide +kernel) (Nat.le_refl _) (Nat.le_refl _)
  have c0_0_8 : η 0 8 = η 0 8 := rfl
  have wb1 : wB wl_l zTr η1 := k2.1.1
  have bx2 : (0 : Int) ≤ x2 ∧ x2 ≤ 1 := k2.1.2.1
  have v9 : zEq (η1 0 41) (η 0 41) := (k2.1.2.2.2.1 0 41 (by decide +kernel)).trans rfl
  have c1_0_41 : η1 0 41 = η 0 41 := v9
  have v10 : zEq (η1 0 43) (η 0 43) := (k2.1.2.2.2.1 0 43 (by decide +kernel)).trans rfl
  have c1_0_43 : η1 0 43 = η 0 43 := v10
  have v11 : zEq (η1 0 42) (η 0 42) := (k2.1.2.2.2.1 0 42 (by decide +kernel)).trans rfl
  have c1_0_42 : η1 0 42 = η 0 42 := v11
  have v12 : zEq (η1 0 45) (η 0 45) := (k2.1.2.2.2.1 0 45 (by decide +kernel)).trans rfl
  have c1_0_45 : η1 0 45 = η 0 45 := v12
  have v13 : zEq (η1 0 19) (η 0 19) := (k2.1.2.2.2.1 0 19 (by decide +kernel)).trans rfl
  have c1_0_19 : η1 0 19 = η 0 19 := v13
  have w1_0_44 : (0 : Int) ≤ η1 0 44 ∧ η1 0 44 ≤ 64 := wf_ok (a := 44) (b := 44) (z := (0, 64)) k2.1.1 (by decide +kernel) (Nat.le_refl _) (Nat.le_refl _)
  have c1_0_44 : η1 0 44 = η1 0 44 := rfl
  have v15 : zEq (η1 0 7) (η 0 7) := (k2.1.2.2.2.1 0 7 (by decide +kernel)).trans rfl
  have c1_0_7 : η1 0 7 = η 0 7 := v15
  have v16 : zEq (η1 0 6) (η 0 6) := (k2.1.2.2.2.1 0 6 (by decide +kernel)).trans rfl
  have c1_0_6 : η1 0 6 = η 0 6 := v16
  have v17 : zEq (η1 0 8) (η 0 8) := (k2.1.2.2.2.1 0 8 (by decide +kernel)).trans rfl
  have c1_0_8 : η1 0 8 = η 0 8 := v17
  have wb2 : wB wl_l zTr η2 := k3.1.1
  have bx3 : (0 : Int) ≤ x3 ∧ x3 ≤ 0 := k3.1.2.1
  have v18 : zEq (η2 0 45) (η 0 45) := (k3.1.2.2.2.1 0 45 (by decide +kernel)).trans v12
  have c2_0_45 : η2 0 45 = η 0 45 := v18
  have wb3 : wB wl_l zTr η3 := by rw [eη3]; exact wk_ok (a := 45) (b := 45) (z := ((-2147483648), 2147483647)) zTr_k (GR := []) wb2 (by decide +kernel) (by decide) (by decide) (show ((-2147483648) : Int) ≤ 1 by omega) (show 1 ≤ (2147483647 : Int) by omega)
  have v20 : zEq (η3 0 41) (η2 0 41) := by rw [eη3]; exact (zup_ne (fun _ e => absurd e (by decide))).trans rfl
  have c3_0_41 : η3 0 41 = η2 0 41 := v20
  have v21 : zEq (η2 0 43) (η 0 43) := (k3.1.2.2.2.1 0 43 (by decide +kernel)).trans v10
  have v22 : zEq (η3 0 43) (η 0 43) := by rw [eη3]; exact (zup_ne (fun _ e => absurd e (by decide))).trans v21
  have c3_0_43 : η3 0 43 = η 0 43 := v22
  have v23 : zEq (η2 0 42) (η 0 42) := (k3.1.2.2.2.1 0 42 (by decide +kernel)).trans v11
  have v24 : zEq (η3 0 42) (η 0 42) := by rw [eη3]; exact (zup_ne (fun _ e => absurd e (by decide))).trans v23
  have c3_0_42 : η3 0 42 = η 0 42 := v24
  have v25 : zEq (η3 0 45) (1) := by rw [eη3]; exact zup_eq
  have c3_0_45 : η3 0 45 = 1 := v25
  have v26 : zEq (η2 0 19) (η 0 19) := (k3.1.2.2.2.1 0 19 (by decide +kernel)).trans v13
  have v27 : zEq (η3 0 19) (η 0 19) := by rw [eη3]; exact (zup_ne (fun _ e => absurd e (by decide))).trans v26
  have c3_0_19 : η3 0 19 = η 0 19 := v27
  have v28 : zEq (η2 0 44) (η1 0 44) := (k3.1.2.2.2.1 0 44 (by decide +kernel)).trans rfl
  have v29 : zEq (η3 0 44) (η1 0 44) := by rw [eη3]; exact (zup_ne (fun _ e => absurd e (by decide))).trans v28
  have c3_0_44 : η3 0 44 = η1 0 44 := v29
  have v30 : zEq (η2 0 7) (η 0 7) := (k3.1.2.2.2.1 0 7 (by decide +kernel)).trans v15
  have v31 : zEq (η3 0 7) (η 0 7) := by rw [eη3]; exact (zup_ne (fun _ e => absurd e (by decide))).trans v30
  have c3_0_7 : η3 0 7 = η 0 7 := v31
  have v32 : zEq (η2 0 6) (η 0 6) := (k3.1.2.2.2.1 0 6 (by decide +kernel)).trans v16
  have v33 : zEq (η3 0 6) (η 0 6) := by rw [eη3]; exact (zup_ne (fun _ e => absurd e (by decide))).trans v32
  have c3_0_6 : η3 0 6 = η 0 6 := v33
  have v34 : zEq (η2 0 8) (η 0 8) := (k3.1.2.2.2.1 0 8 (by decide +kernel)).trans v17
  have v35 : zEq (η3 0 8) (η 0 8) := by rw [eη3]; exact (zup_ne (fun _ e => absurd e (by decide))).trans v34
  have c3_0_8 : η3 0 8 = η 0 8 := v35
  have wb4 : wB wl_l zTr η4 := k4.1.1
  have bx4 : (0 : Int) ≤ x4 ∧ x4 ≤ 6 := k4.1.2.1
  have wb5 : wB wl_l zTr η5 := by rw [eη5]; exact wk_ok (a := 46) (b := 46) (z := ((-2147483648), 2147483647)) zTr_k (GR := []) wb4 (by decide +kernel) (by decide) (by decide) (show ((-2147483648) : Int) ≤ 1 by omega) (show 1 ≤ (2147483647 : Int) by omega)
  have fm1 : zFm zMl_signs η0 η1 := zFm_tr2 hI.2 k2.1.2.2.2.1 (by decide +kernel)
  have fm2 : zFm zMl_signs η0 η2 := zFm_tr2 fm1 k3.1.2.2.2.1 (by decide +kernel)
  have fm3 : zFm zMl_signs η0 η3 := by rw [eη3]; exact zFm_up fm2 rfl
  have fm4 : zFm zMl_signs η0 η4 := zFm_tr2 fm3 k4.1.2.2.2.1 (by decide +kernel)
  have fm5 : zFm zMl_signs η0 η5 := by rw [eη5]; exact zFm_up fm4 rfl
  have fmE : zFm zMl_signs η0 η5 := fm5
  have fr22_0 : ∀ j, η 22 j = η 22 j := fun _ => rfl
  have v36 : ∀ j, η1 22 j = η 22 j := fun j => k2.1.2.2.2.1 22 _ (zinr_not (by decide +kernel))
  have fr22_1 : ∀ j, η1 22 j = η 22 j := v36
  have fr22_2 : ∀ j, η2 22 j = η2 22 j := fun _ => rfl
  have v38 : ∀ j, η3 22 j = η2 22 j := fun j => by rw [eη3]; exact zup_ne (fun e _ => absurd e (by decide))
  have fr22_3 : ∀ j, η3 22 j = η2 22 j := v38
  have v39 : ∀ j, η4 22 j = η2 22 j := fun j => (k4.1.2.2.2.1 22 _ (zinr_not (by decide +kernel))).trans (v38 j)
  have fr22_4 : ∀ j, η4 22 j = η2 22 j := v39
  have v40 : ∀ j, η5 22 j = η2 22 j := fun j => by rw [eη5]; exact (zup_ne (fun e _ => absurd e (by decide))).trans (v39 j)
  have fr22_5 : ∀ j, η5 22 j = η2 22 j := v40
  have fr22 : ∀ j, η5 22 j = η2 22 j := v40
  have v41 : zEq (η4 0 41) (η2 0 41) := (k4.1.2.2.2.1 0 41 (by decide +kernel)).trans v20
  have v42 : zEq (η5 0 41) (η2 0 41) := by rw [eη5]; exact (zup_ne (fun _ e => absurd e (by decide))).trans v41
  have f0_41 : η5 0 41 = η2 0 41 := v42
  have v43 : zEq (η4 0 43) (η 0 43) := (k4.1.2.2.2.1 0 43 (by decide +kernel)).trans v22
  have v44 : zEq (η5 0 43) (η 0 43) := by rw [eη5]; exact (zup_ne (fun _ e => absurd e (by decide))).trans v43
  have f0_43 : η5 0 43 = η 0 43 := v44
  have v45 : zEq (η4 0 42) (η 0 42) := (k4.1.2.2.2.1 0 42 (by decide +kernel)).trans v24
  have v46 : zEq (η5 0 42) (η 0 42) := by rw [eη5]; exact (zup_ne (fun _ e => absurd e (by decide))).trans v45
  have f0_42 : η5 0 42 = η 0 42 := v46
  have v47 : zEq (η4 0 45) (1) := (k4.1.2.2.2.1 0 45 (by decide +kernel)).trans v25
  have v48 : zEq (η5 0 45) (1) := by rw [eη5]; exact (zup_ne (fun _ e => absurd e (by decide))).trans v47
  have f0_45 : η5 0 45 = 1 := v48
  have v49 : zEq (η4 0 19) (η 0 19) := (k4.1.2.2.2.1 0 19 (by decide +kernel)).trans v27
  have v50 : zEq (η5 0 19) (η 0 19) := by rw [eη5]; exact (zup_ne (fun _ e => absurd e (by decide))).trans v49
  have f0_19 : η5 0 19 = η 0 19 := v50
  have v51 : zEq (η4 0 44) (η1 0 44) := (k4.1.2.2.2.1 0 44 (by decide +kernel)).trans v29
  have v52 : zEq (η5 0 44) (η1 0 44) := by rw [eη5]; exact (zup_ne (fun _ e => absurd e (by decide))).trans v51
  have f0_44 : η5 0 44 = η1 0 44 := v52
  have v53 : zEq (η4 0 7) (η 0 7) := (k4.1.2.2.2.1 0 7 (by decide +kernel)).trans v31
  have v54 : zEq (η5 0 7) (η 0 7) := by rw [eη5]; exact (zup_ne (fun _ e => absurd e (by decide))).trans v53
  have f0_7 : η5 0 7 = η 0 7 := v54
  have v55 : zEq (η4 0 6) (η 0 6) := (k4.1.2.2.2.1 0 6 (by decide +kernel)).trans v33
  have v56 : zEq (η5 0 6) (η 0 6) := by rw [eη5]; exact (zup_ne (fun _ e => absurd e (by decide))).trans v55
  have f0_6 : η5 0 6 = η 0 6 := v56
  have v57 : zEq (η4 0 8) (η 0 8) := (k4.1.2.2.2.1 0 8 (by decide +kernel)).trans v35
  have v58 : zEq (η5 0 8) (η 0 8) := by rw [eη5]; exact (zup_ne (fun _ e => absurd e (by decide))).trans v57
  have f0_8 : η5 0 8 = η 0 8 := v58
  have wbE : wB wl_l zTr η5 := wb5
  
  have I0 : H_l 0 0 0 η := hig.1
  have I1 : H_l 1 0 0 η1 := k2.2.1 c1
  have I2 : H_l 0 0 (-1) η2 := k3.2
  have I3 : H_l 0 0 0 η3 := by rw [eη3]; exact h_eq (wn_up I2) rfl rfl (by omega)
  have I4 : H_l 0 0 0 η4 := k4.2.1
  have qr4 : (1 ≤ x4 → 2 ≤ x1) ∧ (2 ≤ x1 → 1 ≤ x4) := k4.2.2
  have I5 : H_l 0 0 0 η5 := by rw [eη5]; exact zGk_upc hk_l I4 (by decide +kernel)
  exact I5
set_option maxHeartbeats 8000000 in
theorem zl_signs_o42 {ro : Nat → List Int32} (xs : List Int) (η0 : zE) (hp : sP wl_l zTr zPl_signs xs η0) (hpp : pPl_signs xs η0) (x1 : Int) (η : zE) (hI : zsI wl_l zTr zVl_signs zMl_signs η0 3 [x1] η) (hig : iCl_signs xs η0 3 [x1] η) : ∀ (x2 : Int) (η1 : zE), ((gC2 wl_l [(nat_lit 0, zPl_isSign, zOl_isSign, zMl_isSign), (nat_lit 1, zPl_wrong, zOl_wrong, zMl_wrong), (nat_lit 2, zPl_token, zOl_token, zMl_token), (nat_lit 3, zPl_isKey, zOl_isKey, zMl_isKey), (nat_lit 4, zPl_isCounted, zOl_isCounted, zMl_isCounted), (nat_lit 5, zPl_waitsFor, zOl_waitsFor, zMl_waitsFor), (nat_lit 6, zPl_rank, zOl_rank, zMl_rank), (nat_lit 7, zPl_bind, zOl_bind, zMl_bind)] pCl_signs qCl_signs) 4).2 [] η x2 η1 → (¬ x2 = 0) → ∀ (x3 : Int) (η2 : zE), ((gC2 wl_l [(nat_lit 0, zPl_isSign, zOl_isSign, zMl_isSign), (nat_lit 1, zPl_wrong, zOl_wrong, zMl_wrong), (nat_lit 2, zPl_token, zOl_token, zMl_token), (nat_lit 3, zPl_isKey, zOl_isKey, zMl_isKey), (nat_lit 4, zPl_isCounted, zOl_isCounted, zMl_isCounted), (nat_lit 5, zPl_waitsFor, zOl_waitsFor, zMl_waitsFor), (nat_lit 6, zPl_rank, zOl_rank, zMl_rank), (nat_lit 7, zPl_bind, zOl_bind, zMl_bind)] pCl_signs qCl_signs) 5).2 [x1] η1 x3 η2 → ∀ η3 : zE, η3 = zup η2 0 (Int.toNat 45) 1 → ∀ (x4 : Int) (η4 : zE), ((gC2 wl_l [(nat_lit 0, zPl_isSign, zOl_isSign, zMl_isSign), (nat_lit 1, zPl_wrong, zOl_wrong, zMl_wrong), (nat_lit 2, zPl_token, zOl_token, zMl_token), (nat_lit 3, zPl_isKey, zOl_isKey, zMl_isKey), (nat_lit 4, zPl_isCounted, zOl_isCounted, zMl_isCounted), (nat_lit 5, zPl_waitsFor, zOl_waitsFor, zMl_waitsFor), (nat_lit 6, zPl_rank, zOl_rank, zMl_rank), (nat_lit 7, zPl_bind, zOl_bind, zMl_bind)] pCl_signs qCl_signs) 6).2 [x1] η3 x4 η4 → (x4 < 3) → ∀ η5 : zE, η5 = zup η4 0 (Int.toNat 46) 1 → ∀ (x5 : Int) (η6 : zE), ((gC2 wl_l [(nat_lit 0, zPl_isSign, zOl_isSign, zMl_isSign), (nat_lit 1, zPl_wrong, zOl_wrong, zMl_wrong), (nat_lit 2, zPl_token, zOl_token, zMl_token), (nat_lit 3, zPl_isKey, zOl_isKey, zMl_isKey), (nat_lit 4, zPl_isCounted, zOl_isCounted, zMl_isCounted), (nat_lit 5, zPl_waitsFor, zOl_waitsFor, zMl_waitsFor), (nat_lit 6, zPl_rank, zOl_rank, zMl_rank), (nat_lit 7, zPl_bind, zOl_bind, zMl_bind)] pCl_signs qCl_signs) 2).2 [] η5 x5 η6 → (fun (_ : Nat) (y : Int) (η' : zE) => pQl_signs xs η0 y η') 0 1 η6 := by
  have hw : η 0 45 = 0 := hig.2.1
  have hr1 : 1 ≤ η 0 19 := hig.2.2.1
  have hs1 : η 0 7 = η0 0 7 := hig.2.2.2.1
  have hs2 : η 0 6 = η0 0 6 := hig.2.2.2.2.1
  have hs3 : η 0 8 = η0 0 8 := hig.2.2.2.2.2.1
  have hk : x1 = 0 ∨ (3 ≤ x1 ∧ ¬ η 0 8 = 0) := hig.2.2.2.2.2.2
  have kk : η 0 8 = 5 → 0 ≤ η 0 9 ∧ η 0 9 ≤ 5 := hig.1.1.1.2.1.2
  have bd43 : (0 : Int) ≤ η 0 43 ∧ η 0 43 ≤ 8 := wf_ok (a := 43) (b := 43) (z := (0, 8)) hI.1.1 (by decide +kernel) (Nat.le_refl _) (Nat.le_refl _)
  have bd44 : (0 : Int) ≤ η 0 44 ∧ η 0 44 ≤ 64 := wf_ok (a := 44) (b := 44) (z := (0, 64)) hI.1.1 (by decide +kernel) (Nat.le_refl _) (Nat.le_refl _)
  have bd19 : (0 : Int) ≤ η 0 19 ∧ η 0 19 ≤ 64 := wf_ok (a := 19) (b := 19) (z := (0, 64)) hI.1.1 (by decide +kernel) (Nat.le_refl _) (Nat.le_refl _)
  obtain ⟨u1, u2, u3, u4⟩ := hig.1.2
  have cn := cz_n (η := η) (η 0 41).toNat
  intro x2 η1 h2 c1 x3 η2 h3 η3 eη3 x4 η4 h4 c2 η5 eη5 x5 η6 h5
  have k2 : sQ wl_l zTr zOl_isCounted zMl_isCounted [] η x2 η1 ∧ pQl_isCounted [] η x2 η1 := h2
  have k3 : sQ wl_l zTr zOl_waitsFor zMl_waitsFor [x1] η1 x3 η2 ∧ pQl_waitsFor [x1] η1 x3 η2 := h3
  have k4 : sQ wl_l zTr zOl_rank zMl_rank [x1] η3 x4 η4 ∧ pQl_rank [x1] η3 x4 η4 := h4
  have k5 : sQ wl_l zTr zOl_token zMl_token [] η5 x5 η6 ∧ pQl_token [] η5 x5 η6 := h5
  have bx1 : (3 : Int) ≤ x1 ∧ x1 ≤ 14 := hI.1.2.1.1
  have c0_0_41 : η 0 41 = η 0 41 := rfl
  have w0_0_43 : (0 : Int) ≤ η 0 43 ∧ η 0 43 ≤ 8 := wf_ok (a := 43) (b := 43) (z := (0, 8)) hI.1.1 (by decide +kernel) (Nat.le_refl _) (Nat.le_refl _)
  have c0_0_43 : η 0 43 = η 0 43 := rfl
  have c0_0_42 : η 0 42 = η 0 42 := rfl
  have c0_0_45 : η 0 45 = η 0 45 := rfl
  have w0_0_19 : (0 : Int) ≤ η 0 19 ∧ η 0 19 ≤ 64 := wf_ok (a := 19) (b := 19) (z := (0, 64)) hI.1.1 (by decide +kernel) (Nat.le_refl _) (Nat.le_refl _)
  have c0_0_19 : η 0 19 = η 0 19 := rfl
  have w0_0_44 : (0 : Int) ≤ η 0 44 ∧ η 0 44 ≤ 64 := wf_ok (a := 44) (b := 44) (z := (0, 64)) hI.1.1 (by decide +kernel) (Nat.le_refl _) (Nat.le_refl _)
  have c0_0_44 : η 0 44 = η 0 44 := rfl
  have w0_0_7 : (0 : Int) ≤ η 0 7 ∧ η 0 7 ≤ 700 := wf_ok (a := 7) (b := 7) (z := (0, 700)) hI.1.1 (by decide +kernel) (Nat.le_refl _) (Nat.le_refl _)
  have c0_0_7 : η 0 7 = η 0 7 := rfl
  have w0_0_6 : (0 : Int) ≤ η 0 6 ∧ η 0 6 ≤ 700 := wf_ok (a := 6) (b := 6) (z := (0, 700)) hI.1.1 (by decide +kernel) (Nat.le_refl _) (Nat.le_refl _)
  have c0_0_6 : η 0 6 = η 0 6 := rfl
  have w0_0_8 : (0 : Int) ≤ η 0 8 ∧ η 0 8 ≤ 6 := wf_ok (a := 8) (b := 8) (z := (0, 6)) hI.1.1 (by decide +kernel) (Nat.le_refl _) (Nat.le_refl _)
  have c0_0_8 : η 0 8 = η 0 8 := rfl
  have wb1 : wB wl_l zTr η1 := k2.1.1
  have bx2 : (0 : Int) ≤ x2 ∧ x2 ≤ 1 := k2.1.2.1
  have v9 : zEq (η1 0 41) (η 0 41) := (k2.1.2.2.2.1 0 41 (by decide +kernel)).trans rfl
  have c1_0_41 : η1 0 41 = η 0 41 := v9
  have v10 : zEq (η1 0 43) (η 0 43) := (k2.1.2.2.2.1 0 43 (by decide +kernel)).trans rfl
  have c1_0_43 : η1 0 43 = η 0 43 := v10
  have v11 : zEq (η1 0 42) (η 0 42) := (k2.1.2.2.2.1 0 42 (by decide +kernel)).trans rfl
  have c1_0_42 : η1 0 42 = η 0 42 := v11
  have v12 : zEq (η1 0 45) (η 0 45) := (k2.1.2.2.2.1 0 45 (by decide +kernel)).trans rfl
  have c1_0_45 : η1 0 45 = η 0 45 := v12
  have v13 : zEq (η1 0 19) (η 0 19) := (k2.1.2.2.2.1 0 19 (by decide +kernel)).trans rfl
  have c1_0_19 : η1 0 19 = η 0 19 := v13
  have w1_0_44 : (0 : Int) ≤ η1 0 44 ∧ η1 0 44 ≤ 64 := wf_ok (a := 44) (b := 44) (z := (0, 64)) k2.1.1 (by decide +kernel) (Nat.le_refl _) (Nat.le_refl _)
  have c1_0_44 : η1 0 44 = η1 0 44 := rfl
  have v15 : zEq (η1 0 7) (η 0 7) := (k2.1.2.2.2.1 0 7 (by decide +kernel)).trans rfl
  have c1_0_7 : η1 0 7 = η 0 7 := v15
  have v16 : zEq (η1 0 6) (η 0 6) := (k2.1.2.2.2.1 0 6 (by decide +kernel)).trans rfl
  have c1_0_6 : η1 0 6 = η 0 6 := v16
  have v17 : zEq (η1 0 8) (η 0 8) := (k2.1.2.2.2.1 0 8 (by decide +kernel)).trans rfl
  have c1_0_8 : η1 0 8 = η 0 8 := v17
  have wb2 : wB wl_l zTr η2 := k3.1.1
  have bx3 : (0 : Int) ≤ x3 ∧ x3 ≤ 0 := k3.1.2.1
  have v18 : zEq (η2 0 45) (η 0 45) := (k3.1.2.2.2.1 0 45 (by decide +kernel)).trans v12
  have c2_0_45 : η2 0 45 = η 0 45 := v18
  have wb3 : wB wl_l zTr η3 := by rw [eη3]; exact wk_ok (a := 45) (b := 45) (z := ((-2147483648), 2147483647)) zTr_k (GR := []) wb2 (by decide +kernel) (by decide) (by decide) (show ((-2147483648) : Int) ≤ 1 by omega) (show 1 ≤ (2147483647 : Int) by omega)
  have v20 : zEq (η3 0 41) (η2 0 41) := by rw [eη3]; exact (zup_ne (fun _ e => absurd e (by decide))).trans rfl
  have c3_0_41 : η3 0 41 = η2 0 41 := v20
  have v21 : zEq (η2 0 43) (η 0 43) := (k3.1.2.2.2.1 0 43 (by decide +kernel)).trans v10
  have v22 : zEq (η3 0 43) (η 0 43) := by rw [eη3]; exact (zup_ne (fun _ e => absurd e (by decide))).trans v21
  have c3_0_43 : η3 0 43 = η 0 43 := v22
  have v23 : zEq (η2 0 42) (η 0 42) := (k3.1.2.2.2.1 0 42 (by decide +kernel)).trans v11
  have v24 : zEq (η3 0 42) (η 0 42) := by rw [eη3]; exact (zup_ne (fun _ e => absurd e (by decide))).trans v23
  have c3_0_42 : η3 0 42 = η 0 42 := v24
  have v25 : zEq (η3 0 45) (1) := by rw [eη3]; exact zup_eq
  have c3_0_45 : η3 0 45 = 1 := v25
  have v26 : zEq (η2 0 19) (η 0 19) := (k3.1.2.2.2.1 0 19 (by decide +kernel)).trans v13
  have v27 : zEq (η3 0 19) (η 0 19) := by rw [eη3]; exact (zup_ne (fun _ e => absurd e (by decide))).trans v26
  have c3_0_19 : η3 0 19 = η 0 19 := v27
  have v28 : zEq (η2 0 44) (η1 0 44) := (k3.1.2.2.2.1 0 44 (by decide +kernel)).trans rfl
  have v29 : zEq (η3 0 44) (η1 0 44) := by rw [eη3]; exact (zup_ne (fun _ e => absurd e (by decide))).trans v28
  have c3_0_44 : η3 0 44 = η1 0 44 := v29
  have v30 : zEq (η2 0 7) (η 0 7) := (k3.1.2.2.2.1 0 7 (by decide +kernel)).trans v15
  have v31 : zEq (η3 0 7) (η 0 7) := by rw [eη3]; exact (zup_ne (fun _ e => absurd e (by decide))).trans v30
  have c3_0_7 : η3 0 7 = η 0 7 := v31
  have v32 : zEq (η2 0 6) (η 0 6) := (k3.1.2.2.2.1 0 6 (by decide +kernel)).trans v16
  have v33 : zEq (η3 0 6) (η 0 6) := by rw [eη3]; exact (zup_ne (fun _ e => absurd e (by decide))).trans v32
  have c3_0_6 : η3 0 6 = η 0 6 := v33
  have v34 : zEq (η2 0 8) (η 0 8) := (k3.1.2.2.2.1 0 8 (by decide +kernel)).trans v17
  have v35 : zEq (η3 0 8) (η 0 8) := by rw [eη3]; exact (zup_ne (fun _ e => absurd e (by decide))).trans v34
  have c3_0_8 : η3 0 8 = η 0 8 := v35
  have wb4 : wB wl_l zTr η4 := k4.1.1
  have bx4 : (0 : Int) ≤ x4 ∧ x4 ≤ 6 := k4.1.2.1
  have wb5 : wB wl_l zTr η5 := by rw [eη5]; exact wk_ok (a := 46) (b := 46) (z := ((-2147483648), 2147483647)) zTr_k (GR := []) wb4 (by decide +kernel) (by decide) (by decide) (show ((-2147483648) : Int) ≤ 1 by omega) (show 1 ≤ (2147483647 : Int) by omega)
  have v36 : zEq (η4 0 41) (η2 0 41) := (k4.1.2.2.2.1 0 41 (by decide +kernel)).trans v20
  have v37 : zEq (η5 0 41) (η2 0 41) := by rw [eη5]; exact (zup_ne (fun _ e => absurd e (by decide))).trans v36
  have c5_0_41 : η5 0 41 = η2 0 41 := v37
  have v38 : zEq (η4 0 43) (η 0 43) := (k4.1.2.2.2.1 0 43 (by decide +kernel)).trans v22
  have v39 : zEq (η5 0 43) (η 0 43) := by rw [eη5]; exact (zup_ne (fun _ e => absurd e (by decide))).trans v38
  have c5_0_43 : η5 0 43 = η 0 43 := v39
  have v40 : zEq (η4 0 42) (η 0 42) := (k4.1.2.2.2.1 0 42 (by decide +kernel)).trans v24
  have v41 : zEq (η5 0 42) (η 0 42) := by rw [eη5]; exact (zup_ne (fun _ e => absurd e (by decide))).trans v40
  have c5_0_42 : η5 0 42 = η 0 42 := v41
  have v42 : zEq (η4 0 45) (1) := (k4.1.2.2.2.1 0 45 (by decide +kernel)).trans v25
  have v43 : zEq (η5 0 45) (1) := by rw [eη5]; exact (zup_ne (fun _ e => absurd e (by decide))).trans v42
  have c5_0_45 : η5 0 45 = 1 := v43
  have v44 : zEq (η4 0 19) (η 0 19) := (k4.1.2.2.2.1 0 19 (by decide +kernel)).trans v27
  have v45 : zEq (η5 0 19) (η 0 19) := by rw [eη5]; exact (zup_ne (fun _ e => absurd e (by decide))).trans v44
  have c5_0_19 : η5 0 19 = η 0 19 := v45
  have v46 : zEq (η4 0 44) (η1 0 44) := (k4.1.2.2.2.1 0 44 (by decide +kernel)).trans v29
  have v47 : zEq (η5 0 44) (η1 0 44) := by rw [eη5]; exact (zup_ne (fun _ e => absurd e (by decide))).trans v46
  have c5_0_44 : η5 0 44 = η1 0 44 := v47
  have v48 : zEq (η4 0 7) (η 0 7) := (k4.1.2.2.2.1 0 7 (by decide +kernel)).trans v31
  have v49 : zEq (η5 0 7) (η 0 7) := by rw [eη5]; exact (zup_ne (fun _ e => absurd e (by decide))).trans v48
  have c5_0_7 : η5 0 7 = η 0 7 := v49
  have v50 : zEq (η4 0 6) (η 0 6) := (k4.1.2.2.2.1 0 6 (by decide +kernel)).trans v33
  have v51 : zEq (η5 0 6) (η 0 6) := by rw [eη5]; exact (zup_ne (fun _ e => absurd e (by decide))).trans v50
  have c5_0_6 : η5 0 6 = η 0 6 := v51
  have v52 : zEq (η4 0 8) (η 0 8) := (k4.1.2.2.2.1 0 8 (by decide +kernel)).trans v35
  have v53 : zEq (η5 0 8) (η 0 8) := by rw [eη5]; exact (zup_ne (fun _ e => absurd e (by decide))).trans v52
  have c5_0_8 : η5 0 8 = η 0 8 := v53
  have wb6 : wB wl_l zTr η6 := k5.1.1
  have bx5 : (0 : Int) ≤ x5 ∧ x5 ≤ 0 := k5.1.2.1
  have fm1 : zFm zMl_signs η0 η1 := zFm_tr2 hI.2 k2.1.2.2.2.1 (by decide +kernel)
  have fm2 : zFm zMl_signs η0 η2 := zFm_tr2 fm1 k3.1.2.2.2.1 (by decide +kernel)
  have fm3 : zFm zMl_signs η0 η3 := by rw [eη3]; exact zFm_up fm2 rfl
  have fm4 : zFm zMl_signs η0 η4 := zFm_tr2 fm3 k4.1.2.2.2.1 (by decide +kernel)
  have fm5 : zFm zMl_signs η0 η5 := by rw [eη5]; exact zFm_up fm4 rfl
  have fm6 : zFm zMl_signs η0 η6 := zFm_tr2 fm5 k5.1.2.2.2.1 (by decide +kernel)
  have fmE : zFm zMl_signs η0 η6 := fm6
  have fr22_0 : ∀ j, η 22 j = η 22 j := fun _ => rfl
  have v54 : ∀ j, η1 22 j = η 22 j := fun j => k2.1.2.2.2.1 22 _ (zinr_not (by decide +kernel))
  have fr22_1 : ∀ j, η1 22 j = η 22 j := v54
  have fr22_2 : ∀ j, η2 22 j = η2 22 j := fun _ => rfl
  have v56 : ∀ j, η3 22 j = η2 22 j := fun j => by rw [eη3]; exact zup_ne (fun e _ => absurd e (by decide))
  have fr22_3 : ∀ j, η3 22 j = η2 22 j := v56
  have v57 : ∀ j, η4 22 j = η2 22 j := fun j => (k4.1.2.2.2.1 22 _ (zinr_not (by decide +kernel))).trans (v56 j)
  have fr22_4 : ∀ j, η4 22 j = η2 22 j := v57
  have v58 : ∀ j, η5 22 j = η2 22 j := fun j => by rw [eη5]; exact (zup_ne (fun e _ => absurd e (by decide))).trans (v57 j)
  have fr22_5 : ∀ j, η5 22 j = η2 22 j := v58
  have v59 : ∀ j, η6 22 j = η2 22 j := fun j => (k5.1.2.2.2.1 22 _ (zinr_not (by decide +kernel))).trans (v58 j)
  have fr22_6 : ∀ j, η6 22 j = η2 22 j := v59
  have fr22 : ∀ j, η6 22 j = η2 22 j := v59
  have v60 : zEq (η6 0 41) (η2 0 41) := (k5.1.2.2.2.1 0 41 (by decide +kernel)).trans v37
  have f0_41 : η6 0 41 = η2 0 41 := v60
  have v61 : zEq (η6 0 43) (η 0 43) := (k5.1.2.2.2.1 0 43 (by decide +kernel)).trans v39
  have f0_43 : η6 0 43 = η 0 43 := v61
  have v62 : zEq (η6 0 42) (η 0 42) := (k5.1.2.2.2.1 0 42 (by decide +kernel)).trans v41
  have f0_42 : η6 0 42 = η 0 42 := v62
  have v63 : zEq (η6 0 45) (1) := (k5.1.2.2.2.1 0 45 (by decide +kernel)).trans v43
  have f0_45 : η6 0 45 = 1 := v63
  have v64 : zEq (η6 0 19) (η 0 19) := (k5.1.2.2.2.1 0 19 (by decide +kernel)).trans v45
  have f0_19 : η6 0 19 = η 0 19 := v64
  have v65 : zEq (η6 0 44) (η1 0 44) := (k5.1.2.2.2.1 0 44 (by decide +kernel)).trans v47
  have f0_44 : η6 0 44 = η1 0 44 := v65
  have w6_0_7 : (0 : Int) ≤ η6 0 7 ∧ η6 0 7 ≤ 700 := wf_ok (a := 7) (b := 7) (z := (0, 700)) k5.1.1 (by decide +kernel) (Nat.le_refl _) (Nat.le_refl _)
  have f0_7 : η6 0 7 = η6 0 7 := rfl
  have v67 : zEq (η6 0 6) (η 0 6) := (k5.1.2.2.2.1 0 6 (by decide +kernel)).trans v51
  have f0_6 : η6 0 6 = η 0 6 := v67
  have w6_0_8 : (0 : Int) ≤ η6 0 8 ∧ η6 0 8 ≤ 6 := wf_ok (a := 8) (b := 8) (z := (0, 6)) k5.1.1 (by decide +kernel) (Nat.le_refl _) (Nat.le_refl _)
  have f0_8 : η6 0 8 = η6 0 8 := rfl
  have wbE : wB wl_l zTr η6 := wb6
  
  have I0 : H_l 0 0 0 η := hig.1
  have I1 : H_l 1 0 0 η1 := k2.2.1 c1
  have I2 : H_l 0 0 (-1) η2 := k3.2
  have I3 : H_l 0 0 0 η3 := by rw [eη3]; exact h_eq (wn_up I2) rfl rfl (by omega)
  have I4 : H_l 0 0 0 η4 := k4.2.1
  have qr4 : (1 ≤ x4 → 2 ≤ x1) ∧ (2 ≤ x1 → 1 ≤ x4) := k4.2.2
  have I5 : H_l 0 0 0 η5 := by rw [eη5]; exact zGk_upc hk_l I4 (by decide +kernel)
  have I6 : H_l 0 0 0 η6 := k5.2.1
  have qt5 : ¬ η5 0 8 = 0 → 10 * (η6 0 6 - η6 0 7) + η6 0 8 < 10 * (η5 0 6 - η5 0 7) + η5 0 8 := k5.2.2
  refine ⟨I6.1, fun _ => ⟨I6, show 10 * (η6 0 6 - η6 0 7) + η6 0 8 < 10 * (η0 0 6 - η0 0 7) + η0 0 8 by omega, fun w => ?_⟩⟩
  have w : η6 0 45 = 0 := w
  omega
set_option maxHeartbeats 8000000 in
theorem zl_signs_o43 {ro : Nat → List Int32} (xs : List Int) (η0 : zE) (hp : sP wl_l zTr zPl_signs xs η0) (hpp : pPl_signs xs η0) (x1 : Int) (η : zE) (hI : zsI wl_l zTr zVl_signs zMl_signs η0 3 [x1] η) (hig : iCl_signs xs η0 3 [x1] η) : ∀ (x2 : Int) (η1 : zE), ((gC2 wl_l [(nat_lit 0, zPl_isSign, zOl_isSign, zMl_isSign), (nat_lit 1, zPl_wrong, zOl_wrong, zMl_wrong), (nat_lit 2, zPl_token, zOl_token, zMl_token), (nat_lit 3, zPl_isKey, zOl_isKey, zMl_isKey), (nat_lit 4, zPl_isCounted, zOl_isCounted, zMl_isCounted), (nat_lit 5, zPl_waitsFor, zOl_waitsFor, zMl_waitsFor), (nat_lit 6, zPl_rank, zOl_rank, zMl_rank), (nat_lit 7, zPl_bind, zOl_bind, zMl_bind)] pCl_signs qCl_signs) 4).2 [] η x2 η1 → (x2 = 0) → (fun (_ : Nat) (y : Int) (η' : zE) => pQl_signs xs η0 y η') 0 0 η1 := by
  have hw : η 0 45 = 0 := hig.2.1
  have hr1 : 1 ≤ η 0 19 := hig.2.2.1
  have hs1 : η 0 7 = η0 0 7 := hig.2.2.2.1
  have hs2 : η 0 6 = η0 0 6 := hig.2.2.2.2.1
  have hs3 : η 0 8 = η0 0 8 := hig.2.2.2.2.2.1
  have hk : x1 = 0 ∨ (3 ≤ x1 ∧ ¬ η 0 8 = 0) := hig.2.2.2.2.2.2
  have kk : η 0 8 = 5 → 0 ≤ η 0 9 ∧ η 0 9 ≤ 5 := hig.1.1.1.2.1.2
  have bd43 : (0 : Int) ≤ η 0 43 ∧ η 0 43 ≤ 8 := wf_ok (a := 43) (b := 43) (z := (0, 8)) hI.1.1 (by decide +kernel) (Nat.le_refl _) (Nat.le_refl _)
  have bd44 : (0 : Int) ≤ η 0 44 ∧ η 0 44 ≤ 64 := wf_ok (a := 44) (b := 44) (z := (0, 64)) hI.1.1 (by decide +kernel) (Nat.le_refl _) (Nat.le_refl _)
  have bd19 : (0 : Int) ≤ η 0 19 ∧ η 0 19 ≤ 64 := wf_ok (a := 19) (b := 19) (z := (0, 64)) hI.1.1 (by decide +kernel) (Nat.le_refl _) (Nat.le_refl _)
  obtain ⟨u1, u2, u3, u4⟩ := hig.1.2
  have cn := cz_n (η := η) (η 0 41).toNat
  intro x2 η1 h2 c1
  have k2 : sQ wl_l zTr zOl_isCounted zMl_isCounted [] η x2 η1 ∧ pQl_isCounted [] η x2 η1 := h2
  have bx1 : (3 : Int) ≤ x1 ∧ x1 ≤ 14 := hI.1.2.1.1
  have c0_0_41 : η 0 41 = η 0 41 := rfl
  have w0_0_43 : (0 : Int) ≤ η 0 43 ∧ η 0 43 ≤ 8 := wf_ok (a := 43) (b := 43) (z := (0, 8)) hI.1.1 (by decide +kernel) (Nat.le_refl _) (Nat.le_refl _)
  have c0_0_43 : η 0 43 = η 0 43 := rfl
  have c0_0_42 : η 0 42 = η 0 42 := rfl
  have c0_0_45 : η 0 45 = η 0 45 := rfl
  have w0_0_19 : (0 : Int) ≤ η 0 19 ∧ η 0 19 ≤ 64 := wf_ok (a := 19) (b := 19) (z := (0, 64)) hI.1.1 (by decide +kernel) (Nat.le_refl _) (Nat.le_refl _)
  have c0_0_19 : η 0 19 = η 0 19 := rfl
  have w0_0_44 : (0 : Int) ≤ η 0 44 ∧ η 0 44 ≤ 64 := wf_ok (a := 44) (b := 44) (z := (0, 64)) hI.1.1 (by decide +kernel) (Nat.le_refl _) (Nat.le_refl _)
  have c0_0_44 : η 0 44 = η 0 44 := rfl
  have w0_0_7 : (0 : Int) ≤ η 0 7 ∧ η 0 7 ≤ 700 := wf_ok (a := 7) (b := 7) (z := (0, 700)) hI.1.1 (by decide +kernel) (Nat.le_refl _) (Nat.le_refl _)
  have c0_0_7 : η 0 7 = η 0 7 := rfl
  have w0_0_6 : (0 : Int) ≤ η 0 6 ∧ η 0 6 ≤ 700 := wf_ok (a := 6) (b := 6) (z := (0, 700)) hI.1.1 (by decide +kernel) (Nat.le_refl _) (Nat.le_refl _)
  have c0_0_6 : η 0 6 = η 0 6 := rfl
  have w0_0_8 : (0 : Int) ≤ η 0 8 ∧ η 0 8 ≤ 6 := wf_ok (a := 8) (b := 8) (z := (0, 6)) hI.1.1 (by decide +kernel) (Nat.le_refl _) (Nat.le_refl _)
  have c0_0_8 : η 0 8 = η 0 8 := rfl
  have wb1 : wB wl_l zTr η1 := k2.1.1
  have bx2 : (0 : Int) ≤ x2 ∧ x2 ≤ 1 := k2.1.2.1
  have fm1 : zFm zMl_signs η0 η1 := zFm_tr2 hI.2 k2.1.2.2.2.1 (by decide +kernel)
  have fmE : zFm zMl_signs η0 η1 := fm1
  have fr22_0 : ∀ j, η 22 j = η 22 j := fun _ => rfl
  have v9 : ∀ j, η1 22 j = η 22 j := fun j => k2.1.2.2.2.1 22 _ (zinr_not (by decide +kernel))
  have fr22_1 : ∀ j, η1 22 j = η 22 j := v9
  have fr22 : ∀ j, η1 22 j = η 22 j := v9
  have v10 : zEq (η1 0 41) (η 0 41) := (k2.1.2.2.2.1 0 41 (by decide +kernel)).trans rfl
  have f0_41 : η1 0 41 = η 0 41 := v10
  have v11 : zEq (η1 0 43) (η 0 43) := (k2.1.2.2.2.1 0 43 (by decide +kernel)).trans rfl
  have f0_43 : η1 0 43 = η 0 43 := v11
  have v12 : zEq (η1 0 42) (η 0 42) := (k2.1.2.2.2.1 0 42 (by decide +kernel)).trans rfl
  have f0_42 : η1 0 42 = η 0 42 := v12
  have v13 : zEq (η1 0 45) (η 0 45) := (k2.1.2.2.2.1 0 45 (by decide +kernel)).trans rfl
  have f0_45 : η1 0 45 = η 0 45 := v13
  have v14 : zEq (η1 0 19) (η 0 19) := (k2.1.2.2.2.1 0 19 (by decide +kernel)).trans rfl
  have f0_19 : η1 0 19 = η 0 19 := v14
  have w1_0_44 : (0 : Int) ≤ η1 0 44 ∧ η1 0 44 ≤ 64 := wf_ok (a := 44) (b := 44) (z := (0, 64)) k2.1.1 (by decide +kernel) (Nat.le_refl _) (Nat.le_refl _)
  have f0_44 : η1 0 44 = η1 0 44 := rfl
  have v16 : zEq (η1 0 7) (η 0 7) := (k2.1.2.2.2.1 0 7 (by decide +kernel)).trans rfl
  have f0_7 : η1 0 7 = η 0 7 := v16
  have v17 : zEq (η1 0 6) (η 0 6) := (k2.1.2.2.2.1 0 6 (by decide +kernel)).trans rfl
  have f0_6 : η1 0 6 = η 0 6 := v17
  have v18 : zEq (η1 0 8) (η 0 8) := (k2.1.2.2.2.1 0 8 (by decide +kernel)).trans rfl
  have f0_8 : η1 0 8 = η 0 8 := v18
  have wbE : wB wl_l zTr η1 := wb1
  
  have I0 : H_l 0 0 0 η := hig.1
  have I1 : H_l 0 0 0 η1 := k2.2.2 c1
  exact ⟨I1.1, fun w => absurd (show (0 : Int) = 0 by omega) w⟩
set_option maxHeartbeats 8000000 in
theorem zl_signs {ro : Nat → List Int32} : zMet pr_P pr_K pr_df ro (sm_X0 1 6) 2 148 tm_l [(.inr (.inr (.inl (nat_lit 0))))] 2 [(nat_lit 0, nat_lit 0, nat_lit 1), (nat_lit 0, nat_lit 3, nat_lit 2), (nat_lit 0, nat_lit 20, nat_lit 3), (nat_lit 0, nat_lit 21, nat_lit 4), (nat_lit 0, nat_lit 22, nat_lit 5), (nat_lit 0, nat_lit 23, nat_lit 6), (nat_lit 0, nat_lit 24, nat_lit 7), (nat_lit 0, nat_lit 25, nat_lit 8), (nat_lit 0, nat_lit 26, nat_lit 9), (nat_lit 0, nat_lit 27, nat_lit 10), (nat_lit 0, nat_lit 28, nat_lit 11), (nat_lit 0, nat_lit 29, nat_lit 12), (nat_lit 0, nat_lit 30, nat_lit 13), (nat_lit 0, nat_lit 31, nat_lit 14), (nat_lit 0, nat_lit 32, nat_lit 15), (nat_lit 0, nat_lit 33, nat_lit 16), (nat_lit 0, nat_lit 34, nat_lit 17), (nat_lit 0, nat_lit 35, nat_lit 18), (nat_lit 0, nat_lit 36, nat_lit 19), (nat_lit 0, nat_lit 37, nat_lit 20), (nat_lit 0, nat_lit 38, nat_lit 21), (nat_lit 0, nat_lit 39, nat_lit 22), (nat_lit 0, nat_lit 40, nat_lit 23), (nat_lit 0, nat_lit 47, nat_lit 24), (nat_lit 0, nat_lit 48, nat_lit 25), (nat_lit 0, nat_lit 50, nat_lit 26), (nat_lit 0, nat_lit 51, nat_lit 27), (nat_lit 0, nat_lit 52, nat_lit 28), (nat_lit 0, nat_lit 53, nat_lit 29), (nat_lit 0, nat_lit 54, nat_lit 30), (nat_lit 0, nat_lit 55, nat_lit 31), (nat_lit 0, nat_lit 56, nat_lit 32), (nat_lit 0, nat_lit 57, nat_lit 33), (nat_lit 0, nat_lit 58, nat_lit 34), (nat_lit 0, nat_lit 59, nat_lit 35), (nat_lit 0, nat_lit 72, nat_lit 36), (nat_lit 0, nat_lit 73, nat_lit 37), (nat_lit 0, nat_lit 76, nat_lit 38), (nat_lit 0, nat_lit 77, nat_lit 39), (nat_lit 0, nat_lit 79, nat_lit 40), (nat_lit 0, nat_lit 81, nat_lit 41), (nat_lit 0, nat_lit 82, nat_lit 42)] [] (fun xs η => sP wl_l zTr zPl_signs xs η ∧ pPl_signs xs η) (fun xs η y η' => sQ wl_l zTr zOl_signs zMl_signs xs η y η' ∧ pQl_signs xs η y η') :=
  zmet_alt (zmea_gen (mi := (nat_lit 0, nat_lit 1, nat_lit 8, nat_lit 2, nat_lit 2, tX8_signs)) (cd := [(nat_lit 126, nat_lit 0, nat_lit 0, [(.inr (.inr (.inl (nat_lit 0)))), (.inl (nat_lit 1, (.ofNat (nat_lit 0))))], nat_lit 2, [(nat_lit 0, nat_lit 0, nat_lit 1), (nat_lit 0, nat_lit 3, nat_lit 2), (nat_lit 0, nat_lit 20, nat_lit 3), (nat_lit 0, nat_lit 21, nat_lit 4), (nat_lit 0, nat_lit 22, nat_lit 5), (nat_lit 0, nat_lit 23, nat_lit 6), (nat_lit 0, nat_lit 24, nat_lit 7), (nat_lit 0, nat_lit 25, nat_lit 8), (nat_lit 0, nat_lit 26, nat_lit 9), (nat_lit 0, nat_lit 27, nat_lit 10), (nat_lit 0, nat_lit 28, nat_lit 11), (nat_lit 0, nat_lit 29, nat_lit 12), (nat_lit 0, nat_lit 30, nat_lit 13), (nat_lit 0, nat_lit 31, nat_lit 14), (nat_lit 0, nat_lit 32, nat_lit 15), (nat_lit 0, nat_lit 33, nat_lit 16), (nat_lit 0, nat_lit 34, nat_lit 17), (nat_lit 0, nat_lit 35, nat_lit 18), (nat_lit 0, nat_lit 36, nat_lit 19), (nat_lit 0, nat_lit 37, nat_lit 20), (nat_lit 0, nat_lit 38, nat_lit 21), (nat_lit 0, nat_lit 39, nat_lit 22), (nat_lit 0, nat_lit 40, nat_lit 23), (nat_lit 0, nat_lit 47, nat_lit 24), (nat_lit 0, nat_lit 48, nat_lit 25), (nat_lit 0, nat_lit 50, nat_lit 26), (nat_lit 0, nat_lit 51, nat_lit 27), (nat_lit 0, nat_lit 52, nat_lit 28), (nat_lit 0, nat_lit 53, nat_lit 29), (nat_lit 0, nat_lit 54, nat_lit 30), (nat_lit 0, nat_lit 55, nat_lit 31), (nat_lit 0, nat_lit 56, nat_lit 32), (nat_lit 0, nat_lit 57, nat_lit 33), (nat_lit 0, nat_lit 58, nat_lit 34), (nat_lit 0, nat_lit 59, nat_lit 35), (nat_lit 0, nat_lit 72, nat_lit 36), (nat_lit 0, nat_lit 73, nat_lit 37), (nat_lit 0, nat_lit 76, nat_lit 38), (nat_lit 0, nat_lit 77, nat_lit 39), (nat_lit 0, nat_lit 79, nat_lit 40), (nat_lit 0, nat_lit 81, nat_lit 41), (nat_lit 0, nat_lit 82, nat_lit 42)], []), (nat_lit 118, nat_lit 1, nat_lit 0, [(.inr (.inr (.inl (nat_lit 0)))), (.inl (nat_lit 1, (.ofNat (nat_lit 0))))], nat_lit 2, [(nat_lit 0, nat_lit 0, nat_lit 1), (nat_lit 0, nat_lit 3, nat_lit 2), (nat_lit 0, nat_lit 20, nat_lit 3), (nat_lit 0, nat_lit 21, nat_lit 4), (nat_lit 0, nat_lit 22, nat_lit 5), (nat_lit 0, nat_lit 23, nat_lit 6), (nat_lit 0, nat_lit 24, nat_lit 7), (nat_lit 0, nat_lit 25, nat_lit 8), (nat_lit 0, nat_lit 26, nat_lit 9), (nat_lit 0, nat_lit 27, nat_lit 10), (nat_lit 0, nat_lit 28, nat_lit 11), (nat_lit 0, nat_lit 29, nat_lit 12), (nat_lit 0, nat_lit 30, nat_lit 13), (nat_lit 0, nat_lit 31, nat_lit 14), (nat_lit 0, nat_lit 32, nat_lit 15), (nat_lit 0, nat_lit 33, nat_lit 16), (nat_lit 0, nat_lit 34, nat_lit 17), (nat_lit 0, nat_lit 35, nat_lit 18), (nat_lit 0, nat_lit 36, nat_lit 19), (nat_lit 0, nat_lit 37, nat_lit 20), (nat_lit 0, nat_lit 38, nat_lit 21), (nat_lit 0, nat_lit 39, nat_lit 22), (nat_lit 0, nat_lit 40, nat_lit 23), (nat_lit 0, nat_lit 47, nat_lit 24), (nat_lit 0, nat_lit 48, nat_lit 25), (nat_lit 0, nat_lit 50, nat_lit 26), (nat_lit 0, nat_lit 51, nat_lit 27), (nat_lit 0, nat_lit 52, nat_lit 28), (nat_lit 0, nat_lit 53, nat_lit 29), (nat_lit 0, nat_lit 54, nat_lit 30), (nat_lit 0, nat_lit 55, nat_lit 31), (nat_lit 0, nat_lit 56, nat_lit 32), (nat_lit 0, nat_lit 57, nat_lit 33), (nat_lit 0, nat_lit 58, nat_lit 34), (nat_lit 0, nat_lit 59, nat_lit 35), (nat_lit 0, nat_lit 72, nat_lit 36), (nat_lit 0, nat_lit 73, nat_lit 37), (nat_lit 0, nat_lit 76, nat_lit 38), (nat_lit 0, nat_lit 77, nat_lit 39), (nat_lit 0, nat_lit 79, nat_lit 40), (nat_lit 0, nat_lit 81, nat_lit 41), (nat_lit 0, nat_lit 82, nat_lit 42)], []), (nat_lit 122, nat_lit 2, nat_lit 1, [(.inr (.inr (.inl (nat_lit 0))))], nat_lit 0, [(nat_lit 0, nat_lit 0, nat_lit 1), (nat_lit 0, nat_lit 3, nat_lit 2), (nat_lit 0, nat_lit 20, nat_lit 3), (nat_lit 0, nat_lit 21, nat_lit 4), (nat_lit 0, nat_lit 22, nat_lit 5), (nat_lit 0, nat_lit 23, nat_lit 6), (nat_lit 0, nat_lit 24, nat_lit 7), (nat_lit 0, nat_lit 25, nat_lit 8), (nat_lit 0, nat_lit 26, nat_lit 9), (nat_lit 0, nat_lit 27, nat_lit 10), (nat_lit 0, nat_lit 28, nat_lit 11), (nat_lit 0, nat_lit 29, nat_lit 12), (nat_lit 0, nat_lit 30, nat_lit 13), (nat_lit 0, nat_lit 31, nat_lit 14), (nat_lit 0, nat_lit 32, nat_lit 15), (nat_lit 0, nat_lit 33, nat_lit 16), (nat_lit 0, nat_lit 34, nat_lit 17), (nat_lit 0, nat_lit 35, nat_lit 18), (nat_lit 0, nat_lit 36, nat_lit 19), (nat_lit 0, nat_lit 37, nat_lit 20), (nat_lit 0, nat_lit 38, nat_lit 21), (nat_lit 0, nat_lit 39, nat_lit 22), (nat_lit 0, nat_lit 40, nat_lit 23), (nat_lit 0, nat_lit 47, nat_lit 24), (nat_lit 0, nat_lit 48, nat_lit 25), (nat_lit 0, nat_lit 50, nat_lit 26), (nat_lit 0, nat_lit 51, nat_lit 27), (nat_lit 0, nat_lit 52, nat_lit 28), (nat_lit 0, nat_lit 53, nat_lit 29), (nat_lit 0, nat_lit 54, nat_lit 30), (nat_lit 0, nat_lit 55, nat_lit 31), (nat_lit 0, nat_lit 56, nat_lit 32), (nat_lit 0, nat_lit 57, nat_lit 33), (nat_lit 0, nat_lit 58, nat_lit 34), (nat_lit 0, nat_lit 59, nat_lit 35), (nat_lit 0, nat_lit 72, nat_lit 36), (nat_lit 0, nat_lit 73, nat_lit 37), (nat_lit 0, nat_lit 76, nat_lit 38), (nat_lit 0, nat_lit 77, nat_lit 39), (nat_lit 0, nat_lit 79, nat_lit 40), (nat_lit 0, nat_lit 81, nat_lit 41), (nat_lit 0, nat_lit 82, nat_lit 42)], []), (nat_lit 125, nat_lit 3, nat_lit 0, [(.inr (.inr (.inl (nat_lit 0)))), (.inl (nat_lit 1, (.ofNat (nat_lit 0))))], nat_lit 2, [(nat_lit 0, nat_lit 0, nat_lit 1), (nat_lit 0, nat_lit 3, nat_lit 2), (nat_lit 0, nat_lit 20, nat_lit 3), (nat_lit 0, nat_lit 21, nat_lit 4), (nat_lit 0, nat_lit 22, nat_lit 5), (nat_lit 0, nat_lit 23, nat_lit 6), (nat_lit 0, nat_lit 24, nat_lit 7), (nat_lit 0, nat_lit 25, nat_lit 8), (nat_lit 0, nat_lit 26, nat_lit 9), (nat_lit 0, nat_lit 27, nat_lit 10), (nat_lit 0, nat_lit 28, nat_lit 11), (nat_lit 0, nat_lit 29, nat_lit 12), (nat_lit 0, nat_lit 30, nat_lit 13), (nat_lit 0, nat_lit 31, nat_lit 14), (nat_lit 0, nat_lit 32, nat_lit 15), (nat_lit 0, nat_lit 33, nat_lit 16), (nat_lit 0, nat_lit 34, nat_lit 17), (nat_lit 0, nat_lit 35, nat_lit 18), (nat_lit 0, nat_lit 36, nat_lit 19), (nat_lit 0, nat_lit 37, nat_lit 20), (nat_lit 0, nat_lit 38, nat_lit 21), (nat_lit 0, nat_lit 39, nat_lit 22), (nat_lit 0, nat_lit 40, nat_lit 23), (nat_lit 0, nat_lit 47, nat_lit 24), (nat_lit 0, nat_lit 48, nat_lit 25), (nat_lit 0, nat_lit 50, nat_lit 26), (nat_lit 0, nat_lit 51, nat_lit 27), (nat_lit 0, nat_lit 52, nat_lit 28), (nat_lit 0, nat_lit 53, nat_lit 29), (nat_lit 0, nat_lit 54, nat_lit 30), (nat_lit 0, nat_lit 55, nat_lit 31), (nat_lit 0, nat_lit 56, nat_lit 32), (nat_lit 0, nat_lit 57, nat_lit 33), (nat_lit 0, nat_lit 58, nat_lit 34), (nat_lit 0, nat_lit 59, nat_lit 35), (nat_lit 0, nat_lit 72, nat_lit 36), (nat_lit 0, nat_lit 73, nat_lit 37), (nat_lit 0, nat_lit 76, nat_lit 38), (nat_lit 0, nat_lit 77, nat_lit 39), (nat_lit 0, nat_lit 79, nat_lit 40), (nat_lit 0, nat_lit 81, nat_lit 41), (nat_lit 0, nat_lit 82, nat_lit 42)], []), (nat_lit 144, nat_lit 4, nat_lit 1, [(.inr (.inr (.inl (nat_lit 0))))], nat_lit 2, [(nat_lit 0, nat_lit 0, nat_lit 1), (nat_lit 0, nat_lit 3, nat_lit 2), (nat_lit 0, nat_lit 20, nat_lit 3), (nat_lit 0, nat_lit 21, nat_lit 4), (nat_lit 0, nat_lit 22, nat_lit 5), (nat_lit 0, nat_lit 23, nat_lit 6), (nat_lit 0, nat_lit 24, nat_lit 7), (nat_lit 0, nat_lit 25, nat_lit 8), (nat_lit 0, nat_lit 26, nat_lit 9), (nat_lit 0, nat_lit 27, nat_lit 10), (nat_lit 0, nat_lit 28, nat_lit 11), (nat_lit 0, nat_lit 29, nat_lit 12), (nat_lit 0, nat_lit 30, nat_lit 13), (nat_lit 0, nat_lit 31, nat_lit 14), (nat_lit 0, nat_lit 32, nat_lit 15), (nat_lit 0, nat_lit 33, nat_lit 16), (nat_lit 0, nat_lit 34, nat_lit 17), (nat_lit 0, nat_lit 35, nat_lit 18), (nat_lit 0, nat_lit 36, nat_lit 19), (nat_lit 0, nat_lit 37, nat_lit 20), (nat_lit 0, nat_lit 38, nat_lit 21), (nat_lit 0, nat_lit 39, nat_lit 22), (nat_lit 0, nat_lit 40, nat_lit 23), (nat_lit 0, nat_lit 47, nat_lit 24), (nat_lit 0, nat_lit 48, nat_lit 25), (nat_lit 0, nat_lit 50, nat_lit 26), (nat_lit 0, nat_lit 51, nat_lit 27), (nat_lit 0, nat_lit 52, nat_lit 28), (nat_lit 0, nat_lit 53, nat_lit 29), (nat_lit 0, nat_lit 54, nat_lit 30), (nat_lit 0, nat_lit 55, nat_lit 31), (nat_lit 0, nat_lit 56, nat_lit 32), (nat_lit 0, nat_lit 57, nat_lit 33), (nat_lit 0, nat_lit 58, nat_lit 34), (nat_lit 0, nat_lit 59, nat_lit 35), (nat_lit 0, nat_lit 72, nat_lit 36), (nat_lit 0, nat_lit 73, nat_lit 37), (nat_lit 0, nat_lit 76, nat_lit 38), (nat_lit 0, nat_lit 77, nat_lit 39), (nat_lit 0, nat_lit 79, nat_lit 40), (nat_lit 0, nat_lit 81, nat_lit 41), (nat_lit 0, nat_lit 82, nat_lit 42)], []), (nat_lit 145, nat_lit 5, nat_lit 0, [(.inr (.inr (.inl (nat_lit 0)))), (.inl (nat_lit 1, (.ofNat (nat_lit 0))))], nat_lit 0, [(nat_lit 0, nat_lit 0, nat_lit 1), (nat_lit 0, nat_lit 3, nat_lit 2), (nat_lit 0, nat_lit 20, nat_lit 3), (nat_lit 0, nat_lit 21, nat_lit 4), (nat_lit 0, nat_lit 22, nat_lit 5), (nat_lit 0, nat_lit 23, nat_lit 6), (nat_lit 0, nat_lit 24, nat_lit 7), (nat_lit 0, nat_lit 25, nat_lit 8), (nat_lit 0, nat_lit 26, nat_lit 9), (nat_lit 0, nat_lit 27, nat_lit 10), (nat_lit 0, nat_lit 28, nat_lit 11), (nat_lit 0, nat_lit 29, nat_lit 12), (nat_lit 0, nat_lit 30, nat_lit 13), (nat_lit 0, nat_lit 31, nat_lit 14), (nat_lit 0, nat_lit 32, nat_lit 15), (nat_lit 0, nat_lit 33, nat_lit 16), (nat_lit 0, nat_lit 34, nat_lit 17), (nat_lit 0, nat_lit 35, nat_lit 18), (nat_lit 0, nat_lit 36, nat_lit 19), (nat_lit 0, nat_lit 37, nat_lit 20), (nat_lit 0, nat_lit 38, nat_lit 21), (nat_lit 0, nat_lit 39, nat_lit 22), (nat_lit 0, nat_lit 40, nat_lit 23), (nat_lit 0, nat_lit 47, nat_lit 24), (nat_lit 0, nat_lit 48, nat_lit 25), (nat_lit 0, nat_lit 50, nat_lit 26), (nat_lit 0, nat_lit 51, nat_lit 27), (nat_lit 0, nat_lit 52, nat_lit 28), (nat_lit 0, nat_lit 53, nat_lit 29), (nat_lit 0, nat_lit 54, nat_lit 30), (nat_lit 0, nat_lit 55, nat_lit 31), (nat_lit 0, nat_lit 56, nat_lit 32), (nat_lit 0, nat_lit 57, nat_lit 33), (nat_lit 0, nat_lit 58, nat_lit 34), (nat_lit 0, nat_lit 59, nat_lit 35), (nat_lit 0, nat_lit 72, nat_lit 36), (nat_lit 0, nat_lit 73, nat_lit 37), (nat_lit 0, nat_lit 76, nat_lit 38), (nat_lit 0, nat_lit 77, nat_lit 39), (nat_lit 0, nat_lit 79, nat_lit 40), (nat_lit 0, nat_lit 81, nat_lit 41), (nat_lit 0, nat_lit 82, nat_lit 42)], []), (nat_lit 140, nat_lit 6, nat_lit 0, [(.inl (nat_lit 1, (.ofNat (nat_lit 0))))], nat_lit 1, [(nat_lit 0, nat_lit 0, nat_lit 1), (nat_lit 0, nat_lit 3, nat_lit 2), (nat_lit 0, nat_lit 20, nat_lit 3), (nat_lit 0, nat_lit 21, nat_lit 4), (nat_lit 0, nat_lit 22, nat_lit 5), (nat_lit 0, nat_lit 23, nat_lit 6), (nat_lit 0, nat_lit 24, nat_lit 7), (nat_lit 0, nat_lit 25, nat_lit 8), (nat_lit 0, nat_lit 26, nat_lit 9), (nat_lit 0, nat_lit 27, nat_lit 10), (nat_lit 0, nat_lit 28, nat_lit 11), (nat_lit 0, nat_lit 29, nat_lit 12), (nat_lit 0, nat_lit 30, nat_lit 13), (nat_lit 0, nat_lit 31, nat_lit 14), (nat_lit 0, nat_lit 32, nat_lit 15), (nat_lit 0, nat_lit 33, nat_lit 16), (nat_lit 0, nat_lit 34, nat_lit 17), (nat_lit 0, nat_lit 35, nat_lit 18), (nat_lit 0, nat_lit 36, nat_lit 19), (nat_lit 0, nat_lit 37, nat_lit 20), (nat_lit 0, nat_lit 38, nat_lit 21), (nat_lit 0, nat_lit 39, nat_lit 22), (nat_lit 0, nat_lit 40, nat_lit 23), (nat_lit 0, nat_lit 47, nat_lit 24), (nat_lit 0, nat_lit 48, nat_lit 25), (nat_lit 0, nat_lit 50, nat_lit 26), (nat_lit 0, nat_lit 51, nat_lit 27), (nat_lit 0, nat_lit 52, nat_lit 28), (nat_lit 0, nat_lit 53, nat_lit 29), (nat_lit 0, nat_lit 54, nat_lit 30), (nat_lit 0, nat_lit 55, nat_lit 31), (nat_lit 0, nat_lit 56, nat_lit 32), (nat_lit 0, nat_lit 57, nat_lit 33), (nat_lit 0, nat_lit 58, nat_lit 34), (nat_lit 0, nat_lit 59, nat_lit 35), (nat_lit 0, nat_lit 72, nat_lit 36), (nat_lit 0, nat_lit 73, nat_lit 37), (nat_lit 0, nat_lit 76, nat_lit 38), (nat_lit 0, nat_lit 77, nat_lit 39), (nat_lit 0, nat_lit 79, nat_lit 40), (nat_lit 0, nat_lit 81, nat_lit 41), (nat_lit 0, nat_lit 82, nat_lit 42)], []), (nat_lit 143, nat_lit 7, nat_lit 1, [(.inr (.inr (.inl (nat_lit 0)))), (.inl (nat_lit 1, (.ofNat (nat_lit 0))))], nat_lit 0, [(nat_lit 0, nat_lit 0, nat_lit 1), (nat_lit 0, nat_lit 3, nat_lit 2), (nat_lit 0, nat_lit 20, nat_lit 3), (nat_lit 0, nat_lit 21, nat_lit 4), (nat_lit 0, nat_lit 22, nat_lit 5), (nat_lit 0, nat_lit 23, nat_lit 6), (nat_lit 0, nat_lit 24, nat_lit 7), (nat_lit 0, nat_lit 25, nat_lit 8), (nat_lit 0, nat_lit 26, nat_lit 9), (nat_lit 0, nat_lit 27, nat_lit 10), (nat_lit 0, nat_lit 28, nat_lit 11), (nat_lit 0, nat_lit 29, nat_lit 12), (nat_lit 0, nat_lit 30, nat_lit 13), (nat_lit 0, nat_lit 31, nat_lit 14), (nat_lit 0, nat_lit 32, nat_lit 15), (nat_lit 0, nat_lit 33, nat_lit 16), (nat_lit 0, nat_lit 34, nat_lit 17), (nat_lit 0, nat_lit 35, nat_lit 18), (nat_lit 0, nat_lit 36, nat_lit 19), (nat_lit 0, nat_lit 37, nat_lit 20), (nat_lit 0, nat_lit 38, nat_lit 21), (nat_lit 0, nat_lit 39, nat_lit 22), (nat_lit 0, nat_lit 40, nat_lit 23), (nat_lit 0, nat_lit 47, nat_lit 24), (nat_lit 0, nat_lit 48, nat_lit 25), (nat_lit 0, nat_lit 50, nat_lit 26), (nat_lit 0, nat_lit 51, nat_lit 27), (nat_lit 0, nat_lit 52, nat_lit 28), (nat_lit 0, nat_lit 53, nat_lit 29), (nat_lit 0, nat_lit 54, nat_lit 30), (nat_lit 0, nat_lit 55, nat_lit 31), (nat_lit 0, nat_lit 56, nat_lit 32), (nat_lit 0, nat_lit 57, nat_lit 33), (nat_lit 0, nat_lit 58, nat_lit 34), (nat_lit 0, nat_lit 59, nat_lit 35), (nat_lit 0, nat_lit 72, nat_lit 36), (nat_lit 0, nat_lit 73, nat_lit 37), (nat_lit 0, nat_lit 76, nat_lit 38), (nat_lit 0, nat_lit 77, nat_lit 39), (nat_lit 0, nat_lit 79, nat_lit 40), (nat_lit 0, nat_lit 81, nat_lit 41), (nat_lit 0, nat_lit 82, nat_lit 42)], [])]) (cu := zUl_signs) (cs := [(nat_lit 0, zPl_isSign, zOl_isSign, zMl_isSign), (nat_lit 1, zPl_wrong, zOl_wrong, zMl_wrong), (nat_lit 2, zPl_token, zOl_token, zMl_token), (nat_lit 3, zPl_isKey, zOl_isKey, zMl_isKey), (nat_lit 4, zPl_isCounted, zOl_isCounted, zMl_isCounted), (nat_lit 5, zPl_waitsFor, zOl_waitsFor, zMl_waitsFor), (nat_lit 6, zPl_rank, zOl_rank, zMl_rank), (nat_lit 7, zPl_bind, zOl_bind, zMl_bind)]) (iv := zVl_signs) (po := [zOl_signs]) (pr := zPl_signs) (mods := zMl_signs) (D7 := zDl_signs) (D0 := zEl_signs) (Dm := zFl_signs) (f0 := 30) pCl_signs qCl_signs iCl_signs pPl_signs (fun xs η _ y η' => pQl_signs xs η y η') zX_low pr_mtR rfl (List.forall_mem_cons.mpr ⟨zl_isSign, List.forall_mem_cons.mpr ⟨zl_wrong, List.forall_mem_cons.mpr ⟨zl_token, List.forall_mem_cons.mpr ⟨zl_isKey, List.forall_mem_cons.mpr ⟨zl_isCounted, List.forall_mem_cons.mpr ⟨zl_waitsFor, List.forall_mem_cons.mpr ⟨zl_rank, List.forall_mem_cons.mpr ⟨zl_bind, fun _ h => nomatch h⟩⟩⟩⟩⟩⟩⟩⟩) (by decide +kernel) (by decide +kernel) (by decide +kernel)
    (by
      intro xs η hr hl hp hpp
      match xs, hl, hp, hpp with
      | [], _, hp, hpp =>
        refine List.forall_mem_cons.mpr ⟨?_, List.forall_mem_cons.mpr ⟨?_, List.forall_mem_cons.mpr ⟨?_, List.forall_mem_cons.mpr ⟨?_, List.forall_mem_cons.mpr ⟨?_, List.forall_mem_cons.mpr ⟨?_, fun _ h => nomatch h⟩⟩⟩⟩⟩⟩
        · exact zl_signs_o0 (ro := ro)  η hp hpp
        · exact zl_signs_o1 (ro := ro)  η hp hpp
        · exact zl_signs_o2 (ro := ro)  η hp hpp
        · exact zl_signs_o3 (ro := ro)  η hp hpp
        · exact zl_signs_o4 (ro := ro)  η hp hpp
        · exact zl_signs_o5 (ro := ro)  η hp hpp
      )
    (fun _ _ _ _ _ _ _ h => nomatch h)
    (List.forall_mem_cons.mpr ⟨⟨zDl_signs_0, zEl_signs_0, zFl_signs_0, 36, by decide +kernel, (by
      intro xs η0 hlx hp hpp ys η hr hl hI hig
      match ys, hl, hI, hig with
      | [], _, hI, hig =>
        refine ⟨?_, ?_⟩
        · refine List.forall_mem_cons.mpr ⟨?_, List.forall_mem_cons.mpr ⟨?_, List.forall_mem_cons.mpr ⟨?_, List.forall_mem_cons.mpr ⟨?_, List.forall_mem_cons.mpr ⟨?_, List.forall_mem_cons.mpr ⟨?_, List.forall_mem_cons.mpr ⟨?_, List.forall_mem_cons.mpr ⟨?_, List.forall_mem_cons.mpr ⟨?_, List.forall_mem_cons.mpr ⟨?_, List.forall_mem_cons.mpr ⟨?_, List.forall_mem_cons.mpr ⟨?_, List.forall_mem_cons.mpr ⟨?_, fun _ h => nomatch h⟩⟩⟩⟩⟩⟩⟩⟩⟩⟩⟩⟩⟩
          · exact zl_signs_o6 (ro := ro) xs η0 hp hpp  η hI hig
          · exact zl_signs_o7 (ro := ro) xs η0 hp hpp  η hI hig
          · exact zl_signs_o8 (ro := ro) xs η0 hp hpp  η hI hig
          · exact zl_signs_o9 (ro := ro) xs η0 hp hpp  η hI hig
          · exact zl_signs_o10 (ro := ro) xs η0 hp hpp  η hI hig
          · exact zl_signs_o11 (ro := ro) xs η0 hp hpp  η hI hig
          · exact zl_signs_o12 (ro := ro) xs η0 hp hpp  η hI hig
          · exact zl_signs_o13 (ro := ro) xs η0 hp hpp  η hI hig
          · exact zl_signs_o14 (ro := ro) xs η0 hp hpp  η hI hig
          · exact zl_signs_o15 (ro := ro) xs η0 hp hpp  η hI hig
          · exact zl_signs_o16 (ro := ro) xs η0 hp hpp  η hI hig
          · exact zl_signs_o17 (ro := ro) xs η0 hp hpp  η hI hig
          · exact zl_signs_o18 (ro := ro) xs η0 hp hpp  η hI hig
        · refine List.forall_mem_cons.mpr ⟨?_, fun _ h => nomatch h⟩
          · exact zl_signs_o19 (ro := ro) xs η0 hp hpp  η hI hig
      )⟩, (List.forall_mem_cons.mpr ⟨⟨zDl_signs_1, zEl_signs_1, zFl_signs_1, 15, by decide +kernel, (by
      intro xs η0 hlx hp hpp ys η hr hl hI hig
      match ys, hl, hI, hig with
      | [x1], _, hI, hig =>
        refine ⟨?_, ?_⟩
        · refine List.forall_mem_cons.mpr ⟨?_, List.forall_mem_cons.mpr ⟨?_, List.forall_mem_cons.mpr ⟨?_, List.forall_mem_cons.mpr ⟨?_, List.forall_mem_cons.mpr ⟨?_, fun _ h => nomatch h⟩⟩⟩⟩⟩
          · exact zl_signs_o20 (ro := ro) xs η0 hp hpp x1 η hI hig
          · exact zl_signs_o21 (ro := ro) xs η0 hp hpp x1 η hI hig
          · exact zl_signs_o22 (ro := ro) xs η0 hp hpp x1 η hI hig
          · exact zl_signs_o23 (ro := ro) xs η0 hp hpp x1 η hI hig
          · exact zl_signs_o24 (ro := ro) xs η0 hp hpp x1 η hI hig
        · refine List.forall_mem_cons.mpr ⟨?_, List.forall_mem_cons.mpr ⟨?_, List.forall_mem_cons.mpr ⟨?_, fun _ h => nomatch h⟩⟩⟩
          · exact zl_signs_o25 (ro := ro) xs η0 hp hpp x1 η hI hig
          · exact zl_signs_o26 (ro := ro) xs η0 hp hpp x1 η hI hig
          · exact zl_signs_o27 (ro := ro) xs η0 hp hpp x1 η hI hig
      )⟩, (List.forall_mem_cons.mpr ⟨⟨zDl_signs_2, zEl_signs_2, zFl_signs_2, 25, by decide +kernel, (by
      intro xs η0 hlx hp hpp ys η hr hl hI hig
      match ys, hl, hI, hig with
      | [x1], _, hI, hig =>
        refine ⟨?_, ?_⟩
        · refine List.forall_mem_cons.mpr ⟨?_, List.forall_mem_cons.mpr ⟨?_, List.forall_mem_cons.mpr ⟨?_, List.forall_mem_cons.mpr ⟨?_, List.forall_mem_cons.mpr ⟨?_, List.forall_mem_cons.mpr ⟨?_, List.forall_mem_cons.mpr ⟨?_, fun _ h => nomatch h⟩⟩⟩⟩⟩⟩⟩
          · exact zl_signs_o28 (ro := ro) xs η0 hp hpp x1 η hI hig
          · exact zl_signs_o29 (ro := ro) xs η0 hp hpp x1 η hI hig
          · exact zl_signs_o30 (ro := ro) xs η0 hp hpp x1 η hI hig
          · exact zl_signs_o31 (ro := ro) xs η0 hp hpp x1 η hI hig
          · exact zl_signs_o32 (ro := ro) xs η0 hp hpp x1 η hI hig
          · exact zl_signs_o33 (ro := ro) xs η0 hp hpp x1 η hI hig
          · exact zl_signs_o34 (ro := ro) xs η0 hp hpp x1 η hI hig
        · refine List.forall_mem_cons.mpr ⟨?_, fun _ h => nomatch h⟩
          · exact zl_signs_o35 (ro := ro) xs η0 hp hpp x1 η hI hig
      )⟩, (List.forall_mem_cons.mpr ⟨⟨zDl_signs_3, zEl_signs_3, zFl_signs_3, 25, by decide +kernel, (by
      intro xs η0 hlx hp hpp ys η hr hl hI hig
      match ys, hl, hI, hig with
      | [x1], _, hI, hig =>
        refine ⟨?_, ?_⟩
        · refine List.forall_mem_cons.mpr ⟨?_, List.forall_mem_cons.mpr ⟨?_, List.forall_mem_cons.mpr ⟨?_, List.forall_mem_cons.mpr ⟨?_, List.forall_mem_cons.mpr ⟨?_, List.forall_mem_cons.mpr ⟨?_, List.forall_mem_cons.mpr ⟨?_, List.forall_mem_cons.mpr ⟨?_, fun _ h => nomatch h⟩⟩⟩⟩⟩⟩⟩⟩
          · exact zl_signs_o36 (ro := ro) xs η0 hp hpp x1 η hI hig
          · exact zl_signs_o37 (ro := ro) xs η0 hp hpp x1 η hI hig
          · exact zl_signs_o38 (ro := ro) xs η0 hp hpp x1 η hI hig
          · exact zl_signs_o39 (ro := ro) xs η0 hp hpp x1 η hI hig
          · exact zl_signs_o40 (ro := ro) xs η0 hp hpp x1 η hI hig
          · exact zl_signs_o41 (ro := ro) xs η0 hp hpp x1 η hI hig
          · exact zl_signs_o42 (ro := ro) xs η0 hp hpp x1 η hI hig
          · exact zl_signs_o43 (ro := ro) xs η0 hp hpp x1 η hI hig
        · exact fun _ h => nomatch h
      )⟩, (fun _ h => nomatch h)⟩)⟩)⟩)⟩))
