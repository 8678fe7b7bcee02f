set_option maxHeartbeats 8000000 in
theorem zne_scratLine_o11 {ro : Nat → List Int32} (η : zE) (hp : sP wl_ne zTr zPne_scratLine [] η) (hpp : pPne_scratLine [] η) : ∀ x1 : Int, x1 = η 0 (Int.toNat 17) → zok 0 x1 → (¬ x1 = 4) → ∀ (x2 : Int) (η1 : zE), ((gC2 wl_ne [(nat_lit 0, zPne_wrong, zOne_wrong, zMne_wrong), (nat_lit 1, zPne_token, zOne_token, zMne_token), (nat_lit 2, zPne_number, zOne_number, zMne_number), (nat_lit 3, zPne_find_s, zOne_find_s, zMne_find_s)] pCne_scratLine qCne_scratLine) 1).2 [] η x2 η1 → ∀ x3 : Int, x3 = η1 0 (Int.toNat 17) → zok 0 x3 → ∀ x4 : Int, x4 = zd 0 1 4 x3 → ∀ x5 : Int, x5 = η1 0 (Int.toNat 10) → zok 0 x5 → ∀ (x6 : Int) (η2 : zE), ((gC2 wl_ne [(nat_lit 0, zPne_wrong, zOne_wrong, zMne_wrong), (nat_lit 1, zPne_token, zOne_token, zMne_token), (nat_lit 2, zPne_number, zOne_number, zMne_number), (nat_lit 3, zPne_find_s, zOne_find_s, zMne_find_s)] pCne_scratLine qCne_scratLine) 2).2 [0, 11] η1 x6 η2 → (¬ x6 = 0) → ∀ x7 : Int, x7 = η2 0 (Int.toNat 17) → zok 0 x7 → ∀ x8 : Int, x8 = η2 0 (Int.toNat 11) → zok 0 x8 → ∀ (x9 : Int) (η3 : zE), ((gC2 wl_ne [(nat_lit 0, zPne_wrong, zOne_wrong, zMne_wrong), (nat_lit 1, zPne_token, zOne_token, zMne_token), (nat_lit 2, zPne_number, zOne_number, zMne_number), (nat_lit 3, zPne_find_s, zOne_find_s, zMne_find_s)] pCne_scratLine qCne_scratLine) 3).2 [x7, x8] η2 x9 η3 → (x9 < 0) → ∀ x10 : Int, x10 = η3 0 (Int.toNat 11) → zok 0 x10 → ∀ η4 : zE, η4 = zup η3 7 (Int.toNat x4) x10 → ∀ (x11 : Int) (η5 : zE), ((gC2 wl_ne [(nat_lit 0, zPne_wrong, zOne_wrong, zMne_wrong), (nat_lit 1, zPne_token, zOne_token, zMne_token), (nat_lit 2, zPne_number, zOne_number, zMne_number), (nat_lit 3, zPne_find_s, zOne_find_s, zMne_find_s)] pCne_scratLine qCne_scratLine) 2).2 [0, 100] η4 x11 η5 → (x11 = 0) → (fun (_ : Nat) (y : Int) (η' : zE) => pQne_scratLine [] η y η') 0 0 η5 := by
  intro x1 e1 r1 c1 x2 η1 h2 x3 e3 r3 x4 e4 x5 e5 r5 x6 η2 h6 c2 x7 e7 r7 x8 e8 r8 x9 η3 h9 c3 x10 e10 r10 η4 eη4 x11 η5 h11 c4
  have y2 : fQne_token [] η x2 η1 := h2.2.2
  have k2 : sQ wl_ne zTr zOne_token zMne_token [] η x2 η1 ∧ oQne_token [] η x2 η1 := ⟨h2.1, h2.2.1⟩
  have y6 : fQne_number [0, 11] η1 x6 η2 := h6.2.2
  have k6 : sQ wl_ne zTr zOne_number zMne_number [0, 11] η1 x6 η2 ∧ oQne_number [0, 11] η1 x6 η2 := ⟨h6.1, h6.2.1⟩
  have y9 : fQne_find_s [x7, x8] η2 x9 η3 := h9.2.2
  have k9 : sQ wl_ne zTr zOne_find_s zMne_find_s [x7, x8] η2 x9 η3 ∧ oQne_find_s [x7, x8] η2 x9 η3 := ⟨h9.1, h9.2.1⟩
  have y11 : fQne_number [0, 100] η4 x11 η5 := h11.2.2
  have k11 : sQ wl_ne zTr zOne_number zMne_number [0, 100] η4 x11 η5 ∧ oQne_number [0, 100] η4 x11 η5 := ⟨h11.1, h11.2.1⟩
  refine yj_a ?_ ?_
  · have hk : ¬ η 0 8 = 0 := hpp.2
    replace e4 := zEq_i e4
    have y2 : fQne_token [] η x2 η1 := h2.2.2
    have k2 : sQ wl_ne zTr zOne_token zMne_token [] η x2 η1 ∧ oQne_token [] η x2 η1 := ⟨h2.1, h2.2.1⟩
    have y6 : fQne_number [0, 11] η1 x6 η2 := h6.2.2
    have k6 : sQ wl_ne zTr zOne_number zMne_number [0, 11] η1 x6 η2 ∧ oQne_number [0, 11] η1 x6 η2 := ⟨h6.1, h6.2.1⟩
    have y9 : fQne_find_s [x7, x8] η2 x9 η3 := h9.2.2
    have k9 : sQ wl_ne zTr zOne_find_s zMne_find_s [x7, x8] η2 x9 η3 ∧ oQne_find_s [x7, x8] η2 x9 η3 := ⟨h9.1, h9.2.1⟩
    have y11 : fQne_number [0, 100] η4 x11 η5 := h11.2.2
    have k11 : sQ wl_ne zTr zOne_number zMne_number [0, 100] η4 x11 η5 ∧ oQne_number [0, 100] η4 x11 η5 := ⟨h11.1, h11.2.1⟩
    have w0_0_17 : (0 : Int) ≤ η 0 17 ∧ η 0 17 ≤ 4 := wf_ok (a := 17) (b := 17) (z := (0, 4)) hp.1 (by decide +kernel) (Nat.le_refl _) (Nat.le_refl _)
    replace e1 : x1 = η 0 17 := e1
    have w0_0_7 : (0 : Int) ≤ η 0 7 ∧ η 0 7 ≤ 700 := wf_ok (a := 7) (b := 7) (z := (0, 700)) hp.1 (by decide +kernel) (Nat.le_refl _) (Nat.le_refl _)
    have c0_0_7 : η 0 7 = η 0 7 := rfl
    have w0_0_6 : (0 : Int) ≤ η 0 6 ∧ η 0 6 ≤ 700 := wf_ok (a := 6) (b := 6) (z := (0, 700)) hp.1 (by decide +kernel) (Nat.le_refl _) (Nat.le_refl _)
    have c0_0_6 : η 0 6 = η 0 6 := rfl
    have w0_0_8 : (0 : Int) ≤ η 0 8 ∧ η 0 8 ≤ 6 := wf_ok (a := 8) (b := 8) (z := (0, 6)) hp.1 (by decide +kernel) (Nat.le_refl _) (Nat.le_refl _)
    have c0_0_8 : η 0 8 = η 0 8 := rfl
    have bx2 : (0 : Int) ≤ x2 ∧ x2 ≤ 0 := k2.1.2.1
    have w1_0_7 : (0 : Int) ≤ η1 0 7 ∧ η1 0 7 ≤ 700 := wf_ok (a := 7) (b := 7) (z := (0, 700)) k2.1.1 (by decide +kernel) (Nat.le_refl _) (Nat.le_refl _)
    have d1_0_7 : η1 0 7 = η1 0 7 := rfl
    have v5 : zEq (η1 0 6) (η 0 6) := (k2.1.2.2.2.1 0 6 (by decide +kernel)).trans rfl
    have d1_0_6 : η1 0 6 = η 0 6 := v5
    have w1_0_8 : (0 : Int) ≤ η1 0 8 ∧ η1 0 8 ≤ 6 := wf_ok (a := 8) (b := 8) (z := (0, 6)) k2.1.1 (by decide +kernel) (Nat.le_refl _) (Nat.le_refl _)
    have d1_0_8 : η1 0 8 = η1 0 8 := rfl
    have v7 : zEq (η1 0 17) (η 0 17) := (k2.1.2.2.2.1 0 17 (by decide +kernel)).trans rfl
    replace e3 : x3 = η 0 17 := e3.trans v7
    first
    | replace e4 : x4 = 4 + x3 := zd_a2 (zEq_o e4) (by clear e4; exact ⟨by omega, by omega⟩)
    | clear e4
    have w1_0_10 : (0 : Int) ≤ η1 0 10 ∧ η1 0 10 ≤ 700 := wf_ok (a := 10) (b := 10) (z := (0, 700)) k2.1.1 (by decide +kernel) (Nat.le_refl _) (Nat.le_refl _)
    replace e5 : x5 = η1 0 10 := e5
    have c1_0_7 : η1 0 7 = η1 0 7 := rfl
    have c1_0_6 : η1 0 6 = η 0 6 := v5
    have c1_0_8 : η1 0 8 = η1 0 8 := rfl
    have bx6 : (0 : Int) ≤ x6 ∧ x6 ≤ 1 := k6.1.2.1
    have w2_0_7 : (0 : Int) ≤ η2 0 7 ∧ η2 0 7 ≤ 700 := wf_ok (a := 7) (b := 7) (z := (0, 700)) k6.1.1 (by decide +kernel) (Nat.le_refl _) (Nat.le_refl _)
    have d2_0_7 : η2 0 7 = η2 0 7 := rfl
    have v10 : zEq (η2 0 6) (η 0 6) := (k6.1.2.2.2.1 0 6 (by decide +kernel)).trans v5
    have d2_0_6 : η2 0 6 = η 0 6 := v10
    have w2_0_8 : (0 : Int) ≤ η2 0 8 ∧ η2 0 8 ≤ 6 := wf_ok (a := 8) (b := 8) (z := (0, 6)) k6.1.1 (by decide +kernel) (Nat.le_refl _) (Nat.le_refl _)
    have d2_0_8 : η2 0 8 = η2 0 8 := rfl
    have v12 : zEq (η2 0 17) (η 0 17) := (k6.1.2.2.2.1 0 17 (by decide +kernel)).trans v7
    replace e7 : x7 = η 0 17 := e7.trans v12
    replace e8 : x8 = η2 0 11 := e8
    replace r8 : -2147483648 ≤ x8 ∧ x8 ≤ 2147483647 := r8
    have c2_0_7 : η2 0 7 = η2 0 7 := rfl
    have c2_0_6 : η2 0 6 = η 0 6 := v10
    have c2_0_8 : η2 0 8 = η2 0 8 := rfl
    have bx9 : ((-1) : Int) ≤ x9 ∧ x9 ≤ 3 := k9.1.2.1
    have v14 : zEq (η3 0 7) (η2 0 7) := (k9.1.2.2.2.1 0 7 (by decide +kernel)).trans rfl
    have d3_0_7 : η3 0 7 = η2 0 7 := v14
    have v15 : zEq (η3 0 6) (η 0 6) := (k9.1.2.2.2.1 0 6 (by decide +kernel)).trans v10
    have d3_0_6 : η3 0 6 = η 0 6 := v15
    have v16 : zEq (η3 0 8) (η2 0 8) := (k9.1.2.2.2.1 0 8 (by decide +kernel)).trans rfl
    have d3_0_8 : η3 0 8 = η2 0 8 := v16
    have v17 : zEq (η3 0 11) (η2 0 11) := (k9.1.2.2.2.1 0 11 (by decide +kernel)).trans rfl
    replace e10 : x10 = η2 0 11 := e10.trans v17
    replace r10 : -2147483648 ≤ x10 ∧ x10 ≤ 2147483647 := r10
    have v18 : zEq (η4 0 7) (η2 0 7) := by rw [eη4]; exact (zup_ne (fun e _ => absurd e (by decide))).trans v14
    have c4_0_7 : η4 0 7 = η2 0 7 := v18
    have v19 : zEq (η4 0 6) (η 0 6) := by rw [eη4]; exact (zup_ne (fun e _ => absurd e (by decide))).trans v15
    have c4_0_6 : η4 0 6 = η 0 6 := v19
    have v20 : zEq (η4 0 8) (η2 0 8) := by rw [eη4]; exact (zup_ne (fun e _ => absurd e (by decide))).trans v16
    have c4_0_8 : η4 0 8 = η2 0 8 := v20
    have bx11 : (0 : Int) ≤ x11 ∧ x11 ≤ 1 := k11.1.2.1
    have w5_0_7 : (0 : Int) ≤ η5 0 7 ∧ η5 0 7 ≤ 700 := wf_ok (a := 7) (b := 7) (z := (0, 700)) k11.1.1 (by decide +kernel) (Nat.le_refl _) (Nat.le_refl _)
    have d5_0_7 : η5 0 7 = η5 0 7 := rfl
    have v22 : zEq (η5 0 6) (η 0 6) := (k11.1.2.2.2.1 0 6 (by decide +kernel)).trans v19
    have d5_0_6 : η5 0 6 = η 0 6 := v22
    have w5_0_8 : (0 : Int) ≤ η5 0 8 ∧ η5 0 8 ≤ 6 := wf_ok (a := 8) (b := 8) (z := (0, 6)) k11.1.1 (by decide +kernel) (Nat.le_refl _) (Nat.le_refl _)
    have d5_0_8 : η5 0 8 = η5 0 8 := rfl
    have f0_7 : η5 0 7 = η5 0 7 := rfl
    have f0_6 : η5 0 6 = η 0 6 := v22
    have f0_8 : η5 0 8 = η5 0 8 := rfl
    have qt2 : ¬ η 0 8 = 0 → 10 * (η1 0 6 - η1 0 7) + η1 0 8 < 10 * (η 0 6 - η 0 7) + η 0 8 := k2.2.2
    have qn6 : ¬ x6 = 0 → 10 * (η2 0 6 - η2 0 7) + η2 0 8 < 10 * (η1 0 6 - η1 0 7) + η1 0 8 := k6.2.2
    have g4 : G_n η4 := by rw [eη4]; exact zGk_up gk_n k9.2 (by decide +kernel)
    have qn11 : ¬ x11 = 0 → 10 * (η5 0 6 - η5 0 7) + η5 0 8 < 10 * (η4 0 6 - η4 0 7) + η4 0 8 := k11.2.2
    exact ⟨k11.2.1, fun w => absurd (show (0 : Int) = 0 by apply Int.le_antisymm <;> omega) w⟩
  · have e1 : x1 = η 0 17 := e1
    have b2 : η1 = (yq_tok η) := y2
    have e3 : x3 = η1 0 17 := e3
    have e4 : x4 = zd 0 1 4 x3 := e4
    have e5 : x5 = η1 0 10 := e5
    obtain ⟨a6, b6⟩ : x6 = (yq_ny 0 11 η1) ∧ η2 = (yq_ns 0 11 η1) := y6
    have e7 : x7 = η2 0 17 := e7
    have e8 : x8 = η2 0 11 := e8
    obtain ⟨a9, b9⟩ : x9 = (yp_fd (fun k => η2 7 (4 + k)) x8 (Int.toNat x7) (Int.toNat x7)) ∧ η2 = η3 := ⟨y9.1, y9.2.symm⟩
    subst b9
    have e10 : x10 = η2 0 11 := e10
    have f10 : x8 = x10 := e8.trans e10.symm
    subst f10
    have eη4 : η4 = zup η2 7 (Int.toNat x4) x8 := eη4
    obtain ⟨a11, b11⟩ : x11 = (yq_ny 0 100 η4) ∧ η5 = (yq_ns 0 100 η4) := y11
    show 0 = (yq_scl η).1 ∧ η5 = (yq_scl η).2
    simp only [yq_scl, yq_sc2, yq_sc3, yq_sc4, yq_sc5, yq_nt, yq_no, yq_inc, ← e1, ← b2, ← e3, ← e4, ← e5, ← a6, ← b6, ← e7, ← e8, ← a9, ← eη4, ← a11, ← b11]
    all_goals clear e4
    all_goals ((repeat' split) <;> first | (exfalso; omega) | exact ⟨rfl, rfl⟩ | rfl)
set_option maxHeartbeats 8000000 in
theorem zne_scratLine_o12 {ro : Nat → List Int32} (η : zE) (hp : sP wl_ne zTr zPne_scratLine [] η) (hpp : pPne_scratLine [] η) : ∀ x1 : Int, x1 = η 0 (Int.toNat 17) → zok 0 x1 → (¬ x1 = 4) → ∀ (x2 : Int) (η1 : zE), ((gC2 wl_ne [(nat_lit 0, zPne_wrong, zOne_wrong, zMne_wrong), (nat_lit 1, zPne_token, zOne_token, zMne_token), (nat_lit 2, zPne_number, zOne_number, zMne_number), (nat_lit 3, zPne_find_s, zOne_find_s, zMne_find_s)] pCne_scratLine qCne_scratLine) 1).2 [] η x2 η1 → ∀ x3 : Int, x3 = η1 0 (Int.toNat 17) → zok 0 x3 → ∀ x4 : Int, x4 = zd 0 1 4 x3 → ∀ x5 : Int, x5 = η1 0 (Int.toNat 10) → zok 0 x5 → ∀ (x6 : Int) (η2 : zE), ((gC2 wl_ne [(nat_lit 0, zPne_wrong, zOne_wrong, zMne_wrong), (nat_lit 1, zPne_token, zOne_token, zMne_token), (nat_lit 2, zPne_number, zOne_number, zMne_number), (nat_lit 3, zPne_find_s, zOne_find_s, zMne_find_s)] pCne_scratLine qCne_scratLine) 2).2 [0, 11] η1 x6 η2 → (¬ x6 = 0) → ∀ x7 : Int, x7 = η2 0 (Int.toNat 17) → zok 0 x7 → ∀ x8 : Int, x8 = η2 0 (Int.toNat 11) → zok 0 x8 → ∀ (x9 : Int) (η3 : zE), ((gC2 wl_ne [(nat_lit 0, zPne_wrong, zOne_wrong, zMne_wrong), (nat_lit 1, zPne_token, zOne_token, zMne_token), (nat_lit 2, zPne_number, zOne_number, zMne_number), (nat_lit 3, zPne_find_s, zOne_find_s, zMne_find_s)] pCne_scratLine qCne_scratLine) 3).2 [x7, x8] η2 x9 η3 → (0 ≤ x9) → ∀ η4 : zE, η4 = zup η3 0 (Int.toNat 10) x5 → ((gC2 wl_ne [(nat_lit 0, zPne_wrong, zOne_wrong, zMne_wrong), (nat_lit 1, zPne_token, zOne_token, zMne_token), (nat_lit 2, zPne_number, zOne_number, zMne_number), (nat_lit 3, zPne_find_s, zOne_find_s, zMne_find_s)] pCne_scratLine qCne_scratLine) 0).1 [3] η4 := by
  intro x1 e1 r1 c1 x2 η1 h2 x3 e3 r3 x4 e4 x5 e5 r5 x6 η2 h6 c2 x7 e7 r7 x8 e8 r8 x9 η3 h9 c3 η4 eη4
  have y2 : fQne_token [] η x2 η1 := h2.2.2
  have k2 : sQ wl_ne zTr zOne_token zMne_token [] η x2 η1 ∧ oQne_token [] η x2 η1 := ⟨h2.1, h2.2.1⟩
  have y6 : fQne_number [0, 11] η1 x6 η2 := h6.2.2
  have k6 : sQ wl_ne zTr zOne_number zMne_number [0, 11] η1 x6 η2 ∧ oQne_number [0, 11] η1 x6 η2 := ⟨h6.1, h6.2.1⟩
  have y9 : fQne_find_s [x7, x8] η2 x9 η3 := h9.2.2
  have k9 : sQ wl_ne zTr zOne_find_s zMne_find_s [x7, x8] η2 x9 η3 ∧ oQne_find_s [x7, x8] η2 x9 η3 := ⟨h9.1, h9.2.1⟩
  have g1 : G_ne η4 := by rw [eη4]; exact zGk_upc gk_ne k9.2 (by decide +kernel)
  exact g1
set_option maxHeartbeats 8000000 in
theorem zne_scratLine_o13 {ro : Nat → List Int32} (η : zE) (hp : sP wl_ne zTr zPne_scratLine [] η) (hpp : pPne_scratLine [] η) : ∀ x1 : Int, x1 = η 0 (Int.toNat 17) → zok 0 x1 → (¬ x1 = 4) → ∀ (x2 : Int) (η1 : zE), ((gC2 wl_ne [(nat_lit 0, zPne_wrong, zOne_wrong, zMne_wrong), (nat_lit 1, zPne_token, zOne_token, zMne_token), (nat_lit 2, zPne_number, zOne_number, zMne_number), (nat_lit 3, zPne_find_s, zOne_find_s, zMne_find_s)] pCne_scratLine qCne_scratLine) 1).2 [] η x2 η1 → ∀ x3 : Int, x3 = η1 0 (Int.toNat 17) → zok 0 x3 → ∀ x4 : Int, x4 = zd 0 1 4 x3 → ∀ x5 : Int, x5 = η1 0 (Int.toNat 10) → zok 0 x5 → ∀ (x6 : Int) (η2 : zE), ((gC2 wl_ne [(nat_lit 0, zPne_wrong, zOne_wrong, zMne_wrong), (nat_lit 1, zPne_token, zOne_token, zMne_token), (nat_lit 2, zPne_number, zOne_number, zMne_number), (nat_lit 3, zPne_find_s, zOne_find_s, zMne_find_s)] pCne_scratLine qCne_scratLine) 2).2 [0, 11] η1 x6 η2 → (¬ x6 = 0) → ∀ x7 : Int, x7 = η2 0 (Int.toNat 17) → zok 0 x7 → ∀ x8 : Int, x8 = η2 0 (Int.toNat 11) → zok 0 x8 → ∀ (x9 : Int) (η3 : zE), ((gC2 wl_ne [(nat_lit 0, zPne_wrong, zOne_wrong, zMne_wrong), (nat_lit 1, zPne_token, zOne_token, zMne_token), (nat_lit 2, zPne_number, zOne_number, zMne_number), (nat_lit 3, zPne_find_s, zOne_find_s, zMne_find_s)] pCne_scratLine qCne_scratLine) 3).2 [x7, x8] η2 x9 η3 → (0 ≤ x9) → ∀ η4 : zE, η4 = zup η3 0 (Int.toNat 10) x5 → ∀ (x10 : Int) (η5 : zE), ((gC2 wl_ne [(nat_lit 0, zPne_wrong, zOne_wrong, zMne_wrong), (nat_lit 1, zPne_token, zOne_token, zMne_token), (nat_lit 2, zPne_number, zOne_number, zMne_number), (nat_lit 3, zPne_find_s, zOne_find_s, zMne_find_s)] pCne_scratLine qCne_scratLine) 0).2 [3] η4 x10 η5 → (fun (_ : Nat) (y : Int) (η' : zE) => pQne_scratLine [] η y η') 0 x10 η5 := by
  intro x1 e1 r1 c1 x2 η1 h2 x3 e3 r3 x4 e4 x5 e5 r5 x6 η2 h6 c2 x7 e7 r7 x8 e8 r8 x9 η3 h9 c3 η4 eη4 x10 η5 h10
  have y2 : fQne_token [] η x2 η1 := h2.2.2
  have k2 : sQ wl_ne zTr zOne_token zMne_token [] η x2 η1 ∧ oQne_token [] η x2 η1 := ⟨h2.1, h2.2.1⟩
  have y6 : fQne_number [0, 11] η1 x6 η2 := h6.2.2
  have k6 : sQ wl_ne zTr zOne_number zMne_number [0, 11] η1 x6 η2 ∧ oQne_number [0, 11] η1 x6 η2 := ⟨h6.1, h6.2.1⟩
  have y9 : fQne_find_s [x7, x8] η2 x9 η3 := h9.2.2
  have k9 : sQ wl_ne zTr zOne_find_s zMne_find_s [x7, x8] η2 x9 η3 ∧ oQne_find_s [x7, x8] η2 x9 η3 := ⟨h9.1, h9.2.1⟩
  have y10 : fQne_wrong [3] η4 x10 η5 := h10.2.2
  have k10 : sQ wl_ne zTr zOne_wrong zMne_wrong [3] η4 x10 η5 ∧ oQne_wrong [3] η4 x10 η5 := ⟨h10.1, h10.2.1⟩
  refine yj_a ?_ ?_
  · have hk : ¬ η 0 8 = 0 := hpp.2
    replace e4 := zEq_i e4
    have y2 : fQne_token [] η x2 η1 := h2.2.2
    have k2 : sQ wl_ne zTr zOne_token zMne_token [] η x2 η1 ∧ oQne_token [] η x2 η1 := ⟨h2.1, h2.2.1⟩
    have y6 : fQne_number [0, 11] η1 x6 η2 := h6.2.2
    have k6 : sQ wl_ne zTr zOne_number zMne_number [0, 11] η1 x6 η2 ∧ oQne_number [0, 11] η1 x6 η2 := ⟨h6.1, h6.2.1⟩
    have y9 : fQne_find_s [x7, x8] η2 x9 η3 := h9.2.2
    have k9 : sQ wl_ne zTr zOne_find_s zMne_find_s [x7, x8] η2 x9 η3 ∧ oQne_find_s [x7, x8] η2 x9 η3 := ⟨h9.1, h9.2.1⟩
    have y10 : fQne_wrong [3] η4 x10 η5 := h10.2.2
    have k10 : sQ wl_ne zTr zOne_wrong zMne_wrong [3] η4 x10 η5 ∧ oQne_wrong [3] η4 x10 η5 := ⟨h10.1, h10.2.1⟩
    have w0_0_17 : (0 : Int) ≤ η 0 17 ∧ η 0 17 ≤ 4 := wf_ok (a := 17) (b := 17) (z := (0, 4)) hp.1 (by decide +kernel) (Nat.le_refl _) (Nat.le_refl _)
    replace e1 : x1 = η 0 17 := e1
    have w0_0_7 : (0 : Int) ≤ η 0 7 ∧ η 0 7 ≤ 700 := wf_ok (a := 7) (b := 7) (z := (0, 700)) hp.1 (by decide +kernel) (Nat.le_refl _) (Nat.le_refl _)
    have c0_0_7 : η 0 7 = η 0 7 := rfl
    have w0_0_6 : (0 : Int) ≤ η 0 6 ∧ η 0 6 ≤ 700 := wf_ok (a := 6) (b := 6) (z := (0, 700)) hp.1 (by decide +kernel) (Nat.le_refl _) (Nat.le_refl _)
    have c0_0_6 : η 0 6 = η 0 6 := rfl
    have w0_0_8 : (0 : Int) ≤ η 0 8 ∧ η 0 8 ≤ 6 := wf_ok (a := 8) (b := 8) (z := (0, 6)) hp.1 (by decide +kernel) (Nat.le_refl _) (Nat.le_refl _)
    have c0_0_8 : η 0 8 = η 0 8 := rfl
    have bx2 : (0 : Int) ≤ x2 ∧ x2 ≤ 0 := k2.1.2.1
    have w1_0_7 : (0 : Int) ≤ η1 0 7 ∧ η1 0 7 ≤ 700 := wf_ok (a := 7) (b := 7) (z := (0, 700)) k2.1.1 (by decide +kernel) (Nat.le_refl _) (Nat.le_refl _)
    have d1_0_7 : η1 0 7 = η1 0 7 := rfl
    have v5 : zEq (η1 0 6) (η 0 6) := (k2.1.2.2.2.1 0 6 (by decide +kernel)).trans rfl
    have d1_0_6 : η1 0 6 = η 0 6 := v5
    have w1_0_8 : (0 : Int) ≤ η1 0 8 ∧ η1 0 8 ≤ 6 := wf_ok (a := 8) (b := 8) (z := (0, 6)) k2.1.1 (by decide +kernel) (Nat.le_refl _) (Nat.le_refl _)
    have d1_0_8 : η1 0 8 = η1 0 8 := rfl
    have v7 : zEq (η1 0 17) (η 0 17) := (k2.1.2.2.2.1 0 17 (by decide +kernel)).trans rfl
    replace e3 : x3 = η 0 17 := e3.trans v7
    first
    | replace e4 : x4 = 4 + x3 := zd_a2 (zEq_o e4) (by clear e4; exact ⟨by omega, by omega⟩)
    | clear e4
    have w1_0_10 : (0 : Int) ≤ η1 0 10 ∧ η1 0 10 ≤ 700 := wf_ok (a := 10) (b := 10) (z := (0, 700)) k2.1.1 (by decide +kernel) (Nat.le_refl _) (Nat.le_refl _)
    replace e5 : x5 = η1 0 10 := e5
    have c1_0_7 : η1 0 7 = η1 0 7 := rfl
    have c1_0_6 : η1 0 6 = η 0 6 := v5
    have c1_0_8 : η1 0 8 = η1 0 8 := rfl
    have bx6 : (0 : Int) ≤ x6 ∧ x6 ≤ 1 := k6.1.2.1
    have w2_0_7 : (0 : Int) ≤ η2 0 7 ∧ η2 0 7 ≤ 700 := wf_ok (a := 7) (b := 7) (z := (0, 700)) k6.1.1 (by decide +kernel) (Nat.le_refl _) (Nat.le_refl _)
    have d2_0_7 : η2 0 7 = η2 0 7 := rfl
    have v10 : zEq (η2 0 6) (η 0 6) := (k6.1.2.2.2.1 0 6 (by decide +kernel)).trans v5
    have d2_0_6 : η2 0 6 = η 0 6 := v10
    have w2_0_8 : (0 : Int) ≤ η2 0 8 ∧ η2 0 8 ≤ 6 := wf_ok (a := 8) (b := 8) (z := (0, 6)) k6.1.1 (by decide +kernel) (Nat.le_refl _) (Nat.le_refl _)
    have d2_0_8 : η2 0 8 = η2 0 8 := rfl
    have v12 : zEq (η2 0 17) (η 0 17) := (k6.1.2.2.2.1 0 17 (by decide +kernel)).trans v7
    replace e7 : x7 = η 0 17 := e7.trans v12
    replace e8 : x8 = η2 0 11 := e8
    replace r8 : -2147483648 ≤ x8 ∧ x8 ≤ 2147483647 := r8
    have c2_0_7 : η2 0 7 = η2 0 7 := rfl
    have c2_0_6 : η2 0 6 = η 0 6 := v10
    have c2_0_8 : η2 0 8 = η2 0 8 := rfl
    have bx9 : ((-1) : Int) ≤ x9 ∧ x9 ≤ 3 := k9.1.2.1
    have v14 : zEq (η3 0 7) (η2 0 7) := (k9.1.2.2.2.1 0 7 (by decide +kernel)).trans rfl
    have d3_0_7 : η3 0 7 = η2 0 7 := v14
    have v15 : zEq (η3 0 6) (η 0 6) := (k9.1.2.2.2.1 0 6 (by decide +kernel)).trans v10
    have d3_0_6 : η3 0 6 = η 0 6 := v15
    have v16 : zEq (η3 0 8) (η2 0 8) := (k9.1.2.2.2.1 0 8 (by decide +kernel)).trans rfl
    have d3_0_8 : η3 0 8 = η2 0 8 := v16
    have v17 : zEq (η4 0 7) (η2 0 7) := by rw [eη4]; exact (zup_ne (fun _ e => absurd e (by decide))).trans v14
    have c4_0_7 : η4 0 7 = η2 0 7 := v17
    have v18 : zEq (η4 0 6) (η 0 6) := by rw [eη4]; exact (zup_ne (fun _ e => absurd e (by decide))).trans v15
    have c4_0_6 : η4 0 6 = η 0 6 := v18
    have v19 : zEq (η4 0 8) (η2 0 8) := by rw [eη4]; exact (zup_ne (fun _ e => absurd e (by decide))).trans v16
    have c4_0_8 : η4 0 8 = η2 0 8 := v19
    have bx10 : (0 : Int) ≤ x10 ∧ x10 ≤ 0 := k10.1.2.1
    have v20 : zEq (η5 0 7) (η2 0 7) := (k10.1.2.2.2.1 0 7 (by decide +kernel)).trans v17
    have d5_0_7 : η5 0 7 = η2 0 7 := v20
    have v21 : zEq (η5 0 6) (η 0 6) := (k10.1.2.2.2.1 0 6 (by decide +kernel)).trans v18
    have d5_0_6 : η5 0 6 = η 0 6 := v21
    have v22 : zEq (η5 0 8) (η2 0 8) := (k10.1.2.2.2.1 0 8 (by decide +kernel)).trans v19
    have d5_0_8 : η5 0 8 = η2 0 8 := v22
    have f0_7 : η5 0 7 = η2 0 7 := v20
    have f0_6 : η5 0 6 = η 0 6 := v21
    have f0_8 : η5 0 8 = η2 0 8 := v22
    have qt2 : ¬ η 0 8 = 0 → 10 * (η1 0 6 - η1 0 7) + η1 0 8 < 10 * (η 0 6 - η 0 7) + η 0 8 := k2.2.2
    have qn6 : ¬ x6 = 0 → 10 * (η2 0 6 - η2 0 7) + η2 0 8 < 10 * (η1 0 6 - η1 0 7) + η1 0 8 := k6.2.2
    have g4 : G_n η4 := by rw [eη4]; exact zGk_upc gk_n k9.2 (by decide +kernel)
    exact ⟨k10.2, fun w => absurd (show (x10 : Int) = 0 by apply Int.le_antisymm <;> omega) w⟩
  · have e1 : x1 = η 0 17 := e1
    have b2 : η1 = (yq_tok η) := y2
    have e3 : x3 = η1 0 17 := e3
    have e4 : x4 = zd 0 1 4 x3 := e4
    have e5 : x5 = η1 0 10 := e5
    obtain ⟨a6, b6⟩ : x6 = (yq_ny 0 11 η1) ∧ η2 = (yq_ns 0 11 η1) := y6
    have e7 : x7 = η2 0 17 := e7
    have e8 : x8 = η2 0 11 := e8
    obtain ⟨a9, b9⟩ : x9 = (yp_fd (fun k => η2 7 (4 + k)) x8 (Int.toNat x7) (Int.toNat x7)) ∧ η2 = η3 := ⟨y9.1, y9.2.symm⟩
    subst b9
    have eη4 : η4 = zup η2 0 10 x5 := eη4
    obtain ⟨a10, b10⟩ : x10 = 0 ∧ η5 = (yq_wr 3 η4) := y10
    show x10 = (yq_scl η).1 ∧ η5 = (yq_scl η).2
    simp only [yq_scl, yq_sc2, yq_sc3, yq_sc4, yq_sc5, yq_nt, yq_no, yq_inc, ← e1, ← b2, ← e3, ← e4, ← e5, ← a6, ← b6, ← e7, ← e8, ← a9, ← eη4, ← b10, a10]
    all_goals clear e4
    all_goals ((repeat' split) <;> first | (exfalso; omega) | exact ⟨rfl, rfl⟩ | rfl)
set_option maxHeartbeats 8000000 in
theorem zne_scratLine_o14 {ro : Nat → List Int32} (η : zE) (hp : sP wl_ne zTr zPne_scratLine [] η) (hpp : pPne_scratLine [] η) : ∀ x1 : Int, x1 = η 0 (Int.toNat 17) → zok 0 x1 → (¬ x1 = 4) → ∀ (x2 : Int) (η1 : zE), ((gC2 wl_ne [(nat_lit 0, zPne_wrong, zOne_wrong, zMne_wrong), (nat_lit 1, zPne_token, zOne_token, zMne_token), (nat_lit 2, zPne_number, zOne_number, zMne_number), (nat_lit 3, zPne_find_s, zOne_find_s, zMne_find_s)] pCne_scratLine qCne_scratLine) 1).2 [] η x2 η1 → ∀ x3 : Int, x3 = η1 0 (Int.toNat 17) → zok 0 x3 → ∀ x4 : Int, x4 = zd 0 1 4 x3 → ∀ x5 : Int, x5 = η1 0 (Int.toNat 10) → zok 0 x5 → ∀ (x6 : Int) (η2 : zE), ((gC2 wl_ne [(nat_lit 0, zPne_wrong, zOne_wrong, zMne_wrong), (nat_lit 1, zPne_token, zOne_token, zMne_token), (nat_lit 2, zPne_number, zOne_number, zMne_number), (nat_lit 3, zPne_find_s, zOne_find_s, zMne_find_s)] pCne_scratLine qCne_scratLine) 2).2 [0, 11] η1 x6 η2 → (x6 = 0) → (fun (_ : Nat) (y : Int) (η' : zE) => pQne_scratLine [] η y η') 0 0 η2 := by
  intro x1 e1 r1 c1 x2 η1 h2 x3 e3 r3 x4 e4 x5 e5 r5 x6 η2 h6 c2
  have y2 : fQne_token [] η x2 η1 := h2.2.2
  have k2 : sQ wl_ne zTr zOne_token zMne_token [] η x2 η1 ∧ oQne_token [] η x2 η1 := ⟨h2.1, h2.2.1⟩
  have y6 : fQne_number [0, 11] η1 x6 η2 := h6.2.2
  have k6 : sQ wl_ne zTr zOne_number zMne_number [0, 11] η1 x6 η2 ∧ oQne_number [0, 11] η1 x6 η2 := ⟨h6.1, h6.2.1⟩
  refine yj_a ?_ ?_
  · have hk : ¬ η 0 8 = 0 := hpp.2
    replace e4 := zEq_i e4
    have y2 : fQne_token [] η x2 η1 := h2.2.2
    have k2 : sQ wl_ne zTr zOne_token zMne_token [] η x2 η1 ∧ oQne_token [] η x2 η1 := ⟨h2.1, h2.2.1⟩
    have y6 : fQne_number [0, 11] η1 x6 η2 := h6.2.2
    have k6 : sQ wl_ne zTr zOne_number zMne_number [0, 11] η1 x6 η2 ∧ oQne_number [0, 11] η1 x6 η2 := ⟨h6.1, h6.2.1⟩
    have w0_0_17 : (0 : Int) ≤ η 0 17 ∧ η 0 17 ≤ 4 := wf_ok (a := 17) (b := 17) (z := (0, 4)) hp.1 (by decide +kernel) (Nat.le_refl _) (Nat.le_refl _)
    replace e1 : x1 = η 0 17 := e1
    have w0_0_7 : (0 : Int) ≤ η 0 7 ∧ η 0 7 ≤ 700 := wf_ok (a := 7) (b := 7) (z := (0, 700)) hp.1 (by decide +kernel) (Nat.le_refl _) (Nat.le_refl _)
    have c0_0_7 : η 0 7 = η 0 7 := rfl
    have w0_0_6 : (0 : Int) ≤ η 0 6 ∧ η 0 6 ≤ 700 := wf_ok (a := 6) (b := 6) (z := (0, 700)) hp.1 (by decide +kernel) (Nat.le_refl _) (Nat.le_refl _)
    have c0_0_6 : η 0 6 = η 0 6 := rfl
    have w0_0_8 : (0 : Int) ≤ η 0 8 ∧ η 0 8 ≤ 6 := wf_ok (a := 8) (b := 8) (z := (0, 6)) hp.1 (by decide +kernel) (Nat.le_refl _) (Nat.le_refl _)
    have c0_0_8 : η 0 8 = η 0 8 := rfl
    have bx2 : (0 : Int) ≤ x2 ∧ x2 ≤ 0 := k2.1.2.1
    have w1_0_7 : (0 : Int) ≤ η1 0 7 ∧ η1 0 7 ≤ 700 := wf_ok (a := 7) (b := 7) (z := (0, 700)) k2.1.1 (by decide +kernel) (Nat.le_refl _) (Nat.le_refl _)
    have d1_0_7 : η1 0 7 = η1 0 7 := rfl
    have v5 : zEq (η1 0 6) (η 0 6) := (k2.1.2.2.2.1 0 6 (by decide +kernel)).trans rfl
    have d1_0_6 : η1 0 6 = η 0 6 := v5
    have w1_0_8 : (0 : Int) ≤ η1 0 8 ∧ η1 0 8 ≤ 6 := wf_ok (a := 8) (b := 8) (z := (0, 6)) k2.1.1 (by decide +kernel) (Nat.le_refl _) (Nat.le_refl _)
    have d1_0_8 : η1 0 8 = η1 0 8 := rfl
    have v7 : zEq (η1 0 17) (η 0 17) := (k2.1.2.2.2.1 0 17 (by decide +kernel)).trans rfl
    replace e3 : x3 = η 0 17 := e3.trans v7
    first
    | replace e4 : x4 = 4 + x3 := zd_a2 (zEq_o e4) (by clear e4; exact ⟨by omega, by omega⟩)
    | clear e4
    have w1_0_10 : (0 : Int) ≤ η1 0 10 ∧ η1 0 10 ≤ 700 := wf_ok (a := 10) (b := 10) (z := (0, 700)) k2.1.1 (by decide +kernel) (Nat.le_refl _) (Nat.le_refl _)
    replace e5 : x5 = η1 0 10 := e5
    have c1_0_7 : η1 0 7 = η1 0 7 := rfl
    have c1_0_6 : η1 0 6 = η 0 6 := v5
    have c1_0_8 : η1 0 8 = η1 0 8 := rfl
    have bx6 : (0 : Int) ≤ x6 ∧ x6 ≤ 1 := k6.1.2.1
    have w2_0_7 : (0 : Int) ≤ η2 0 7 ∧ η2 0 7 ≤ 700 := wf_ok (a := 7) (b := 7) (z := (0, 700)) k6.1.1 (by decide +kernel) (Nat.le_refl _) (Nat.le_refl _)
    have d2_0_7 : η2 0 7 = η2 0 7 := rfl
    have v10 : zEq (η2 0 6) (η 0 6) := (k6.1.2.2.2.1 0 6 (by decide +kernel)).trans v5
    have d2_0_6 : η2 0 6 = η 0 6 := v10
    have w2_0_8 : (0 : Int) ≤ η2 0 8 ∧ η2 0 8 ≤ 6 := wf_ok (a := 8) (b := 8) (z := (0, 6)) k6.1.1 (by decide +kernel) (Nat.le_refl _) (Nat.le_refl _)
    have d2_0_8 : η2 0 8 = η2 0 8 := rfl
    have f0_7 : η2 0 7 = η2 0 7 := rfl
    have f0_6 : η2 0 6 = η 0 6 := v10
    have f0_8 : η2 0 8 = η2 0 8 := rfl
    have qt2 : ¬ η 0 8 = 0 → 10 * (η1 0 6 - η1 0 7) + η1 0 8 < 10 * (η 0 6 - η 0 7) + η 0 8 := k2.2.2
    have qn6 : ¬ x6 = 0 → 10 * (η2 0 6 - η2 0 7) + η2 0 8 < 10 * (η1 0 6 - η1 0 7) + η1 0 8 := k6.2.2
    exact ⟨k6.2.1, fun w => absurd (show (0 : Int) = 0 by apply Int.le_antisymm <;> omega) w⟩
  · have e1 : x1 = η 0 17 := e1
    have b2 : η1 = (yq_tok η) := y2
    have e3 : x3 = η1 0 17 := e3
    have e4 : x4 = zd 0 1 4 x3 := e4
    have e5 : x5 = η1 0 10 := e5
    obtain ⟨a6, b6⟩ : x6 = (yq_ny 0 11 η1) ∧ η2 = (yq_ns 0 11 η1) := y6
    show 0 = (yq_scl η).1 ∧ η2 = (yq_scl η).2
    simp only [yq_scl, yq_sc2, yq_sc3, yq_sc4, yq_sc5, yq_nt, yq_no, yq_inc, ← e1, ← b2, ← e3, ← e4, ← e5, ← a6, ← b6]
    all_goals clear e4
    all_goals ((repeat' split) <;> first | (exfalso; omega) | exact ⟨rfl, rfl⟩ | rfl)
set_option maxHeartbeats 8000000 in
theorem zne_scratLine_o15 {ro : Nat → List Int32} (η : zE) (hp : sP wl_ne zTr zPne_scratLine [] η) (hpp : pPne_scratLine [] η) : ∀ x1 : Int, x1 = η 0 (Int.toNat 17) → zok 0 x1 → (x1 = 4) → ((gC2 wl_ne [(nat_lit 0, zPne_wrong, zOne_wrong, zMne_wrong), (nat_lit 1, zPne_token, zOne_token, zMne_token), (nat_lit 2, zPne_number, zOne_number, zMne_number), (nat_lit 3, zPne_find_s, zOne_find_s, zMne_find_s)] pCne_scratLine qCne_scratLine) 0).1 [2] η := by
  have hk : ¬ η 0 8 = 0 := hpp.2
  intro x1 e1 r1 c1
  have w0_0_17 : (0 : Int) ≤ η 0 17 ∧ η 0 17 ≤ 4 := wf_ok (a := 17) (b := 17) (z := (0, 4)) hp.1 (by decide +kernel) (Nat.le_refl _) (Nat.le_refl _)
  replace e1 : x1 = η 0 17 := e1
  have w0_0_7 : (0 : Int) ≤ η 0 7 ∧ η 0 7 ≤ 700 := wf_ok (a := 7) (b := 7) (z := (0, 700)) hp.1 (by decide +kernel) (Nat.le_refl _) (Nat.le_refl _)
  have f0_7 : η 0 7 = η 0 7 := rfl
  have w0_0_6 : (0 : Int) ≤ η 0 6 ∧ η 0 6 ≤ 700 := wf_ok (a := 6) (b := 6) (z := (0, 700)) hp.1 (by decide +kernel) (Nat.le_refl _) (Nat.le_refl _)
  have f0_6 : η 0 6 = η 0 6 := rfl
  have w0_0_8 : (0 : Int) ≤ η 0 8 ∧ η 0 8 ≤ 6 := wf_ok (a := 8) (b := 8) (z := (0, 6)) hp.1 (by decide +kernel) (Nat.le_refl _) (Nat.le_refl _)
  have f0_8 : η 0 8 = η 0 8 := rfl
  exact hpp.1
set_option maxHeartbeats 8000000 in
theorem zne_scratLine_o16 {ro : Nat → List Int32} (η : zE) (hp : sP wl_ne zTr zPne_scratLine [] η) (hpp : pPne_scratLine [] η) : ∀ x1 : Int, x1 = η 0 (Int.toNat 17) → zok 0 x1 → (x1 = 4) → ∀ (x2 : Int) (η1 : zE), ((gC2 wl_ne [(nat_lit 0, zPne_wrong, zOne_wrong, zMne_wrong), (nat_lit 1, zPne_token, zOne_token, zMne_token), (nat_lit 2, zPne_number, zOne_number, zMne_number), (nat_lit 3, zPne_find_s, zOne_find_s, zMne_find_s)] pCne_scratLine qCne_scratLine) 0).2 [2] η x2 η1 → (fun (_ : Nat) (y : Int) (η' : zE) => pQne_scratLine [] η y η') 0 x2 η1 := by
  intro x1 e1 r1 c1 x2 η1 h2
  have y2 : fQne_wrong [2] η x2 η1 := h2.2.2
  have k2 : sQ wl_ne zTr zOne_wrong zMne_wrong [2] η x2 η1 ∧ oQne_wrong [2] η x2 η1 := ⟨h2.1, h2.2.1⟩
  refine yj_a ?_ ?_
  · have hk : ¬ η 0 8 = 0 := hpp.2
    have y2 : fQne_wrong [2] η x2 η1 := h2.2.2
    have k2 : sQ wl_ne zTr zOne_wrong zMne_wrong [2] η x2 η1 ∧ oQne_wrong [2] η x2 η1 := ⟨h2.1, h2.2.1⟩
    have w0_0_17 : (0 : Int) ≤ η 0 17 ∧ η 0 17 ≤ 4 := wf_ok (a := 17) (b := 17) (z := (0, 4)) hp.1 (by decide +kernel) (Nat.le_refl _) (Nat.le_refl _)
    replace e1 : x1 = η 0 17 := e1
    have w0_0_7 : (0 : Int) ≤ η 0 7 ∧ η 0 7 ≤ 700 := wf_ok (a := 7) (b := 7) (z := (0, 700)) hp.1 (by decide +kernel) (Nat.le_refl _) (Nat.le_refl _)
    have c0_0_7 : η 0 7 = η 0 7 := rfl
    have w0_0_6 : (0 : Int) ≤ η 0 6 ∧ η 0 6 ≤ 700 := wf_ok (a := 6) (b := 6) (z := (0, 700)) hp.1 (by decide +kernel) (Nat.le_refl _) (Nat.le_refl _)
    have c0_0_6 : η 0 6 = η 0 6 := rfl
    have w0_0_8 : (0 : Int) ≤ η 0 8 ∧ η 0 8 ≤ 6 := wf_ok (a := 8) (b := 8) (z := (0, 6)) hp.1 (by decide +kernel) (Nat.le_refl _) (Nat.le_refl _)
    have c0_0_8 : η 0 8 = η 0 8 := rfl
    have bx2 : (0 : Int) ≤ x2 ∧ x2 ≤ 0 := k2.1.2.1
    have v4 : zEq (η1 0 7) (η 0 7) := (k2.1.2.2.2.1 0 7 (by decide +kernel)).trans rfl
    have d1_0_7 : η1 0 7 = η 0 7 := v4
    have v5 : zEq (η1 0 6) (η 0 6) := (k2.1.2.2.2.1 0 6 (by decide +kernel)).trans rfl
    have d1_0_6 : η1 0 6 = η 0 6 := v5
    have v6 : zEq (η1 0 8) (η 0 8) := (k2.1.2.2.2.1 0 8 (by decide +kernel)).trans rfl
    have d1_0_8 : η1 0 8 = η 0 8 := v6
    have f0_7 : η1 0 7 = η 0 7 := v4
    have f0_6 : η1 0 6 = η 0 6 := v5
    have f0_8 : η1 0 8 = η 0 8 := v6
    exact ⟨k2.2, fun w => absurd (show (x2 : Int) = 0 by apply Int.le_antisymm <;> omega) w⟩
  · have e1 : x1 = η 0 17 := e1
    obtain ⟨a2, b2⟩ : x2 = 0 ∧ η1 = (yq_wr 2 η) := y2
    show x2 = (yq_scl η).1 ∧ η1 = (yq_scl η).2
    simp only [yq_scl, yq_sc2, yq_sc3, yq_sc4, yq_sc5, yq_nt, yq_no, yq_inc, ← e1, ← b2, a2]
    all_goals ((repeat' split) <;> first | (exfalso; omega) | exact ⟨rfl, rfl⟩ | rfl)
set_option maxHeartbeats 8000000 in
theorem zne_scratLine {ro : Nat → List Int32} : zMet pr_P pr_K pr_df ro (sm_X0 1 6) 3 133 tm_ne [(.inr (.inr (.inl (nat_lit 0))))] 2 [(nat_lit 0, nat_lit 0, nat_lit 1), (nat_lit 0, nat_lit 3, nat_lit 2), (nat_lit 0, nat_lit 20, nat_lit 3), (nat_lit 0, nat_lit 21, nat_lit 4), (nat_lit 0, nat_lit 22, nat_lit 5), (nat_lit 0, nat_lit 23, nat_lit 6), (nat_lit 0, nat_lit 24, nat_lit 7), (nat_lit 0, nat_lit 25, nat_lit 8), (nat_lit 0, nat_lit 26, nat_lit 9), (nat_lit 0, nat_lit 27, nat_lit 10), (nat_lit 0, nat_lit 28, nat_lit 11), (nat_lit 0, nat_lit 29, nat_lit 12), (nat_lit 0, nat_lit 30, nat_lit 13), (nat_lit 0, nat_lit 31, nat_lit 14), (nat_lit 0, nat_lit 32, nat_lit 15), (nat_lit 0, nat_lit 33, nat_lit 16), (nat_lit 0, nat_lit 34, nat_lit 17), (nat_lit 0, nat_lit 35, nat_lit 18), (nat_lit 0, nat_lit 36, nat_lit 19), (nat_lit 0, nat_lit 37, nat_lit 20), (nat_lit 0, nat_lit 38, nat_lit 21), (nat_lit 0, nat_lit 39, nat_lit 22), (nat_lit 0, nat_lit 40, nat_lit 23), (nat_lit 0, nat_lit 47, nat_lit 24), (nat_lit 0, nat_lit 48, nat_lit 25), (nat_lit 0, nat_lit 50, nat_lit 26), (nat_lit 0, nat_lit 51, nat_lit 27), (nat_lit 0, nat_lit 52, nat_lit 28), (nat_lit 0, nat_lit 53, nat_lit 29), (nat_lit 0, nat_lit 54, nat_lit 30), (nat_lit 0, nat_lit 55, nat_lit 31), (nat_lit 0, nat_lit 56, nat_lit 32), (nat_lit 0, nat_lit 57, nat_lit 33), (nat_lit 0, nat_lit 58, nat_lit 34), (nat_lit 0, nat_lit 59, nat_lit 35), (nat_lit 0, nat_lit 72, nat_lit 36), (nat_lit 0, nat_lit 73, nat_lit 37), (nat_lit 0, nat_lit 76, nat_lit 38), (nat_lit 0, nat_lit 77, nat_lit 39), (nat_lit 0, nat_lit 79, nat_lit 40), (nat_lit 0, nat_lit 81, nat_lit 41), (nat_lit 0, nat_lit 82, nat_lit 42)] [] (fun xs η => sP wl_ne zTr zPne_scratLine xs η ∧ pPne_scratLine xs η) (fun xs η y η' => sQ wl_ne zTr zOne_scratLine zMne_scratLine xs η y η' ∧ pQne_scratLine xs η y η') :=
  zmet_alt (zmea_gen (mi := (nat_lit 0, nat_lit 1, nat_lit 8, nat_lit 3, nat_lit 2, tX8_scratLine)) (cd := [(nat_lit 118, nat_lit 0, nat_lit 0, [(.inr (.inr (.inl (nat_lit 0)))), (.inl (nat_lit 1, (.ofNat (nat_lit 0))))], nat_lit 2, [(nat_lit 0, nat_lit 0, nat_lit 1), (nat_lit 0, nat_lit 3, nat_lit 2), (nat_lit 0, nat_lit 20, nat_lit 3), (nat_lit 0, nat_lit 21, nat_lit 4), (nat_lit 0, nat_lit 22, nat_lit 5), (nat_lit 0, nat_lit 23, nat_lit 6), (nat_lit 0, nat_lit 24, nat_lit 7), (nat_lit 0, nat_lit 25, nat_lit 8), (nat_lit 0, nat_lit 26, nat_lit 9), (nat_lit 0, nat_lit 27, nat_lit 10), (nat_lit 0, nat_lit 28, nat_lit 11), (nat_lit 0, nat_lit 29, nat_lit 12), (nat_lit 0, nat_lit 30, nat_lit 13), (nat_lit 0, nat_lit 31, nat_lit 14), (nat_lit 0, nat_lit 32, nat_lit 15), (nat_lit 0, nat_lit 33, nat_lit 16), (nat_lit 0, nat_lit 34, nat_lit 17), (nat_lit 0, nat_lit 35, nat_lit 18), (nat_lit 0, nat_lit 36, nat_lit 19), (nat_lit 0, nat_lit 37, nat_lit 20), (nat_lit 0, nat_lit 38, nat_lit 21), (nat_lit 0, nat_lit 39, nat_lit 22), (nat_lit 0, nat_lit 40, nat_lit 23), (nat_lit 0, nat_lit 47, nat_lit 24), (nat_lit 0, nat_lit 48, nat_lit 25), (nat_lit 0, nat_lit 50, nat_lit 26), (nat_lit 0, nat_lit 51, nat_lit 27), (nat_lit 0, nat_lit 52, nat_lit 28), (nat_lit 0, nat_lit 53, nat_lit 29), (nat_lit 0, nat_lit 54, nat_lit 30), (nat_lit 0, nat_lit 55, nat_lit 31), (nat_lit 0, nat_lit 56, nat_lit 32), (nat_lit 0, nat_lit 57, nat_lit 33), (nat_lit 0, nat_lit 58, nat_lit 34), (nat_lit 0, nat_lit 59, nat_lit 35), (nat_lit 0, nat_lit 72, nat_lit 36), (nat_lit 0, nat_lit 73, nat_lit 37), (nat_lit 0, nat_lit 76, nat_lit 38), (nat_lit 0, nat_lit 77, nat_lit 39), (nat_lit 0, nat_lit 79, nat_lit 40), (nat_lit 0, nat_lit 81, nat_lit 41), (nat_lit 0, nat_lit 82, nat_lit 42)], []), (nat_lit 122, nat_lit 1, nat_lit 1, [(.inr (.inr (.inl (nat_lit 0))))], nat_lit 0, [(nat_lit 0, nat_lit 0, nat_lit 1), (nat_lit 0, nat_lit 3, nat_lit 2), (nat_lit 0, nat_lit 20, nat_lit 3), (nat_lit 0, nat_lit 21, nat_lit 4), (nat_lit 0, nat_lit 22, nat_lit 5), (nat_lit 0, nat_lit 23, nat_lit 6), (nat_lit 0, nat_lit 24, nat_lit 7), (nat_lit 0, nat_lit 25, nat_lit 8), (nat_lit 0, nat_lit 26, nat_lit 9), (nat_lit 0, nat_lit 27, nat_lit 10), (nat_lit 0, nat_lit 28, nat_lit 11), (nat_lit 0, nat_lit 29, nat_lit 12), (nat_lit 0, nat_lit 30, nat_lit 13), (nat_lit 0, nat_lit 31, nat_lit 14), (nat_lit 0, nat_lit 32, nat_lit 15), (nat_lit 0, nat_lit 33, nat_lit 16), (nat_lit 0, nat_lit 34, nat_lit 17), (nat_lit 0, nat_lit 35, nat_lit 18), (nat_lit 0, nat_lit 36, nat_lit 19), (nat_lit 0, nat_lit 37, nat_lit 20), (nat_lit 0, nat_lit 38, nat_lit 21), (nat_lit 0, nat_lit 39, nat_lit 22), (nat_lit 0, nat_lit 40, nat_lit 23), (nat_lit 0, nat_lit 47, nat_lit 24), (nat_lit 0, nat_lit 48, nat_lit 25), (nat_lit 0, nat_lit 50, nat_lit 26), (nat_lit 0, nat_lit 51, nat_lit 27), (nat_lit 0, nat_lit 52, nat_lit 28), (nat_lit 0, nat_lit 53, nat_lit 29), (nat_lit 0, nat_lit 54, nat_lit 30), (nat_lit 0, nat_lit 55, nat_lit 31), (nat_lit 0, nat_lit 56, nat_lit 32), (nat_lit 0, nat_lit 57, nat_lit 33), (nat_lit 0, nat_lit 58, nat_lit 34), (nat_lit 0, nat_lit 59, nat_lit 35), (nat_lit 0, nat_lit 72, nat_lit 36), (nat_lit 0, nat_lit 73, nat_lit 37), (nat_lit 0, nat_lit 76, nat_lit 38), (nat_lit 0, nat_lit 77, nat_lit 39), (nat_lit 0, nat_lit 79, nat_lit 40), (nat_lit 0, nat_lit 81, nat_lit 41), (nat_lit 0, nat_lit 82, nat_lit 42)], []), (nat_lit 127, nat_lit 2, nat_lit 2, [(.inr (.inr (.inl (nat_lit 0)))), (.inl (nat_lit 1, (.ofNat (nat_lit 0)))), (.inl (nat_lit 2, (.ofNat (nat_lit 0))))], nat_lit 2, [(nat_lit 0, nat_lit 0, nat_lit 1), (nat_lit 0, nat_lit 3, nat_lit 2), (nat_lit 0, nat_lit 20, nat_lit 3), (nat_lit 0, nat_lit 21, nat_lit 4), (nat_lit 0, nat_lit 22, nat_lit 5), (nat_lit 0, nat_lit 23, nat_lit 6), (nat_lit 0, nat_lit 24, nat_lit 7), (nat_lit 0, nat_lit 25, nat_lit 8), (nat_lit 0, nat_lit 26, nat_lit 9), (nat_lit 0, nat_lit 27, nat_lit 10), (nat_lit 0, nat_lit 28, nat_lit 11), (nat_lit 0, nat_lit 29, nat_lit 12), (nat_lit 0, nat_lit 30, nat_lit 13), (nat_lit 0, nat_lit 31, nat_lit 14), (nat_lit 0, nat_lit 32, nat_lit 15), (nat_lit 0, nat_lit 33, nat_lit 16), (nat_lit 0, nat_lit 34, nat_lit 17), (nat_lit 0, nat_lit 35, nat_lit 18), (nat_lit 0, nat_lit 36, nat_lit 19), (nat_lit 0, nat_lit 37, nat_lit 20), (nat_lit 0, nat_lit 38, nat_lit 21), (nat_lit 0, nat_lit 39, nat_lit 22), (nat_lit 0, nat_lit 40, nat_lit 23), (nat_lit 0, nat_lit 47, nat_lit 24), (nat_lit 0, nat_lit 48, nat_lit 25), (nat_lit 0, nat_lit 50, nat_lit 26), (nat_lit 0, nat_lit 51, nat_lit 27), (nat_lit 0, nat_lit 52, nat_lit 28), (nat_lit 0, nat_lit 53, nat_lit 29), (nat_lit 0, nat_lit 54, nat_lit 30), (nat_lit 0, nat_lit 55, nat_lit 31), (nat_lit 0, nat_lit 56, nat_lit 32), (nat_lit 0, nat_lit 57, nat_lit 33), (nat_lit 0, nat_lit 58, nat_lit 34), (nat_lit 0, nat_lit 59, nat_lit 35), (nat_lit 0, nat_lit 72, nat_lit 36), (nat_lit 0, nat_lit 73, nat_lit 37), (nat_lit 0, nat_lit 76, nat_lit 38), (nat_lit 0, nat_lit 77, nat_lit 39), (nat_lit 0, nat_lit 79, nat_lit 40), (nat_lit 0, nat_lit 81, nat_lit 41), (nat_lit 0, nat_lit 82, nat_lit 42)], []), (nat_lit 131, nat_lit 3, nat_lit 0, [(.inr (.inr (.inl (nat_lit 7)))), (.inl (nat_lit 0, (.ofNat (nat_lit 4)))), (.inl (nat_lit 1, (.ofNat (nat_lit 0)))), (.inl (nat_lit 2, (.ofNat (nat_lit 0))))], nat_lit 1, [], [])]) (cu := []) (cs := [(nat_lit 0, zPne_wrong, zOne_wrong, zMne_wrong), (nat_lit 1, zPne_token, zOne_token, zMne_token), (nat_lit 2, zPne_number, zOne_number, zMne_number), (nat_lit 3, zPne_find_s, zOne_find_s, zMne_find_s)]) (iv := zVne_scratLine) (po := [zOne_scratLine]) (pr := zPne_scratLine) (mods := zMne_scratLine) (D7 := zDne_scratLine) (D0 := zEne_scratLine) (Dm := zFne_scratLine) (f0 := 95) pCne_scratLine qCne_scratLine iCne_scratLine pPne_scratLine (fun xs η _ y η' => pQne_scratLine xs η y η') zX_low pr_mtR rfl (List.forall_mem_cons.mpr ⟨zne_wrong, List.forall_mem_cons.mpr ⟨zne_token, List.forall_mem_cons.mpr ⟨zne_number, List.forall_mem_cons.mpr ⟨zne_find_s, fun _ h => nomatch h⟩⟩⟩⟩) (by decide +kernel) (by decide +kernel) (by decide +kernel)
    (by
      intro xs η hr hl hp hpp
      match xs, hl, hp, hpp with
      | [], _, hp, hpp =>
        refine List.forall_mem_cons.mpr ⟨?_, List.forall_mem_cons.mpr ⟨?_, List.forall_mem_cons.mpr ⟨?_, List.forall_mem_cons.mpr ⟨?_, List.forall_mem_cons.mpr ⟨?_, List.forall_mem_cons.mpr ⟨?_, List.forall_mem_cons.mpr ⟨?_, List.forall_mem_cons.mpr ⟨?_, List.forall_mem_cons.mpr ⟨?_, List.forall_mem_cons.mpr ⟨?_, List.forall_mem_cons.mpr ⟨?_, List.forall_mem_cons.mpr ⟨?_, List.forall_mem_cons.mpr ⟨?_, List.forall_mem_cons.mpr ⟨?_, List.forall_mem_cons.mpr ⟨?_, List.forall_mem_cons.mpr ⟨?_, List.forall_mem_cons.mpr ⟨?_, fun _ h => nomatch h⟩⟩⟩⟩⟩⟩⟩⟩⟩⟩⟩⟩⟩⟩⟩⟩⟩
        · refine zden_L (n := 1) (ρ := [0]) rfl ?_
          exact zne_scratLine_o0 (ro := ro)  η hp hpp
        · refine zden_L (n := 1) (ρ := [0]) rfl ?_
          exact zne_scratLine_o1 (ro := ro)  η hp hpp
        · refine zden_L (n := 1) (ρ := [0]) rfl ?_
          exact zne_scratLine_o2 (ro := ro)  η hp hpp
        · refine zden_L (n := 1) (ρ := [0]) rfl ?_
          exact zne_scratLine_o3 (ro := ro)  η hp hpp
        · refine zden_L (n := 1) (ρ := [0]) rfl ?_
          exact zne_scratLine_o4 (ro := ro)  η hp hpp
        · refine zden_L (n := 1) (ρ := [0]) rfl ?_
          exact zne_scratLine_o5 (ro := ro)  η hp hpp
        · refine zden_L (n := 1) (ρ := [0]) rfl ?_
          exact zne_scratLine_o6 (ro := ro)  η hp hpp
        · refine zden_L (n := 1) (ρ := [0]) rfl ?_
          exact zne_scratLine_o7 (ro := ro)  η hp hpp
        · refine zden_L (n := 1) (ρ := [0]) rfl ?_
          exact zne_scratLine_o8 (ro := ro)  η hp hpp
        · refine zden_L (n := 1) (ρ := [0]) rfl ?_
          exact zne_scratLine_o9 (ro := ro)  η hp hpp
        · refine zden_L (n := 1) (ρ := [0]) rfl ?_
          exact zne_scratLine_o10 (ro := ro)  η hp hpp
        · refine zden_L (n := 1) (ρ := [0]) rfl ?_
          exact zne_scratLine_o11 (ro := ro)  η hp hpp
        · refine zden_L (n := 1) (ρ := [0]) rfl ?_
          exact zne_scratLine_o12 (ro := ro)  η hp hpp
        · refine zden_L (n := 1) (ρ := [0]) rfl ?_
          exact zne_scratLine_o13 (ro := ro)  η hp hpp
        · refine zden_L (n := 1) (ρ := [0]) rfl ?_
          exact zne_scratLine_o14 (ro := ro)  η hp hpp
        · refine zden_L (n := 1) (ρ := [0]) rfl ?_
          exact zne_scratLine_o15 (ro := ro)  η hp hpp
        · refine zden_L (n := 1) (ρ := [0]) rfl ?_
          exact zne_scratLine_o16 (ro := ro)  η hp hpp
      )
    (fun _ _ _ _ _ _ _ h => nomatch h)
    (fun _ h => nomatch h))
def zPne_guestLine : zPq := ([], [])
def zOne_guestLine : zPo := (((.ofNat (nat_lit 0)), (.ofNat (nat_lit 1))), [], [])
def zMne_guestLine : List zCe := [(nat_lit 0, nat_lit 8), (nat_lit 0, nat_lit 9), (nat_lit 0, nat_lit 10), (nat_lit 0, nat_lit 11), (nat_lit 0, nat_lit 5), (nat_lit 0, nat_lit 6), (nat_lit 0, nat_lit 12), (nat_lit 0, nat_lit 19), (nat_lit 12, nat_lit 0), (nat_lit 13, nat_lit 0), (nat_lit 14, nat_lit 0), (nat_lit 15, nat_lit 0)]
def pPne_guestLine : List Int → zE → Prop := fun _ η => G_n η ∧ ¬ η 0 8 = 0
def oQne_guestLine : List Int → zE → Int → zE → Prop := fun _ η y η' => G_n η' ∧ (¬ y = 0 → 10 * (η' 0 6 - η' 0 7) + η' 0 8 < 10 * (η 0 6 - η 0 7) + η 0 8)
def fQne_guestLine : List Int → zE → Int → zE → Prop := fun xs η y η' => y = (yq_gul η).1 ∧ η' = (yq_gul η).2
def pQne_guestLine : List Int → zE → Int → zE → Prop := fun xs η y η' => oQne_guestLine xs η y η' ∧ fQne_guestLine xs η y η'
def pCne_guestLine : Nat → List Int → zE → Prop := fun c => match c with
  | 0 => pPne_wrong
  | 1 => pPne_token
  | 2 => pPne_number
  | 3 => pPne_find_g
  | _ => fun _ _ => True
def qCne_guestLine : Nat → List Int → zE → Int → zE → Prop := fun c => match c with
  | 0 => pQne_wrong
  | 1 => pQne_token
  | 2 => pQne_number
  | 3 => pQne_find_g
  | _ => fun _ _ _ _ => True
def iCne_guestLine : List Int → zE → Nat → List Int → zE → Prop := fun xs η0 c => match c with
  | _ => fun _ _ => True
def zVne_guestLine : List zIv := []
def zDne_guestLine : List (List zK) := [[(nat_lit 7, nat_lit 0, [(nat_lit 8, (.ofNat (nat_lit 0))), (nat_lit 0, (.ofNat (nat_lit 8)))]), (nat_lit 4, nat_lit 0, [(nat_lit 0, (.ofNat (nat_lit 0))), (nat_lit 0, (.ofNat (nat_lit 9)))]), (nat_lit 0, nat_lit 1, [(nat_lit 0, (.ofNat (nat_lit 4))), (nat_lit 7, (.ofNat (nat_lit 0)))]), (nat_lit 4, nat_lit 0, [(nat_lit 0, (.ofNat (nat_lit 0))), (nat_lit 0, (.ofNat (nat_lit 18)))]), (nat_lit 6, nat_lit 2, [(nat_lit 6, (.ofNat (nat_lit 0))), (nat_lit 0, (.ofNat (nat_lit 0)))]), (nat_lit 8, nat_lit 3, [(nat_lit 4, (.ofNat (nat_lit 0))), (nat_lit 5, (.ofNat (nat_lit 0)))]), (nat_lit 4, nat_lit 0, [(nat_lit 0, (.ofNat (nat_lit 0))), (nat_lit 0, (.ofNat (nat_lit 9)))]), (nat_lit 4, nat_lit 0, [(nat_lit 0, (.ofNat (nat_lit 0))), (nat_lit 0, (.ofNat (nat_lit 18)))]), (nat_lit 6, nat_lit 0, [(nat_lit 3, (.ofNat (nat_lit 0))), (nat_lit 0, (.ofNat (nat_lit 2)))]), (nat_lit 4, nat_lit 0, [(nat_lit 0, (.ofNat (nat_lit 0))), (nat_lit 0, (.ofNat (nat_lit 8)))]), (nat_lit 8, nat_lit 1, []), (nat_lit 6, nat_lit 1, [(nat_lit 1, (.ofNat (nat_lit 0))), (nat_lit 0, (.ofNat (nat_lit 4)))]), (nat_lit 4, nat_lit 0, [(nat_lit 0, (.ofNat (nat_lit 0))), (nat_lit 0, (.ofNat (nat_lit 18)))])],
  [(nat_lit 7, nat_lit 0, [(nat_lit 8, (.ofNat (nat_lit 0))), (nat_lit 0, (.ofNat (nat_lit 8)))]), (nat_lit 4, nat_lit 0, [(nat_lit 0, (.ofNat (nat_lit 0))), (nat_lit 0, (.ofNat (nat_lit 11)))]), (nat_lit 6, nat_lit 1, [(nat_lit 11, (.ofNat (nat_lit 0))), (nat_lit 0, (.ofNat (nat_lit 0)))]), (nat_lit 8, nat_lit 2, [(nat_lit 0, (.ofNat (nat_lit 1))), (nat_lit 0, (.ofNat (nat_lit 9)))]), (nat_lit 8, nat_lit 1, []), (nat_lit 5, nat_lit 0, [(nat_lit 12, (.ofNat (nat_lit 0))), (nat_lit 8, (.ofNat (nat_lit 0))), (nat_lit 9, (.ofNat (nat_lit 0)))]), (nat_lit 4, nat_lit 0, [(nat_lit 0, (.ofNat (nat_lit 0))), (nat_lit 0, (.ofNat (nat_lit 9)))]), (nat_lit 0, nat_lit 1, [(nat_lit 0, (.ofNat (nat_lit 4))), (nat_lit 7, (.ofNat (nat_lit 0)))]), (nat_lit 4, nat_lit 0, [(nat_lit 0, (.ofNat (nat_lit 0))), (nat_lit 0, (.ofNat (nat_lit 18)))]), (nat_lit 6, nat_lit 2, [(nat_lit 6, (.ofNat (nat_lit 0))), (nat_lit 0, (.ofNat (nat_lit 0)))]), (nat_lit 8, nat_lit 3, [(nat_lit 4, (.ofNat (nat_lit 0))), (nat_lit 5, (.ofNat (nat_lit 0)))]), (nat_lit 4, nat_lit 0, [(nat_lit 0, (.ofNat (nat_lit 0))), (nat_lit 0, (.ofNat (nat_lit 9)))]), (nat_lit 4, nat_lit 0, [(nat_lit 0, (.ofNat (nat_lit 0))), (nat_lit 0, (.ofNat (nat_lit 18)))]), (nat_lit 6, nat_lit 0, [(nat_lit 3, (.ofNat (nat_lit 0))), (nat_lit 0, (.ofNat (nat_lit 2)))]), (nat_lit 4, nat_lit 0, [(nat_lit 0, (.ofNat (nat_lit 0))), (nat_lit 0, (.ofNat (nat_lit 8)))]), (nat_lit 8, nat_lit 1, []), (nat_lit 6, nat_lit 1, [(nat_lit 1, (.ofNat (nat_lit 0))), (nat_lit 0, (.ofNat (nat_lit 4)))]), (nat_lit 4, nat_lit 0, [(nat_lit 0, (.ofNat (nat_lit 0))), (nat_lit 0, (.ofNat (nat_lit 18)))])],
  [(nat_lit 7, nat_lit 0, [(nat_lit 8, (.ofNat (nat_lit 0))), (nat_lit 0, (.ofNat (nat_lit 8)))]), (nat_lit 4, nat_lit 0, [(nat_lit 0, (.ofNat (nat_lit 0))), (nat_lit 0, (.ofNat (nat_lit 11)))]), (nat_lit 6, nat_lit 1, [(nat_lit 13, (.ofNat (nat_lit 0))), (nat_lit 0, (.ofNat (nat_lit 0)))]), (nat_lit 8, nat_lit 2, [(nat_lit 0, (.ofNat (nat_lit 0))), (nat_lit 0, (.ofNat (nat_lit 9)))]), (nat_lit 5, nat_lit 0, [(nat_lit 13, (.ofNat (nat_lit 0))), (nat_lit 8, (.ofNat (nat_lit 0))), (nat_lit 12, (.ofNat (nat_lit 0)))]), (nat_lit 4, nat_lit 0, [(nat_lit 0, (.ofNat (nat_lit 0))), (nat_lit 0, (.ofNat (nat_lit 11)))]), (nat_lit 6, nat_lit 1, [(nat_lit 11, (.ofNat (nat_lit 0))), (nat_lit 0, (.ofNat (nat_lit 0)))]), (nat_lit 8, nat_lit 2, [(nat_lit 0, (.ofNat (nat_lit 1))), (nat_lit 0, (.ofNat (nat_lit 9)))]), (nat_lit 8, nat_lit 1, []), (nat_lit 5, nat_lit 0, [(nat_lit 12, (.ofNat (nat_lit 0))), (nat_lit 8, (.ofNat (nat_lit 0))), (nat_lit 9, (.ofNat (nat_lit 0)))]), (nat_lit 4, nat_lit 0, [(nat_lit 0, (.ofNat (nat_lit 0))), (nat_lit 0, (.ofNat (nat_lit 9)))]), (nat_lit 0, nat_lit 1, [(nat_lit 0, (.ofNat (nat_lit 4))), (nat_lit 7, (.ofNat (nat_lit 0)))]), (nat_lit 4, nat_lit 0, [(nat_lit 0, (.ofNat (nat_lit 0))), (nat_lit 0, (.ofNat (nat_lit 18)))]), (nat_lit 6, nat_lit 2, [(nat_lit 6, (.ofNat (nat_lit 0))), (nat_lit 0, (.ofNat (nat_lit 0)))]), (nat_lit 8, nat_lit 3, [(nat_lit 4, (.ofNat (nat_lit 0))), (nat_lit 5, (.ofNat (nat_lit 0)))]), (nat_lit 4, nat_lit 0, [(nat_lit 0, (.ofNat (nat_lit 0))), (nat_lit 0, (.ofNat (nat_lit 9)))]), (nat_lit 4, nat_lit 0, [(nat_lit 0, (.ofNat (nat_lit 0))), (nat_lit 0, (.ofNat (nat_lit 18)))]), (nat_lit 6, nat_lit 0, [(nat_lit 3, (.ofNat (nat_lit 0))), (nat_lit 0, (.ofNat (nat_lit 2)))]), (nat_lit 4, nat_lit 0, [(nat_lit 0, (.ofNat (nat_lit 0))), (nat_lit 0, (.ofNat (nat_lit 8)))]), (nat_lit 8, nat_lit 1, []), (nat_lit 6, nat_lit 1, [(nat_lit 1, (.ofNat (nat_lit 0))), (nat_lit 0, (.ofNat (nat_lit 4)))]), (nat_lit 4, nat_lit 0, [(nat_lit 0, (.ofNat (nat_lit 0))), (nat_lit 0, (.ofNat (nat_lit 18)))])],
  [(nat_lit 7, nat_lit 0, [(nat_lit 8, (.ofNat (nat_lit 0))), (nat_lit 0, (.ofNat (nat_lit 8)))]), (nat_lit 4, nat_lit 0, [(nat_lit 0, (.ofNat (nat_lit 0))), (nat_lit 0, (.ofNat (nat_lit 11)))]), (nat_lit 6, nat_lit 1, [(nat_lit 15, (.ofNat (nat_lit 0))), (nat_lit 0, (.ofNat (nat_lit 0)))]), (nat_lit 8, nat_lit 2, [(nat_lit 0, (.ofNat (nat_lit 0))), (nat_lit 0, (.ofNat (nat_lit 99)))]), (nat_lit 5, nat_lit 0, [(nat_lit 14, (.ofNat (nat_lit 0))), (nat_lit 8, (.ofNat (nat_lit 0))), (nat_lit 14, (.ofNat (nat_lit 0)))]), (nat_lit 4, nat_lit 0, [(nat_lit 0, (.ofNat (nat_lit 0))), (nat_lit 0, (.ofNat (nat_lit 11)))]), (nat_lit 6, nat_lit 1, [(nat_lit 13, (.ofNat (nat_lit 0))), (nat_lit 0, (.ofNat (nat_lit 0)))]), (nat_lit 8, nat_lit 2, [(nat_lit 0, (.ofNat (nat_lit 0))), (nat_lit 0, (.ofNat (nat_lit 9)))]), (nat_lit 5, nat_lit 0, [(nat_lit 13, (.ofNat (nat_lit 0))), (nat_lit 8, (.ofNat (nat_lit 0))), (nat_lit 12, (.ofNat (nat_lit 0)))]), (nat_lit 4, nat_lit 0, [(nat_lit 0, (.ofNat (nat_lit 0))), (nat_lit 0, (.ofNat (nat_lit 11)))]), (nat_lit 6, nat_lit 1, [(nat_lit 11, (.ofNat (nat_lit 0))), (nat_lit 0, (.ofNat (nat_lit 0)))]), (nat_lit 8, nat_lit 2, [(nat_lit 0, (.ofNat (nat_lit 1))), (nat_lit 0, (.ofNat (nat_lit 9)))]), (nat_lit 8, nat_lit 1, []), (nat_lit 5, nat_lit 0, [(nat_lit 12, (.ofNat (nat_lit 0))), (nat_lit 8, (.ofNat (nat_lit 0))), (nat_lit 9, (.ofNat (nat_lit 0)))]), (nat_lit 4, nat_lit 0, [(nat_lit 0, (.ofNat (nat_lit 0))), (nat_lit 0, (.ofNat (nat_lit 9)))]), (nat_lit 0, nat_lit 1, [(nat_lit 0, (.ofNat (nat_lit 4))), (nat_lit 7, (.ofNat (nat_lit 0)))]), (nat_lit 4, nat_lit 0, [(nat_lit 0, (.ofNat (nat_lit 0))), (nat_lit 0, (.ofNat (nat_lit 18)))]), (nat_lit 6, nat_lit 2, [(nat_lit 6, (.ofNat (nat_lit 0))), (nat_lit 0, (.ofNat (nat_lit 0)))]), (nat_lit 8, nat_lit 3, [(nat_lit 4, (.ofNat (nat_lit 0))), (nat_lit 5, (.ofNat (nat_lit 0)))]), (nat_lit 4, nat_lit 0, [(nat_lit 0, (.ofNat (nat_lit 0))), (nat_lit 0, (.ofNat (nat_lit 9)))]), (nat_lit 4, nat_lit 0, [(nat_lit 0, (.ofNat (nat_lit 0))), (nat_lit 0, (.ofNat (nat_lit 18)))]), (nat_lit 6, nat_lit 0, [(nat_lit 3, (.ofNat (nat_lit 0))), (nat_lit 0, (.ofNat (nat_lit 2)))]), (nat_lit 4, nat_lit 0, [(nat_lit 0, (.ofNat (nat_lit 0))), (nat_lit 0, (.ofNat (nat_lit 8)))]), (nat_lit 8, nat_lit 1, []), (nat_lit 6, nat_lit 1, [(nat_lit 1, (.ofNat (nat_lit 0))), (nat_lit 0, (.ofNat (nat_lit 4)))]), (nat_lit 4, nat_lit 0, [(nat_lit 0, (.ofNat (nat_lit 0))), (nat_lit 0, (.ofNat (nat_lit 18)))])],
  [(nat_lit 7, nat_lit 2, [(nat_lit 0, (.ofNat (nat_lit 1)))]), (nat_lit 5, nat_lit 0, [(nat_lit 0, (.ofNat (nat_lit 0))), (nat_lit 0, (.ofNat (nat_lit 18))), (nat_lit 18, (.ofNat (nat_lit 0)))]), (nat_lit 0, nat_lit 1, [(nat_lit 17, (.ofNat (nat_lit 0))), (nat_lit 0, (.ofNat (nat_lit 1)))]), (nat_lit 4, nat_lit 0, [(nat_lit 0, (.ofNat (nat_lit 0))), (nat_lit 0, (.ofNat (nat_lit 18)))]), (nat_lit 5, nat_lit 0, [(nat_lit 15, (.ofNat (nat_lit 0))), (nat_lit 8, (.ofNat (nat_lit 0))), (nat_lit 16, (.ofNat (nat_lit 0)))]), (nat_lit 4, nat_lit 0, [(nat_lit 0, (.ofNat (nat_lit 0))), (nat_lit 0, (.ofNat (nat_lit 11)))]), (nat_lit 6, nat_lit 1, [(nat_lit 15, (.ofNat (nat_lit 0))), (nat_lit 0, (.ofNat (nat_lit 0)))]), (nat_lit 8, nat_lit 2, [(nat_lit 0, (.ofNat (nat_lit 0))), (nat_lit 0, (.ofNat (nat_lit 99)))]), (nat_lit 5, nat_lit 0, [(nat_lit 14, (.ofNat (nat_lit 0))), (nat_lit 8, (.ofNat (nat_lit 0))), (nat_lit 14, (.ofNat (nat_lit 0)))]), (nat_lit 4, nat_lit 0, [(nat_lit 0, (.ofNat (nat_lit 0))), (nat_lit 0, (.ofNat (nat_lit 11)))]), (nat_lit 6, nat_lit 1, [(nat_lit 13, (.ofNat (nat_lit 0))), (nat_lit 0, (.ofNat (nat_lit 0)))]), (nat_lit 8, nat_lit 2, [(nat_lit 0, (.ofNat (nat_lit 0))), (nat_lit 0, (.ofNat (nat_lit 9)))]), (nat_lit 5, nat_lit 0, [(nat_lit 13, (.ofNat (nat_lit 0))), (nat_lit 8, (.ofNat (nat_lit 0))), (nat_lit 12, (.ofNat (nat_lit 0)))]), (nat_lit 4, nat_lit 0, [(nat_lit 0, (.ofNat (nat_lit 0))), (nat_lit 0, (.ofNat (nat_lit 11)))]), (nat_lit 6, nat_lit 1, [(nat_lit 11, (.ofNat (nat_lit 0))), (nat_lit 0, (.ofNat (nat_lit 0)))]), (nat_lit 8, nat_lit 2, [(nat_lit 0, (.ofNat (nat_lit 1))), (nat_lit 0, (.ofNat (nat_lit 9)))]), (nat_lit 8, nat_lit 1, []), (nat_lit 5, nat_lit 0, [(nat_lit 12, (.ofNat (nat_lit 0))), (nat_lit 8, (.ofNat (nat_lit 0))), (nat_lit 9, (.ofNat (nat_lit 0)))]), (nat_lit 4, nat_lit 0, [(nat_lit 0, (.ofNat (nat_lit 0))), (nat_lit 0, (.ofNat (nat_lit 9)))]), (nat_lit 0, nat_lit 1, [(nat_lit 0, (.ofNat (nat_lit 4))), (nat_lit 7, (.ofNat (nat_lit 0)))]), (nat_lit 4, nat_lit 0, [(nat_lit 0, (.ofNat (nat_lit 0))), (nat_lit 0, (.ofNat (nat_lit 18)))]), (nat_lit 6, nat_lit 2, [(nat_lit 6, (.ofNat (nat_lit 0))), (nat_lit 0, (.ofNat (nat_lit 0)))]), (nat_lit 8, nat_lit 3, [(nat_lit 4, (.ofNat (nat_lit 0))), (nat_lit 5, (.ofNat (nat_lit 0)))]), (nat_lit 4, nat_lit 0, [(nat_lit 0, (.ofNat (nat_lit 0))), (nat_lit 0, (.ofNat (nat_lit 9)))]), (nat_lit 4, nat_lit 0, [(nat_lit 0, (.ofNat (nat_lit 0))), (nat_lit 0, (.ofNat (nat_lit 18)))]), (nat_lit 6, nat_lit 0, [(nat_lit 3, (.ofNat (nat_lit 0))), (nat_lit 0, (.ofNat (nat_lit 2)))]), (nat_lit 4, nat_lit 0, [(nat_lit 0, (.ofNat (nat_lit 0))), (nat_lit 0, (.ofNat (nat_lit 8)))]), (nat_lit 8, nat_lit 1, []), (nat_lit 6, nat_lit 1, [(nat_lit 1, (.ofNat (nat_lit 0))), (nat_lit 0, (.ofNat (nat_lit 4)))]), (nat_lit 4, nat_lit 0, [(nat_lit 0, (.ofNat (nat_lit 0))), (nat_lit 0, (.ofNat (nat_lit 18)))])],
  [(nat_lit 7, nat_lit 2, [(nat_lit 0, (.ofNat (nat_lit 0)))]), (nat_lit 6, nat_lit 0, [(nat_lit 15, (.ofNat (nat_lit 0))), (nat_lit 0, (.ofNat (nat_lit 0)))]), (nat_lit 8, nat_lit 2, [(nat_lit 0, (.ofNat (nat_lit 0))), (nat_lit 0, (.ofNat (nat_lit 99)))]), (nat_lit 5, nat_lit 0, [(nat_lit 14, (.ofNat (nat_lit 0))), (nat_lit 8, (.ofNat (nat_lit 0))), (nat_lit 14, (.ofNat (nat_lit 0)))]), (nat_lit 4, nat_lit 0, [(nat_lit 0, (.ofNat (nat_lit 0))), (nat_lit 0, (.ofNat (nat_lit 11)))]), (nat_lit 6, nat_lit 1, [(nat_lit 13, (.ofNat (nat_lit 0))), (nat_lit 0, (.ofNat (nat_lit 0)))]), (nat_lit 8, nat_lit 2, [(nat_lit 0, (.ofNat (nat_lit 0))), (nat_lit 0, (.ofNat (nat_lit 9)))]), (nat_lit 5, nat_lit 0, [(nat_lit 13, (.ofNat (nat_lit 0))), (nat_lit 8, (.ofNat (nat_lit 0))), (nat_lit 12, (.ofNat (nat_lit 0)))]), (nat_lit 4, nat_lit 0, [(nat_lit 0, (.ofNat (nat_lit 0))), (nat_lit 0, (.ofNat (nat_lit 11)))]), (nat_lit 6, nat_lit 1, [(nat_lit 11, (.ofNat (nat_lit 0))), (nat_lit 0, (.ofNat (nat_lit 0)))]), (nat_lit 8, nat_lit 2, [(nat_lit 0, (.ofNat (nat_lit 1))), (nat_lit 0, (.ofNat (nat_lit 9)))]), (nat_lit 8, nat_lit 1, []), (nat_lit 5, nat_lit 0, [(nat_lit 12, (.ofNat (nat_lit 0))), (nat_lit 8, (.ofNat (nat_lit 0))), (nat_lit 9, (.ofNat (nat_lit 0)))]), (nat_lit 4, nat_lit 0, [(nat_lit 0, (.ofNat (nat_lit 0))), (nat_lit 0, (.ofNat (nat_lit 9)))]), (nat_lit 0, nat_lit 1, [(nat_lit 0, (.ofNat (nat_lit 4))), (nat_lit 7, (.ofNat (nat_lit 0)))]), (nat_lit 4, nat_lit 0, [(nat_lit 0, (.ofNat (nat_lit 0))), (nat_lit 0, (.ofNat (nat_lit 18)))]), (nat_lit 6, nat_lit 2, [(nat_lit 6, (.ofNat (nat_lit 0))), (nat_lit 0, (.ofNat (nat_lit 0)))]), (nat_lit 8, nat_lit 3, [(nat_lit 4, (.ofNat (nat_lit 0))), (nat_lit 5, (.ofNat (nat_lit 0)))]), (nat_lit 4, nat_lit 0, [(nat_lit 0, (.ofNat (nat_lit 0))), (nat_lit 0, (.ofNat (nat_lit 9)))]), (nat_lit 4, nat_lit 0, [(nat_lit 0, (.ofNat (nat_lit 0))), (nat_lit 0, (.ofNat (nat_lit 18)))]), (nat_lit 6, nat_lit 0, [(nat_lit 3, (.ofNat (nat_lit 0))), (nat_lit 0, (.ofNat (nat_lit 2)))]), (nat_lit 4, nat_lit 0, [(nat_lit 0, (.ofNat (nat_lit 0))), (nat_lit 0, (.ofNat (nat_lit 8)))]), (nat_lit 8, nat_lit 1, []), (nat_lit 6, nat_lit 1, [(nat_lit 1, (.ofNat (nat_lit 0))), (nat_lit 0, (.ofNat (nat_lit 4)))]), (nat_lit 4, nat_lit 0, [(nat_lit 0, (.ofNat (nat_lit 0))), (nat_lit 0, (.ofNat (nat_lit 18)))])],
  [(nat_lit 7, nat_lit 2, [(nat_lit 0, (.ofNat (nat_lit 0)))]), (nat_lit 6, nat_lit 0, [(nat_lit 13, (.ofNat (nat_lit 0))), (nat_lit 0, (.ofNat (nat_lit 0)))]), (nat_lit 8, nat_lit 2, [(nat_lit 0, (.ofNat (nat_lit 0))), (nat_lit 0, (.ofNat (nat_lit 9)))]), (nat_lit 5, nat_lit 0, [(nat_lit 13, (.ofNat (nat_lit 0))), (nat_lit 8, (.ofNat (nat_lit 0))), (nat_lit 12, (.ofNat (nat_lit 0)))]), (nat_lit 4, nat_lit 0, [(nat_lit 0, (.ofNat (nat_lit 0))), (nat_lit 0, (.ofNat (nat_lit 11)))]), (nat_lit 6, nat_lit 1, [(nat_lit 11, (.ofNat (nat_lit 0))), (nat_lit 0, (.ofNat (nat_lit 0)))]), (nat_lit 8, nat_lit 2, [(nat_lit 0, (.ofNat (nat_lit 1))), (nat_lit 0, (.ofNat (nat_lit 9)))]), (nat_lit 8, nat_lit 1, []), (nat_lit 5, nat_lit 0, [(nat_lit 12, (.ofNat (nat_lit 0))), (nat_lit 8, (.ofNat (nat_lit 0))), (nat_lit 9, (.ofNat (nat_lit 0)))]), (nat_lit 4, nat_lit 0, [(nat_lit 0, (.ofNat (nat_lit 0))), (nat_lit 0, (.ofNat (nat_lit 9)))]), (nat_lit 0, nat_lit 1, [(nat_lit 0, (.ofNat (nat_lit 4))), (nat_lit 7, (.ofNat (nat_lit 0)))]), (nat_lit 4, nat_lit 0, [(nat_lit 0, (.ofNat (nat_lit 0))), (nat_lit 0, (.ofNat (nat_lit 18)))]), (nat_lit 6, nat_lit 2, [(nat_lit 6, (.ofNat (nat_lit 0))), (nat_lit 0, (.ofNat (nat_lit 0)))]), (nat_lit 8, nat_lit 3, [(nat_lit 4, (.ofNat (nat_lit 0))), (nat_lit 5, (.ofNat (nat_lit 0)))]), (nat_lit 4, nat_lit 0, [(nat_lit 0, (.ofNat (nat_lit 0))), (nat_lit 0, (.ofNat (nat_lit 9)))]), (nat_lit 4, nat_lit 0, [(nat_lit 0, (.ofNat (nat_lit 0))), (nat_lit 0, (.ofNat (nat_lit 18)))]), (nat_lit 6, nat_lit 0, [(nat_lit 3, (.ofNat (nat_lit 0))), (nat_lit 0, (.ofNat (nat_lit 2)))]), (nat_lit 4, nat_lit 0, [(nat_lit 0, (.ofNat (nat_lit 0))), (nat_lit 0, (.ofNat (nat_lit 8)))]), (nat_lit 8, nat_lit 1, []), (nat_lit 6, nat_lit 1, [(nat_lit 1, (.ofNat (nat_lit 0))), (nat_lit 0, (.ofNat (nat_lit 4)))]), (nat_lit 4, nat_lit 0, [(nat_lit 0, (.ofNat (nat_lit 0))), (nat_lit 0, (.ofNat (nat_lit 18)))])],
  [(nat_lit 7, nat_lit 2, [(nat_lit 0, (.ofNat (nat_lit 0)))]), (nat_lit 6, nat_lit 0, [(nat_lit 11, (.ofNat (nat_lit 0))), (nat_lit 0, (.ofNat (nat_lit 0)))]), (nat_lit 8, nat_lit 2, [(nat_lit 0, (.ofNat (nat_lit 1))), (nat_lit 0, (.ofNat (nat_lit 9)))]), (nat_lit 8, nat_lit 1, []), (nat_lit 5, nat_lit 0, [(nat_lit 12, (.ofNat (nat_lit 0))), (nat_lit 8, (.ofNat (nat_lit 0))), (nat_lit 9, (.ofNat (nat_lit 0)))]), (nat_lit 4, nat_lit 0, [(nat_lit 0, (.ofNat (nat_lit 0))), (nat_lit 0, (.ofNat (nat_lit 9)))]), (nat_lit 0, nat_lit 1, [(nat_lit 0, (.ofNat (nat_lit 4))), (nat_lit 7, (.ofNat (nat_lit 0)))]), (nat_lit 4, nat_lit 0, [(nat_lit 0, (.ofNat (nat_lit 0))), (nat_lit 0, (.ofNat (nat_lit 18)))]), (nat_lit 6, nat_lit 2, [(nat_lit 6, (.ofNat (nat_lit 0))), (nat_lit 0, (.ofNat (nat_lit 0)))]), (nat_lit 8, nat_lit 3, [(nat_lit 4, (.ofNat (nat_lit 0))), (nat_lit 5, (.ofNat (nat_lit 0)))]), (nat_lit 4, nat_lit 0, [(nat_lit 0, (.ofNat (nat_lit 0))), (nat_lit 0, (.ofNat (nat_lit 9)))]), (nat_lit 4, nat_lit 0, [(nat_lit 0, (.ofNat (nat_lit 0))), (nat_lit 0, (.ofNat (nat_lit 18)))]), (nat_lit 6, nat_lit 0, [(nat_lit 3, (.ofNat (nat_lit 0))), (nat_lit 0, (.ofNat (nat_lit 2)))]), (nat_lit 4, nat_lit 0, [(nat_lit 0, (.ofNat (nat_lit 0))), (nat_lit 0, (.ofNat (nat_lit 8)))]), (nat_lit 8, nat_lit 1, []), (nat_lit 6, nat_lit 1, [(nat_lit 1, (.ofNat (nat_lit 0))), (nat_lit 0, (.ofNat (nat_lit 4)))]), (nat_lit 4, nat_lit 0, [(nat_lit 0, (.ofNat (nat_lit 0))), (nat_lit 0, (.ofNat (nat_lit 18)))])],
  [(nat_lit 7, nat_lit 2, [(nat_lit 7, (.ofNat (nat_lit 0)))]), (nat_lit 8, nat_lit 0, [(nat_lit 0, (.ofNat (nat_lit 3)))]), (nat_lit 6, nat_lit 3, [(nat_lit 6, (.ofNat (nat_lit 0))), (nat_lit 0, (.ofNat (nat_lit 0)))]), (nat_lit 8, nat_lit 3, [(nat_lit 4, (.ofNat (nat_lit 0))), (nat_lit 5, (.ofNat (nat_lit 0)))]), (nat_lit 4, nat_lit 0, [(nat_lit 0, (.ofNat (nat_lit 0))), (nat_lit 0, (.ofNat (nat_lit 9)))]), (nat_lit 4, nat_lit 0, [(nat_lit 0, (.ofNat (nat_lit 0))), (nat_lit 0, (.ofNat (nat_lit 18)))]), (nat_lit 6, nat_lit 0, [(nat_lit 3, (.ofNat (nat_lit 0))), (nat_lit 0, (.ofNat (nat_lit 2)))]), (nat_lit 4, nat_lit 0, [(nat_lit 0, (.ofNat (nat_lit 0))), (nat_lit 0, (.ofNat (nat_lit 8)))]), (nat_lit 8, nat_lit 1, []), (nat_lit 6, nat_lit 1, [(nat_lit 1, (.ofNat (nat_lit 0))), (nat_lit 0, (.ofNat (nat_lit 4)))]), (nat_lit 4, nat_lit 0, [(nat_lit 0, (.ofNat (nat_lit 0))), (nat_lit 0, (.ofNat (nat_lit 18)))])],
  [(nat_lit 7, nat_lit 2, [(nat_lit 4, (.ofNat (nat_lit 0)))]), (nat_lit 8, nat_lit 0, [(nat_lit 0, (.ofNat (nat_lit 1)))]), (nat_lit 6, nat_lit 1, [(nat_lit 3, (.ofNat (nat_lit 0))), (nat_lit 0, (.ofNat (nat_lit 2)))]), (nat_lit 4, nat_lit 0, [(nat_lit 0, (.ofNat (nat_lit 0))), (nat_lit 0, (.ofNat (nat_lit 8)))]), (nat_lit 8, nat_lit 1, []), (nat_lit 6, nat_lit 1, [(nat_lit 1, (.ofNat (nat_lit 0))), (nat_lit 0, (.ofNat (nat_lit 4)))]), (nat_lit 4, nat_lit 0, [(nat_lit 0, (.ofNat (nat_lit 0))), (nat_lit 0, (.ofNat (nat_lit 18)))])],
  [(nat_lit 7, nat_lit 2, [(nat_lit 2, (.ofNat (nat_lit 0)))]), (nat_lit 8, nat_lit 0, [(nat_lit 0, (.ofNat (nat_lit 2)))]), (nat_lit 6, nat_lit 0, [(nat_lit 1, (.ofNat (nat_lit 0))), (nat_lit 0, (.ofNat (nat_lit 4)))]), (nat_lit 4, nat_lit 0, [(nat_lit 0, (.ofNat (nat_lit 0))), (nat_lit 0, (.ofNat (nat_lit 18)))])]]
def zEne_guestLine : List (List zK) := [[(nat_lit 13, nat_lit 1, []), (nat_lit 6, nat_lit 1, [(nat_lit 1, (.ofNat (nat_lit 0))), (nat_lit 0, (.ofNat (nat_lit 4)))]), (nat_lit 4, nat_lit 0, [(nat_lit 0, (.ofNat (nat_lit 0))), (nat_lit 0, (.ofNat (nat_lit 18)))])],
  [(nat_lit 13, nat_lit 3, [(nat_lit 4, (.ofNat (nat_lit 0))), (nat_lit 5, (.ofNat (nat_lit 0)))]), (nat_lit 4, nat_lit 0, [(nat_lit 0, (.ofNat (nat_lit 0))), (nat_lit 0, (.ofNat (nat_lit 9)))]), (nat_lit 4, nat_lit 0, [(nat_lit 0, (.ofNat (nat_lit 0))), (nat_lit 0, (.ofNat (nat_lit 18)))]), (nat_lit 6, nat_lit 0, [(nat_lit 3, (.ofNat (nat_lit 0))), (nat_lit 0, (.ofNat (nat_lit 2)))]), (nat_lit 4, nat_lit 0, [(nat_lit 0, (.ofNat (nat_lit 0))), (nat_lit 0, (.ofNat (nat_lit 8)))]), (nat_lit 8, nat_lit 1, []), (nat_lit 6, nat_lit 1, [(nat_lit 1, (.ofNat (nat_lit 0))), (nat_lit 0, (.ofNat (nat_lit 4)))]), (nat_lit 4, nat_lit 0, [(nat_lit 0, (.ofNat (nat_lit 0))), (nat_lit 0, (.ofNat (nat_lit 18)))])],
  [(nat_lit 13, nat_lit 1, []), (nat_lit 5, nat_lit 0, [(nat_lit 12, (.ofNat (nat_lit 0))), (nat_lit 8, (.ofNat (nat_lit 0))), (nat_lit 9, (.ofNat (nat_lit 0)))]), (nat_lit 4, nat_lit 0, [(nat_lit 0, (.ofNat (nat_lit 0))), (nat_lit 0, (.ofNat (nat_lit 9)))]), (nat_lit 0, nat_lit 1, [(nat_lit 0, (.ofNat (nat_lit 4))), (nat_lit 7, (.ofNat (nat_lit 0)))]), (nat_lit 4, nat_lit 0, [(nat_lit 0, (.ofNat (nat_lit 0))), (nat_lit 0, (.ofNat (nat_lit 18)))]), (nat_lit 6, nat_lit 2, [(nat_lit 6, (.ofNat (nat_lit 0))), (nat_lit 0, (.ofNat (nat_lit 0)))]), (nat_lit 8, nat_lit 3, [(nat_lit 4, (.ofNat (nat_lit 0))), (nat_lit 5, (.ofNat (nat_lit 0)))]), (nat_lit 4, nat_lit 0, [(nat_lit 0, (.ofNat (nat_lit 0))), (nat_lit 0, (.ofNat (nat_lit 9)))]), (nat_lit 4, nat_lit 0, [(nat_lit 0, (.ofNat (nat_lit 0))), (nat_lit 0, (.ofNat (nat_lit 18)))]), (nat_lit 6, nat_lit 0, [(nat_lit 3, (.ofNat (nat_lit 0))), (nat_lit 0, (.ofNat (nat_lit 2)))]), (nat_lit 4, nat_lit 0, [(nat_lit 0, (.ofNat (nat_lit 0))), (nat_lit 0, (.ofNat (nat_lit 8)))]), (nat_lit 8, nat_lit 1, []), (nat_lit 6, nat_lit 1, [(nat_lit 1, (.ofNat (nat_lit 0))), (nat_lit 0, (.ofNat (nat_lit 4)))]), (nat_lit 4, nat_lit 0, [(nat_lit 0, (.ofNat (nat_lit 0))), (nat_lit 0, (.ofNat (nat_lit 18)))])],
  [(nat_lit 13, nat_lit 2, [(nat_lit 0, (.ofNat (nat_lit 1))), (nat_lit 0, (.ofNat (nat_lit 9)))]), (nat_lit 8, nat_lit 1, []), (nat_lit 5, nat_lit 0, [(nat_lit 12, (.ofNat (nat_lit 0))), (nat_lit 8, (.ofNat (nat_lit 0))), (nat_lit 9, (.ofNat (nat_lit 0)))]), (nat_lit 4, nat_lit 0, [(nat_lit 0, (.ofNat (nat_lit 0))), (nat_lit 0, (.ofNat (nat_lit 9)))]), (nat_lit 0, nat_lit 1, [(nat_lit 0, (.ofNat (nat_lit 4))), (nat_lit 7, (.ofNat (nat_lit 0)))]), (nat_lit 4, nat_lit 0, [(nat_lit 0, (.ofNat (nat_lit 0))), (nat_lit 0, (.ofNat (nat_lit 18)))]), (nat_lit 6, nat_lit 2, [(nat_lit 6, (.ofNat (nat_lit 0))), (nat_lit 0, (.ofNat (nat_lit 0)))]), (nat_lit 8, nat_lit 3, [(nat_lit 4, (.ofNat (nat_lit 0))), (nat_lit 5, (.ofNat (nat_lit 0)))]), (nat_lit 4, nat_lit 0, [(nat_lit 0, (.ofNat (nat_lit 0))), (nat_lit 0, (.ofNat (nat_lit 9)))]), (nat_lit 4, nat_lit 0, [(nat_lit 0, (.ofNat (nat_lit 0))), (nat_lit 0, (.ofNat (nat_lit 18)))]), (nat_lit 6, nat_lit 0, [(nat_lit 3, (.ofNat (nat_lit 0))), (nat_lit 0, (.ofNat (nat_lit 2)))]), (nat_lit 4, nat_lit 0, [(nat_lit 0, (.ofNat (nat_lit 0))), (nat_lit 0, (.ofNat (nat_lit 8)))]), (nat_lit 8, nat_lit 1, []), (nat_lit 6, nat_lit 1, [(nat_lit 1, (.ofNat (nat_lit 0))), (nat_lit 0, (.ofNat (nat_lit 4)))]), (nat_lit 4, nat_lit 0, [(nat_lit 0, (.ofNat (nat_lit 0))), (nat_lit 0, (.ofNat (nat_lit 18)))])],
  [(nat_lit 13, nat_lit 2, [(nat_lit 0, (.ofNat (nat_lit 0))), (nat_lit 0, (.ofNat (nat_lit 9)))]), (nat_lit 5, nat_lit 0, [(nat_lit 13, (.ofNat (nat_lit 0))), (nat_lit 8, (.ofNat (nat_lit 0))), (nat_lit 12, (.ofNat (nat_lit 0)))]), (nat_lit 4, nat_lit 0, [(nat_lit 0, (.ofNat (nat_lit 0))), (nat_lit 0, (.ofNat (nat_lit 11)))]), (nat_lit 6, nat_lit 1, [(nat_lit 11, (.ofNat (nat_lit 0))), (nat_lit 0, (.ofNat (nat_lit 0)))]), (nat_lit 8, nat_lit 2, [(nat_lit 0, (.ofNat (nat_lit 1))), (nat_lit 0, (.ofNat (nat_lit 9)))]), (nat_lit 8, nat_lit 1, []), (nat_lit 5, nat_lit 0, [(nat_lit 12, (.ofNat (nat_lit 0))), (nat_lit 8, (.ofNat (nat_lit 0))), (nat_lit 9, (.ofNat (nat_lit 0)))]), (nat_lit 4, nat_lit 0, [(nat_lit 0, (.ofNat (nat_lit 0))), (nat_lit 0, (.ofNat (nat_lit 9)))]), (nat_lit 0, nat_lit 1, [(nat_lit 0, (.ofNat (nat_lit 4))), (nat_lit 7, (.ofNat (nat_lit 0)))]), (nat_lit 4, nat_lit 0, [(nat_lit 0, (.ofNat (nat_lit 0))), (nat_lit 0, (.ofNat (nat_lit 18)))]), (nat_lit 6, nat_lit 2, [(nat_lit 6, (.ofNat (nat_lit 0))), (nat_lit 0, (.ofNat (nat_lit 0)))]), (nat_lit 8, nat_lit 3, [(nat_lit 4, (.ofNat (nat_lit 0))), (nat_lit 5, (.ofNat (nat_lit 0)))]), (nat_lit 4, nat_lit 0, [(nat_lit 0, (.ofNat (nat_lit 0))), (nat_lit 0, (.ofNat (nat_lit 9)))]), (nat_lit 4, nat_lit 0, [(nat_lit 0, (.ofNat (nat_lit 0))), (nat_lit 0, (.ofNat (nat_lit 18)))]), (nat_lit 6, nat_lit 0, [(nat_lit 3, (.ofNat (nat_lit 0))), (nat_lit 0, (.ofNat (nat_lit 2)))]), (nat_lit 4, nat_lit 0, [(nat_lit 0, (.ofNat (nat_lit 0))), (nat_lit 0, (.ofNat (nat_lit 8)))]), (nat_lit 8, nat_lit 1, []), (nat_lit 6, nat_lit 1, [(nat_lit 1, (.ofNat (nat_lit 0))), (nat_lit 0, (.ofNat (nat_lit 4)))]), (nat_lit 4, nat_lit 0, [(nat_lit 0, (.ofNat (nat_lit 0))), (nat_lit 0, (.ofNat (nat_lit 18)))])],
  [(nat_lit 13, nat_lit 2, [(nat_lit 0, (.ofNat (nat_lit 0))), (nat_lit 0, (.ofNat (nat_lit 99)))]), (nat_lit 5, nat_lit 0, [(nat_lit 14, (.ofNat (nat_lit 0))), (nat_lit 8, (.ofNat (nat_lit 0))), (nat_lit 14, (.ofNat (nat_lit 0)))]), (nat_lit 4, nat_lit 0, [(nat_lit 0, (.ofNat (nat_lit 0))), (nat_lit 0, (.ofNat (nat_lit 11)))]), (nat_lit 6, nat_lit 1, [(nat_lit 13, (.ofNat (nat_lit 0))), (nat_lit 0, (.ofNat (nat_lit 0)))]), (nat_lit 8, nat_lit 2, [(nat_lit 0, (.ofNat (nat_lit 0))), (nat_lit 0, (.ofNat (nat_lit 9)))]), (nat_lit 5, nat_lit 0, [(nat_lit 13, (.ofNat (nat_lit 0))), (nat_lit 8, (.ofNat (nat_lit 0))), (nat_lit 12, (.ofNat (nat_lit 0)))]), (nat_lit 4, nat_lit 0, [(nat_lit 0, (.ofNat (nat_lit 0))), (nat_lit 0, (.ofNat (nat_lit 11)))]), (nat_lit 6, nat_lit 1, [(nat_lit 11, (.ofNat (nat_lit 0))), (nat_lit 0, (.ofNat (nat_lit 0)))]), (nat_lit 8, nat_lit 2, [(nat_lit 0, (.ofNat (nat_lit 1))), (nat_lit 0, (.ofNat (nat_lit 9)))]), (nat_lit 8, nat_lit 1, []), (nat_lit 5, nat_lit 0, [(nat_lit 12, (.ofNat (nat_lit 0))), (nat_lit 8, (.ofNat (nat_lit 0))), (nat_lit 9, (.ofNat (nat_lit 0)))]), (nat_lit 4, nat_lit 0, [(nat_lit 0, (.ofNat (nat_lit 0))), (nat_lit 0, (.ofNat (nat_lit 9)))]), (nat_lit 0, nat_lit 1, [(nat_lit 0, (.ofNat (nat_lit 4))), (nat_lit 7, (.ofNat (nat_lit 0)))]), (nat_lit 4, nat_lit 0, [(nat_lit 0, (.ofNat (nat_lit 0))), (nat_lit 0, (.ofNat (nat_lit 18)))]), (nat_lit 6, nat_lit 2, [(nat_lit 6, (.ofNat (nat_lit 0))), (nat_lit 0, (.ofNat (nat_lit 0)))]), (nat_lit 8, nat_lit 3, [(nat_lit 4, (.ofNat (nat_lit 0))), (nat_lit 5, (.ofNat (nat_lit 0)))]), (nat_lit 4, nat_lit 0, [(nat_lit 0, (.ofNat (nat_lit 0))), (nat_lit 0, (.ofNat (nat_lit 9)))]), (nat_lit 4, nat_lit 0, [(nat_lit 0, (.ofNat (nat_lit 0))), (nat_lit 0, (.ofNat (nat_lit 18)))]), (nat_lit 6, nat_lit 0, [(nat_lit 3, (.ofNat (nat_lit 0))), (nat_lit 0, (.ofNat (nat_lit 2)))]), (nat_lit 4, nat_lit 0, [(nat_lit 0, (.ofNat (nat_lit 0))), (nat_lit 0, (.ofNat (nat_lit 8)))]), (nat_lit 8, nat_lit 1, []), (nat_lit 6, nat_lit 1, [(nat_lit 1, (.ofNat (nat_lit 0))), (nat_lit 0, (.ofNat (nat_lit 4)))]), (nat_lit 4, nat_lit 0, [(nat_lit 0, (.ofNat (nat_lit 0))), (nat_lit 0, (.ofNat (nat_lit 18)))])],
  [(nat_lit 11, nat_lit 0, [(nat_lit 0, (.ofNat (nat_lit 1)))]), (nat_lit 5, nat_lit 0, [(nat_lit 0, (.ofNat (nat_lit 0))), (nat_lit 0, (.ofNat (nat_lit 18))), (nat_lit 18, (.ofNat (nat_lit 0)))]), (nat_lit 0, nat_lit 1, [(nat_lit 17, (.ofNat (nat_lit 0))), (nat_lit 0, (.ofNat (nat_lit 1)))]), (nat_lit 4, nat_lit 0, [(nat_lit 0, (.ofNat (nat_lit 0))), (nat_lit 0, (.ofNat (nat_lit 18)))]), (nat_lit 5, nat_lit 0, [(nat_lit 15, (.ofNat (nat_lit 0))), (nat_lit 8, (.ofNat (nat_lit 0))), (nat_lit 16, (.ofNat (nat_lit 0)))]), (nat_lit 4, nat_lit 0, [(nat_lit 0, (.ofNat (nat_lit 0))), (nat_lit 0, (.ofNat (nat_lit 11)))]), (nat_lit 6, nat_lit 1, [(nat_lit 15, (.ofNat (nat_lit 0))), (nat_lit 0, (.ofNat (nat_lit 0)))]), (nat_lit 8, nat_lit 2, [(nat_lit 0, (.ofNat (nat_lit 0))), (nat_lit 0, (.ofNat (nat_lit 99)))]), (nat_lit 5, nat_lit 0, [(nat_lit 14, (.ofNat (nat_lit 0))), (nat_lit 8, (.ofNat (nat_lit 0))), (nat_lit 14, (.ofNat (nat_lit 0)))]), (nat_lit 4, nat_lit 0, [(nat_lit 0, (.ofNat (nat_lit 0))), (nat_lit 0, (.ofNat (nat_lit 11)))]), (nat_lit 6, nat_lit 1, [(nat_lit 13, (.ofNat (nat_lit 0))), (nat_lit 0, (.ofNat (nat_lit 0)))]), (nat_lit 8, nat_lit 2, [(nat_lit 0, (.ofNat (nat_lit 0))), (nat_lit 0, (.ofNat (nat_lit 9)))]), (nat_lit 5, nat_lit 0, [(nat_lit 13, (.ofNat (nat_lit 0))), (nat_lit 8, (.ofNat (nat_lit 0))), (nat_lit 12, (.ofNat (nat_lit 0)))]), (nat_lit 4, nat_lit 0, [(nat_lit 0, (.ofNat (nat_lit 0))), (nat_lit 0, (.ofNat (nat_lit 11)))]), (nat_lit 6, nat_lit 1, [(nat_lit 11, (.ofNat (nat_lit 0))), (nat_lit 0, (.ofNat (nat_lit 0)))]), (nat_lit 8, nat_lit 2, [(nat_lit 0, (.ofNat (nat_lit 1))), (nat_lit 0, (.ofNat (nat_lit 9)))]), (nat_lit 8, nat_lit 1, []), (nat_lit 5, nat_lit 0, [(nat_lit 12, (.ofNat (nat_lit 0))), (nat_lit 8, (.ofNat (nat_lit 0))), (nat_lit 9, (.ofNat (nat_lit 0)))]), (nat_lit 4, nat_lit 0, [(nat_lit 0, (.ofNat (nat_lit 0))), (nat_lit 0, (.ofNat (nat_lit 9)))]), (nat_lit 0, nat_lit 1, [(nat_lit 0, (.ofNat (nat_lit 4))), (nat_lit 7, (.ofNat (nat_lit 0)))]), (nat_lit 4, nat_lit 0, [(nat_lit 0, (.ofNat (nat_lit 0))), (nat_lit 0, (.ofNat (nat_lit 18)))]), (nat_lit 6, nat_lit 2, [(nat_lit 6, (.ofNat (nat_lit 0))), (nat_lit 0, (.ofNat (nat_lit 0)))]), (nat_lit 8, nat_lit 3, [(nat_lit 4, (.ofNat (nat_lit 0))), (nat_lit 5, (.ofNat (nat_lit 0)))]), (nat_lit 4, nat_lit 0, [(nat_lit 0, (.ofNat (nat_lit 0))), (nat_lit 0, (.ofNat (nat_lit 9)))]), (nat_lit 4, nat_lit 0, [(nat_lit 0, (.ofNat (nat_lit 0))), (nat_lit 0, (.ofNat (nat_lit 18)))]), (nat_lit 6, nat_lit 0, [(nat_lit 3, (.ofNat (nat_lit 0))), (nat_lit 0, (.ofNat (nat_lit 2)))]), (nat_lit 4, nat_lit 0, [(nat_lit 0, (.ofNat (nat_lit 0))), (nat_lit 0, (.ofNat (nat_lit 8)))]), (nat_lit 8, nat_lit 1, []), (nat_lit 6, nat_lit 1, [(nat_lit 1, (.ofNat (nat_lit 0))), (nat_lit 0, (.ofNat (nat_lit 4)))]), (nat_lit 4, nat_lit 0, [(nat_lit 0, (.ofNat (nat_lit 0))), (nat_lit 0, (.ofNat (nat_lit 18)))])],
  [(nat_lit 11, nat_lit 0, [(nat_lit 0, (.ofNat (nat_lit 0)))]), (nat_lit 6, nat_lit 0, [(nat_lit 15, (.ofNat (nat_lit 0))), (nat_lit 0, (.ofNat (nat_lit 0)))]), (nat_lit 8, nat_lit 2, [(nat_lit 0, (.ofNat (nat_lit 0))), (nat_lit 0, (.ofNat (nat_lit 99)))]), (nat_lit 5, nat_lit 0, [(nat_lit 14, (.ofNat (nat_lit 0))), (nat_lit 8, (.ofNat (nat_lit 0))), (nat_lit 14, (.ofNat (nat_lit 0)))]), (nat_lit 4, nat_lit 0, [(nat_lit 0, (.ofNat (nat_lit 0))), (nat_lit 0, (.ofNat (nat_lit 11)))]), (nat_lit 6, nat_lit 1, [(nat_lit 13, (.ofNat (nat_lit 0))), (nat_lit 0, (.ofNat (nat_lit 0)))]), (nat_lit 8, nat_lit 2, [(nat_lit 0, (.ofNat (nat_lit 0))), (nat_lit 0, (.ofNat (nat_lit 9)))]), (nat_lit 5, nat_lit 0, [(nat_lit 13, (.ofNat (nat_lit 0))), (nat_lit 8, (.ofNat (nat_lit 0))), (nat_lit 12, (.ofNat (nat_lit 0)))]), (nat_lit 4, nat_lit 0, [(nat_lit 0, (.ofNat (nat_lit 0))), (nat_lit 0, (.ofNat (nat_lit 11)))]), (nat_lit 6, nat_lit 1, [(nat_lit 11, (.ofNat (nat_lit 0))), (nat_lit 0, (.ofNat (nat_lit 0)))]), (nat_lit 8, nat_lit 2, [(nat_lit 0, (.ofNat (nat_lit 1))), (nat_lit 0, (.ofNat (nat_lit 9)))]), (nat_lit 8, nat_lit 1, []), (nat_lit 5, nat_lit 0, [(nat_lit 12, (.ofNat (nat_lit 0))), (nat_lit 8, (.ofNat (nat_lit 0))), (nat_lit 9, (.ofNat (nat_lit 0)))]), (nat_lit 4, nat_lit 0, [(nat_lit 0, (.ofNat (nat_lit 0))), (nat_lit 0, (.ofNat (nat_lit 9)))]), (nat_lit 0, nat_lit 1, [(nat_lit 0, (.ofNat (nat_lit 4))), (nat_lit 7, (.ofNat (nat_lit 0)))]), (nat_lit 4, nat_lit 0, [(nat_lit 0, (.ofNat (nat_lit 0))), (nat_lit 0, (.ofNat (nat_lit 18)))]), (nat_lit 6, nat_lit 2, [(nat_lit 6, (.ofNat (nat_lit 0))), (nat_lit 0, (.ofNat (nat_lit 0)))]), (nat_lit 8, nat_lit 3, [(nat_lit 4, (.ofNat (nat_lit 0))), (nat_lit 5, (.ofNat (nat_lit 0)))]), (nat_lit 4, nat_lit 0, [(nat_lit 0, (.ofNat (nat_lit 0))), (nat_lit 0, (.ofNat (nat_lit 9)))]), (nat_lit 4, nat_lit 0, [(nat_lit 0, (.ofNat (nat_lit 0))), (nat_lit 0, (.ofNat (nat_lit 18)))]), (nat_lit 6, nat_lit 0, [(nat_lit 3, (.ofNat (nat_lit 0))), (nat_lit 0, (.ofNat (nat_lit 2)))]), (nat_lit 4, nat_lit 0, [(nat_lit 0, (.ofNat (nat_lit 0))), (nat_lit 0, (.ofNat (nat_lit 8)))]), (nat_lit 8, nat_lit 1, []), (nat_lit 6, nat_lit 1, [(nat_lit 1, (.ofNat (nat_lit 0))), (nat_lit 0, (.ofNat (nat_lit 4)))]), (nat_lit 4, nat_lit 0, [(nat_lit 0, (.ofNat (nat_lit 0))), (nat_lit 0, (.ofNat (nat_lit 18)))])],
  [(nat_lit 11, nat_lit 0, [(nat_lit 0, (.ofNat (nat_lit 0)))]), (nat_lit 6, nat_lit 0, [(nat_lit 13, (.ofNat (nat_lit 0))), (nat_lit 0, (.ofNat (nat_lit 0)))]), (nat_lit 8, nat_lit 2, [(nat_lit 0, (.ofNat (nat_lit 0))), (nat_lit 0, (.ofNat (nat_lit 9)))]), (nat_lit 5, nat_lit 0, [(nat_lit 13, (.ofNat (nat_lit 0))), (nat_lit 8, (.ofNat (nat_lit 0))), (nat_lit 12, (.ofNat (nat_lit 0)))]), (nat_lit 4, nat_lit 0, [(nat_lit 0, (.ofNat (nat_lit 0))), (nat_lit 0, (.ofNat (nat_lit 11)))]), (nat_lit 6, nat_lit 1, [(nat_lit 11, (.ofNat (nat_lit 0))), (nat_lit 0, (.ofNat (nat_lit 0)))]), (nat_lit 8, nat_lit 2, [(nat_lit 0, (.ofNat (nat_lit 1))), (nat_lit 0, (.ofNat (nat_lit 9)))]), (nat_lit 8, nat_lit 1, []), (nat_lit 5, nat_lit 0, [(nat_lit 12, (.ofNat (nat_lit 0))), (nat_lit 8, (.ofNat (nat_lit 0))), (nat_lit 9, (.ofNat (nat_lit 0)))]), (nat_lit 4, nat_lit 0, [(nat_lit 0, (.ofNat (nat_lit 0))), (nat_lit 0, (.ofNat (nat_lit 9)))]), (nat_lit 0, nat_lit 1, [(nat_lit 0, (.ofNat (nat_lit 4))), (nat_lit 7, (.ofNat (nat_lit 0)))]), (nat_lit 4, nat_lit 0, [(nat_lit 0, (.ofNat (nat_lit 0))), (nat_lit 0, (.ofNat (nat_lit 18)))]), (nat_lit 6, nat_lit 2, [(nat_lit 6, (.ofNat (nat_lit 0))), (nat_lit 0, (.ofNat (nat_lit 0)))]), (nat_lit 8, nat_lit 3, [(nat_lit 4, (.ofNat (nat_lit 0))), (nat_lit 5, (.ofNat (nat_lit 0)))]), (nat_lit 4, nat_lit 0, [(nat_lit 0, (.ofNat (nat_lit 0))), (nat_lit 0, (.ofNat (nat_lit 9)))]), (nat_lit 4, nat_lit 0, [(nat_lit 0, (.ofNat (nat_lit 0))), (nat_lit 0, (.ofNat (nat_lit 18)))]), (nat_lit 6, nat_lit 0, [(nat_lit 3, (.ofNat (nat_lit 0))), (nat_lit 0, (.ofNat (nat_lit 2)))]), (nat_lit 4, nat_lit 0, [(nat_lit 0, (.ofNat (nat_lit 0))), (nat_lit 0, (.ofNat (nat_lit 8)))]), (nat_lit 8, nat_lit 1, []), (nat_lit 6, nat_lit 1, [(nat_lit 1, (.ofNat (nat_lit 0))), (nat_lit 0, (.ofNat (nat_lit 4)))]), (nat_lit 4, nat_lit 0, [(nat_lit 0, (.ofNat (nat_lit 0))), (nat_lit 0, (.ofNat (nat_lit 18)))])],
  [(nat_lit 11, nat_lit 0, [(nat_lit 0, (.ofNat (nat_lit 0)))]), (nat_lit 6, nat_lit 0, [(nat_lit 11, (.ofNat (nat_lit 0))), (nat_lit 0, (.ofNat (nat_lit 0)))]), (nat_lit 8, nat_lit 2, [(nat_lit 0, (.ofNat (nat_lit 1))), (nat_lit 0, (.ofNat (nat_lit 9)))]), (nat_lit 8, nat_lit 1, []), (nat_lit 5, nat_lit 0, [(nat_lit 12, (.ofNat (nat_lit 0))), (nat_lit 8, (.ofNat (nat_lit 0))), (nat_lit 9, (.ofNat (nat_lit 0)))]), (nat_lit 4, nat_lit 0, [(nat_lit 0, (.ofNat (nat_lit 0))), (nat_lit 0, (.ofNat (nat_lit 9)))]), (nat_lit 0, nat_lit 1, [(nat_lit 0, (.ofNat (nat_lit 4))), (nat_lit 7, (.ofNat (nat_lit 0)))]), (nat_lit 4, nat_lit 0, [(nat_lit 0, (.ofNat (nat_lit 0))), (nat_lit 0, (.ofNat (nat_lit 18)))]), (nat_lit 6, nat_lit 2, [(nat_lit 6, (.ofNat (nat_lit 0))), (nat_lit 0, (.ofNat (nat_lit 0)))]), (nat_lit 8, nat_lit 3, [(nat_lit 4, (.ofNat (nat_lit 0))), (nat_lit 5, (.ofNat (nat_lit 0)))]), (nat_lit 4, nat_lit 0, [(nat_lit 0, (.ofNat (nat_lit 0))), (nat_lit 0, (.ofNat (nat_lit 9)))]), (nat_lit 4, nat_lit 0, [(nat_lit 0, (.ofNat (nat_lit 0))), (nat_lit 0, (.ofNat (nat_lit 18)))]), (nat_lit 6, nat_lit 0, [(nat_lit 3, (.ofNat (nat_lit 0))), (nat_lit 0, (.ofNat (nat_lit 2)))]), (nat_lit 4, nat_lit 0, [(nat_lit 0, (.ofNat (nat_lit 0))), (nat_lit 0, (.ofNat (nat_lit 8)))]), (nat_lit 8, nat_lit 1, []), (nat_lit 6, nat_lit 1, [(nat_lit 1, (.ofNat (nat_lit 0))), (nat_lit 0, (.ofNat (nat_lit 4)))]), (nat_lit 4, nat_lit 0, [(nat_lit 0, (.ofNat (nat_lit 0))), (nat_lit 0, (.ofNat (nat_lit 18)))])],
  [(nat_lit 13, nat_lit 0, [(nat_lit 0, (.ofNat (nat_lit 3)))]), (nat_lit 6, nat_lit 3, [(nat_lit 6, (.ofNat (nat_lit 0))), (nat_lit 0, (.ofNat (nat_lit 0)))]), (nat_lit 8, nat_lit 3, [(nat_lit 4, (.ofNat (nat_lit 0))), (nat_lit 5, (.ofNat (nat_lit 0)))]), (nat_lit 4, nat_lit 0, [(nat_lit 0, (.ofNat (nat_lit 0))), (nat_lit 0, (.ofNat (nat_lit 9)))]), (nat_lit 4, nat_lit 0, [(nat_lit 0, (.ofNat (nat_lit 0))), (nat_lit 0, (.ofNat (nat_lit 18)))]), (nat_lit 6, nat_lit 0, [(nat_lit 3, (.ofNat (nat_lit 0))), (nat_lit 0, (.ofNat (nat_lit 2)))]), (nat_lit 4, nat_lit 0, [(nat_lit 0, (.ofNat (nat_lit 0))), (nat_lit 0, (.ofNat (nat_lit 8)))]), (nat_lit 8, nat_lit 1, []), (nat_lit 6, nat_lit 1, [(nat_lit 1, (.ofNat (nat_lit 0))), (nat_lit 0, (.ofNat (nat_lit 4)))]), (nat_lit 4, nat_lit 0, [(nat_lit 0, (.ofNat (nat_lit 0))), (nat_lit 0, (.ofNat (nat_lit 18)))])],
  [(nat_lit 11, nat_lit 0, [(nat_lit 7, (.ofNat (nat_lit 0)))]), (nat_lit 8, nat_lit 0, [(nat_lit 0, (.ofNat (nat_lit 3)))]), (nat_lit 6, nat_lit 3, [(nat_lit 6, (.ofNat (nat_lit 0))), (nat_lit 0, (.ofNat (nat_lit 0)))]), (nat_lit 8, nat_lit 3, [(nat_lit 4, (.ofNat (nat_lit 0))), (nat_lit 5, (.ofNat (nat_lit 0)))]), (nat_lit 4, nat_lit 0, [(nat_lit 0, (.ofNat (nat_lit 0))), (nat_lit 0, (.ofNat (nat_lit 9)))]), (nat_lit 4, nat_lit 0, [(nat_lit 0, (.ofNat (nat_lit 0))), (nat_lit 0, (.ofNat (nat_lit 18)))]), (nat_lit 6, nat_lit 0, [(nat_lit 3, (.ofNat (nat_lit 0))), (nat_lit 0, (.ofNat (nat_lit 2)))]), (nat_lit 4, nat_lit 0, [(nat_lit 0, (.ofNat (nat_lit 0))), (nat_lit 0, (.ofNat (nat_lit 8)))]), (nat_lit 8, nat_lit 1, []), (nat_lit 6, nat_lit 1, [(nat_lit 1, (.ofNat (nat_lit 0))), (nat_lit 0, (.ofNat (nat_lit 4)))]), (nat_lit 4, nat_lit 0, [(nat_lit 0, (.ofNat (nat_lit 0))), (nat_lit 0, (.ofNat (nat_lit 18)))])],
  [(nat_lit 13, nat_lit 0, [(nat_lit 0, (.ofNat (nat_lit 1)))]), (nat_lit 6, nat_lit 1, [(nat_lit 3, (.ofNat (nat_lit 0))), (nat_lit 0, (.ofNat (nat_lit 2)))]), (nat_lit 4, nat_lit 0, [(nat_lit 0, (.ofNat (nat_lit 0))), (nat_lit 0, (.ofNat (nat_lit 8)))]), (nat_lit 8, nat_lit 1, []), (nat_lit 6, nat_lit 1, [(nat_lit 1, (.ofNat (nat_lit 0))), (nat_lit 0, (.ofNat (nat_lit 4)))]), (nat_lit 4, nat_lit 0, [(nat_lit 0, (.ofNat (nat_lit 0))), (nat_lit 0, (.ofNat (nat_lit 18)))])],
  [(nat_lit 11, nat_lit 0, [(nat_lit 4, (.ofNat (nat_lit 0)))]), (nat_lit 8, nat_lit 0, [(nat_lit 0, (.ofNat (nat_lit 1)))]), (nat_lit 6, nat_lit 1, [(nat_lit 3, (.ofNat (nat_lit 0))), (nat_lit 0, (.ofNat (nat_lit 2)))]), (nat_lit 4, nat_lit 0, [(nat_lit 0, (.ofNat (nat_lit 0))), (nat_lit 0, (.ofNat (nat_lit 8)))]), (nat_lit 8, nat_lit 1, []), (nat_lit 6, nat_lit 1, [(nat_lit 1, (.ofNat (nat_lit 0))), (nat_lit 0, (.ofNat (nat_lit 4)))]), (nat_lit 4, nat_lit 0, [(nat_lit 0, (.ofNat (nat_lit 0))), (nat_lit 0, (.ofNat (nat_lit 18)))])],
  [(nat_lit 13, nat_lit 0, [(nat_lit 0, (.ofNat (nat_lit 2)))]), (nat_lit 6, nat_lit 0, [(nat_lit 1, (.ofNat (nat_lit 0))), (nat_lit 0, (.ofNat (nat_lit 4)))]), (nat_lit 4, nat_lit 0, [(nat_lit 0, (.ofNat (nat_lit 0))), (nat_lit 0, (.ofNat (nat_lit 18)))])],
  [(nat_lit 11, nat_lit 0, [(nat_lit 2, (.ofNat (nat_lit 0)))]), (nat_lit 8, nat_lit 0, [(nat_lit 0, (.ofNat (nat_lit 2)))]), (nat_lit 6, nat_lit 0, [(nat_lit 1, (.ofNat (nat_lit 0))), (nat_lit 0, (.ofNat (nat_lit 4)))]), (nat_lit 4, nat_lit 0, [(nat_lit 0, (.ofNat (nat_lit 0))), (nat_lit 0, (.ofNat (nat_lit 18)))])]]
def zFne_guestLine : List (List zK) := []
set_option maxHeartbeats 8000000 in
theorem zne_guestLine_o0 {ro : Nat → List Int32} (η : zE) (hp : sP wl_ne zTr zPne_guestLine [] η) (hpp : pPne_guestLine [] η) : ∀ x1 : Int, x1 = η 0 (Int.toNat 18) → zok 0 x1 → (¬ x1 = 4) → ((gC2 wl_ne [(nat_lit 0, zPne_wrong, zOne_wrong, zMne_wrong), (nat_lit 1, zPne_token, zOne_token, zMne_token), (nat_lit 2, zPne_number, zOne_number, zMne_number), (nat_lit 3, zPne_find_g, zOne_find_g, zMne_find_g)] pCne_guestLine qCne_guestLine) 1).1 [] η := by
  have hk : ¬ η 0 8 = 0 := hpp.2
  intro x1 e1 r1 c1
  have w0_0_18 : (0 : Int) ≤ η 0 18 ∧ η 0 18 ≤ 4 := wf_ok (a := 18) (b := 18) (z := (0, 4)) hp.1 (by decide +kernel) (Nat.le_refl _) (Nat.le_refl _)
  replace e1 : x1 = η 0 18 := e1
  have w0_0_7 : (0 : Int) ≤ η 0 7 ∧ η 0 7 ≤ 700 := wf_ok (a := 7) (b := 7) (z := (0, 700)) hp.1 (by decide +kernel) (Nat.le_refl _) (Nat.le_refl _)
  have f0_7 : η 0 7 = η 0 7 := rfl
  have w0_0_6 : (0 : Int) ≤ η 0 6 ∧ η 0 6 ≤ 700 := wf_ok (a := 6) (b := 6) (z := (0, 700)) hp.1 (by decide +kernel) (Nat.le_refl _) (Nat.le_refl _)
  have f0_6 : η 0 6 = η 0 6 := rfl
  have w0_0_8 : (0 : Int) ≤ η 0 8 ∧ η 0 8 ≤ 6 := wf_ok (a := 8) (b := 8) (z := (0, 6)) hp.1 (by decide +kernel) (Nat.le_refl _) (Nat.le_refl _)
  have f0_8 : η 0 8 = η 0 8 := rfl
  exact hpp.1
set_option maxHeartbeats 8000000 in
theorem zne_guestLine_o1 {ro : Nat → List Int32} (η : zE) (hp : sP wl_ne zTr zPne_guestLine [] η) (hpp : pPne_guestLine [] η) : ∀ x1 : Int, x1 = η 0 (Int.toNat 18) → zok 0 x1 → (¬ x1 = 4) → ∀ (x2 : Int) (η1 : zE), ((gC2 wl_ne [(nat_lit 0, zPne_wrong, zOne_wrong, zMne_wrong), (nat_lit 1, zPne_token, zOne_token, zMne_token), (nat_lit 2, zPne_number, zOne_number, zMne_number), (nat_lit 3, zPne_find_g, zOne_find_g, zMne_find_g)] pCne_guestLine qCne_guestLine) 1).2 [] η x2 η1 → ∀ x3 : Int, x3 = η1 0 (Int.toNat 8) → zok 0 x3 → (x3 = 2) → ∀ x4 : Int, x4 = η1 0 (Int.toNat 18) → zok 0 x4 → ∀ x5 : Int, x5 = η1 0 (Int.toNat 9) → zok 0 x5 → ((gC2 wl_ne [(nat_lit 0, zPne_wrong, zOne_wrong, zMne_wrong), (nat_lit 1, zPne_token, zOne_token, zMne_token), (nat_lit 2, zPne_number, zOne_number, zMne_number), (nat_lit 3, zPne_find_g, zOne_find_g, zMne_find_g)] pCne_guestLine qCne_guestLine) 3).1 [x4, x5] η1 := by
  have hk : ¬ η 0 8 = 0 := hpp.2
  intro x1 e1 r1 c1 x2 η1 h2 x3 e3 r3 c2 x4 e4 r4 x5 e5 r5
  have y2 : fQne_token [] η x2 η1 := h2.2.2
  have k2 : sQ wl_ne zTr zOne_token zMne_token [] η x2 η1 ∧ oQne_token [] η x2 η1 := ⟨h2.1, h2.2.1⟩
  have w0_0_18 : (0 : Int) ≤ η 0 18 ∧ η 0 18 ≤ 4 := wf_ok (a := 18) (b := 18) (z := (0, 4)) hp.1 (by decide +kernel) (Nat.le_refl _) (Nat.le_refl _)
  replace e1 : x1 = η 0 18 := e1
  have w0_0_7 : (0 : Int) ≤ η 0 7 ∧ η 0 7 ≤ 700 := wf_ok (a := 7) (b := 7) (z := (0, 700)) hp.1 (by decide +kernel) (Nat.le_refl _) (Nat.le_refl _)
  have c0_0_7 : η 0 7 = η 0 7 := rfl
  have w0_0_6 : (0 : Int) ≤ η 0 6 ∧ η 0 6 ≤ 700 := wf_ok (a := 6) (b := 6) (z := (0, 700)) hp.1 (by decide +kernel) (Nat.le_refl _) (Nat.le_refl _)
  have c0_0_6 : η 0 6 = η 0 6 := rfl
  have w0_0_8 : (0 : Int) ≤ η 0 8 ∧ η 0 8 ≤ 6 := wf_ok (a := 8) (b := 8) (z := (0, 6)) hp.1 (by decide +kernel) (Nat.le_refl _) (Nat.le_refl _)
  have c0_0_8 : η 0 8 = η 0 8 := rfl
  have bx2 : (0 : Int) ≤ x2 ∧ x2 ≤ 0 := k2.1.2.1
  have w1_0_7 : (0 : Int) ≤ η1 0 7 ∧ η1 0 7 ≤ 700 := wf_ok (a := 7) (b := 7) (z := (0, 700)) k2.1.1 (by decide +kernel) (Nat.le_refl _) (Nat.le_refl _)
  have d1_0_7 : η1 0 7 = η1 0 7 := rfl
  have v5 : zEq (η1 0 6) (η 0 6) := (k2.1.2.2.2.1 0 6 (by decide +kernel)).trans rfl
  have d1_0_6 : η1 0 6 = η 0 6 := v5
  have w1_0_8 : (0 : Int) ≤ η1 0 8 ∧ η1 0 8 ≤ 6 := wf_ok (a := 8) (b := 8) (z := (0, 6)) k2.1.1 (by decide +kernel) (Nat.le_refl _) (Nat.le_refl _)
  have d1_0_8 : η1 0 8 = η1 0 8 := rfl
  replace e3 : x3 = η1 0 8 := e3
  have v7 : zEq (η1 0 18) (η 0 18) := (k2.1.2.2.2.1 0 18 (by decide +kernel)).trans rfl
  replace e4 : x4 = η 0 18 := e4.trans v7
  replace e5 : x5 = η1 0 9 := e5
  replace r5 : -2147483648 ≤ x5 ∧ x5 ≤ 2147483647 := r5
  have f0_7 : η1 0 7 = η1 0 7 := rfl
  have f0_6 : η1 0 6 = η 0 6 := v5
  have f0_8 : η1 0 8 = η1 0 8 := rfl
  have qt2 : ¬ η 0 8 = 0 → 10 * (η1 0 6 - η1 0 7) + η1 0 8 < 10 * (η 0 6 - η 0 7) + η 0 8 := k2.2.2
  exact k2.2.1
set_option maxHeartbeats 8000000 in
theorem zne_guestLine_o2 {ro : Nat → List Int32} (η : zE) (hp : sP wl_ne zTr zPne_guestLine [] η) (hpp : pPne_guestLine [] η) : ∀ x1 : Int, x1 = η 0 (Int.toNat 18) → zok 0 x1 → (¬ x1 = 4) → ∀ (x2 : Int) (η1 : zE), ((gC2 wl_ne [(nat_lit 0, zPne_wrong, zOne_wrong, zMne_wrong), (nat_lit 1, zPne_token, zOne_token, zMne_token), (nat_lit 2, zPne_number, zOne_number, zMne_number), (nat_lit 3, zPne_find_g, zOne_find_g, zMne_find_g)] pCne_guestLine qCne_guestLine) 1).2 [] η x2 η1 → ∀ x3 : Int, x3 = η1 0 (Int.toNat 8) → zok 0 x3 → (x3 = 2) → ∀ x4 : Int, x4 = η1 0 (Int.toNat 18) → zok 0 x4 → ∀ x5 : Int, x5 = η1 0 (Int.toNat 9) → zok 0 x5 → ∀ (x6 : Int) (η2 : zE), ((gC2 wl_ne [(nat_lit 0, zPne_wrong, zOne_wrong, zMne_wrong), (nat_lit 1, zPne_token, zOne_token, zMne_token), (nat_lit 2, zPne_number, zOne_number, zMne_number), (nat_lit 3, zPne_find_g, zOne_find_g, zMne_find_g)] pCne_guestLine qCne_guestLine) 3).2 [x4, x5] η1 x6 η2 → (x6 < 0) → ∀ x7 : Int, x7 = η2 0 (Int.toNat 18) → zok 0 x7 → ∀ x8 : Int, x8 = zd 0 1 4 x7 → ∀ x9 : Int, x9 = η2 0 (Int.toNat 9) → zok 0 x9 → ∀ η3 : zE, η3 = zup η2 12 (Int.toNat x8) x9 → ((gC2 wl_ne [(nat_lit 0, zPne_wrong, zOne_wrong, zMne_wrong), (nat_lit 1, zPne_token, zOne_token, zMne_token), (nat_lit 2, zPne_number, zOne_number, zMne_number), (nat_lit 3, zPne_find_g, zOne_find_g, zMne_find_g)] pCne_guestLine qCne_guestLine) 1).1 [] η3 := by
  intro x1 e1 r1 c1 x2 η1 h2 x3 e3 r3 c2 x4 e4 r4 x5 e5 r5 x6 η2 h6 c3 x7 e7 r7 x8 e8 x9 e9 r9 η3 eη3
  have y2 : fQne_token [] η x2 η1 := h2.2.2
  have k2 : sQ wl_ne zTr zOne_token zMne_token [] η x2 η1 ∧ oQne_token [] η x2 η1 := ⟨h2.1, h2.2.1⟩
  have y6 : fQne_find_g [x4, x5] η1 x6 η2 := h6.2.2
  have k6 : sQ wl_ne zTr zOne_find_g zMne_find_g [x4, x5] η1 x6 η2 ∧ oQne_find_g [x4, x5] η1 x6 η2 := ⟨h6.1, h6.2.1⟩
  have g1 : G_ne η3 := by rw [eη3]; exact zGk_up gk_ne k6.2 (by decide +kernel)
  exact g1
set_option maxHeartbeats 8000000 in
theorem zne_guestLine_o3 {ro : Nat → List Int32} (η : zE) (hp : sP wl_ne zTr zPne_guestLine [] η) (hpp : pPne_guestLine [] η) : ∀ x1 : Int, x1 = η 0 (Int.toNat 18) → zok 0 x1 → (¬ x1 = 4) → ∀ (x2 : Int) (η1 : zE), ((gC2 wl_ne [(nat_lit 0, zPne_wrong, zOne_wrong, zMne_wrong), (nat_lit 1, zPne_token, zOne_token, zMne_token), (nat_lit 2, zPne_number, zOne_number, zMne_number), (nat_lit 3, zPne_find_g, zOne_find_g, zMne_find_g)] pCne_guestLine qCne_guestLine) 1).2 [] η x2 η1 → ∀ x3 : Int, x3 = η1 0 (Int.toNat 8) → zok 0 x3 → (x3 = 2) → ∀ x4 : Int, x4 = η1 0 (Int.toNat 18) → zok 0 x4 → ∀ x5 : Int, x5 = η1 0 (Int.toNat 9) → zok 0 x5 → ∀ (x6 : Int) (η2 : zE), ((gC2 wl_ne [(nat_lit 0, zPne_wrong, zOne_wrong, zMne_wrong), (nat_lit 1, zPne_token, zOne_token, zMne_token), (nat_lit 2, zPne_number, zOne_number, zMne_number), (nat_lit 3, zPne_find_g, zOne_find_g, zMne_find_g)] pCne_guestLine qCne_guestLine) 3).2 [x4, x5] η1 x6 η2 → (x6 < 0) → ∀ x7 : Int, x7 = η2 0 (Int.toNat 18) → zok 0 x7 → ∀ x8 : Int, x8 = zd 0 1 4 x7 → ∀ x9 : Int, x9 = η2 0 (Int.toNat 9) → zok 0 x9 → ∀ η3 : zE, η3 = zup η2 12 (Int.toNat x8) x9 → ∀ (x10 : Int) (η4 : zE), ((gC2 wl_ne [(nat_lit 0, zPne_wrong, zOne_wrong, zMne_wrong), (nat_lit 1, zPne_token, zOne_token, zMne_token), (nat_lit 2, zPne_number, zOne_number, zMne_number), (nat_lit 3, zPne_find_g, zOne_find_g, zMne_find_g)] pCne_guestLine qCne_guestLine) 1).2 [] η3 x10 η4 → ((gC2 wl_ne [(nat_lit 0, zPne_wrong, zOne_wrong, zMne_wrong), (nat_lit 1, zPne_token, zOne_token, zMne_token), (nat_lit 2, zPne_number, zOne_number, zMne_number), (nat_lit 3, zPne_find_g, zOne_find_g, zMne_find_g)] pCne_guestLine qCne_guestLine) 2).1 [1, 9] η4 := by
  have hk : ¬ η 0 8 = 0 := hpp.2
  intro x1 e1 r1 c1 x2 η1 h2 x3 e3 r3 c2 x4 e4 r4 x5 e5 r5 x6 η2 h6 c3 x7 e7 r7 x8 e8 x9 e9 r9 η3 eη3 x10 η4 h10
  replace e8 := zEq_i e8
  have y2 : fQne_token [] η x2 η1 := h2.2.2
  have k2 : sQ wl_ne zTr zOne_token zMne_token [] η x2 η1 ∧ oQne_token [] η x2 η1 := ⟨h2.1, h2.2.1⟩
  have y6 : fQne_find_g [x4, x5] η1 x6 η2 := h6.2.2
  have k6 : sQ wl_ne zTr zOne_find_g zMne_find_g [x4, x5] η1 x6 η2 ∧ oQne_find_g [x4, x5] η1 x6 η2 := ⟨h6.1, h6.2.1⟩
  have y10 : fQne_token [] η3 x10 η4 := h10.2.2
  have k10 : sQ wl_ne zTr zOne_token zMne_token [] η3 x10 η4 ∧ oQne_token [] η3 x10 η4 := ⟨h10.1, h10.2.1⟩
  have w0_0_18 : (0 : Int) ≤ η 0 18 ∧ η 0 18 ≤ 4 := wf_ok (a := 18) (b := 18) (z := (0, 4)) hp.1 (by decide +kernel) (Nat.le_refl _) (Nat.le_refl _)
  replace e1 : x1 = η 0 18 := e1
  have w0_0_7 : (0 : Int) ≤ η 0 7 ∧ η 0 7 ≤ 700 := wf_ok (a := 7) (b := 7) (z := (0, 700)) hp.1 (by decide +kernel) (Nat.le_refl _) (Nat.le_refl _)
  have c0_0_7 : η 0 7 = η 0 7 := rfl
  have w0_0_6 : (0 : Int) ≤ η 0 6 ∧ η 0 6 ≤ 700 := wf_ok (a := 6) (b := 6) (z := (0, 700)) hp.1 (by decide +kernel) (Nat.le_refl _) (Nat.le_refl _)
  have c0_0_6 : η 0 6 = η 0 6 := rfl
  have w0_0_8 : (0 : Int) ≤ η 0 8 ∧ η 0 8 ≤ 6 := wf_ok (a := 8) (b := 8) (z := (0, 6)) hp.1 (by decide +kernel) (Nat.le_refl _) (Nat.le_refl _)
  have c0_0_8 : η 0 8 = η 0 8 := rfl
  have bx2 : (0 : Int) ≤ x2 ∧ x2 ≤ 0 := k2.1.2.1
  have w1_0_7 : (0 : Int) ≤ η1 0 7 ∧ η1 0 7 ≤ 700 := wf_ok (a := 7) (b := 7) (z := (0, 700)) k2.1.1 (by decide +kernel) (Nat.le_refl _) (Nat.le_refl _)
  have d1_0_7 : η1 0 7 = η1 0 7 := rfl
  have v5 : zEq (η1 0 6) (η 0 6) := (k2.1.2.2.2.1 0 6 (by decide +kernel)).trans rfl
  have d1_0_6 : η1 0 6 = η 0 6 := v5
  have w1_0_8 : (0 : Int) ≤ η1 0 8 ∧ η1 0 8 ≤ 6 := wf_ok (a := 8) (b := 8) (z := (0, 6)) k2.1.1 (by decide +kernel) (Nat.le_refl _) (Nat.le_refl _)
  have d1_0_8 : η1 0 8 = η1 0 8 := rfl
  replace e3 : x3 = η1 0 8 := e3
  have v7 : zEq (η1 0 18) (η 0 18) := (k2.1.2.2.2.1 0 18 (by decide +kernel)).trans rfl
  replace e4 : x4 = η 0 18 := e4.trans v7
  replace e5 : x5 = η1 0 9 := e5
  replace r5 : -2147483648 ≤ x5 ∧ x5 ≤ 2147483647 := r5
  have c1_0_7 : η1 0 7 = η1 0 7 := rfl
  have c1_0_6 : η1 0 6 = η 0 6 := v5
  have c1_0_8 : η1 0 8 = η1 0 8 := rfl
  have bx6 : ((-1) : Int) ≤ x6 ∧ x6 ≤ 3 := k6.1.2.1
  have v9 : zEq (η2 0 7) (η1 0 7) := (k6.1.2.2.2.1 0 7 (by decide +kernel)).trans rfl
  have d2_0_7 : η2 0 7 = η1 0 7 := v9
  have v10 : zEq (η2 0 6) (η 0 6) := (k6.1.2.2.2.1 0 6 (by decide +kernel)).trans v5
  have d2_0_6 : η2 0 6 = η 0 6 := v10
  have v11 : zEq (η2 0 8) (η1 0 8) := (k6.1.2.2.2.1 0 8 (by decide +kernel)).trans rfl
  have d2_0_8 : η2 0 8 = η1 0 8 := v11
  have v12 : zEq (η2 0 18) (η 0 18) := (k6.1.2.2.2.1 0 18 (by decide +kernel)).trans v7
  replace e7 : x7 = η 0 18 := e7.trans v12
  first
  | replace e8 : x8 = 4 + x7 := zd_a2 (zEq_o e8) (by clear e8; exact ⟨by omega, by omega⟩)
  | clear e8
  have v13 : zEq (η2 0 9) (η1 0 9) := (k6.1.2.2.2.1 0 9 (by decide +kernel)).trans rfl
  replace e9 : x9 = η1 0 9 := e9.trans v13
  replace r9 : -2147483648 ≤ x9 ∧ x9 ≤ 2147483647 := r9
  have v14 : zEq (η3 0 7) (η1 0 7) := by rw [eη3]; exact (zup_ne (fun e _ => absurd e (by decide))).trans v9
  have c3_0_7 : η3 0 7 = η1 0 7 := v14
  have v15 : zEq (η3 0 6) (η 0 6) := by rw [eη3]; exact (zup_ne (fun e _ => absurd e (by decide))).trans v10
  have c3_0_6 : η3 0 6 = η 0 6 := v15
  have v16 : zEq (η3 0 8) (η1 0 8) := by rw [eη3]; exact (zup_ne (fun e _ => absurd e (by decide))).trans v11
  have c3_0_8 : η3 0 8 = η1 0 8 := v16
  have bx10 : (0 : Int) ≤ x10 ∧ x10 ≤ 0 := k10.1.2.1
  have w4_0_7 : (0 : Int) ≤ η4 0 7 ∧ η4 0 7 ≤ 700 := wf_ok (a := 7) (b := 7) (z := (0, 700)) k10.1.1 (by decide +kernel) (Nat.le_refl _) (Nat.le_refl _)
  have d4_0_7 : η4 0 7 = η4 0 7 := rfl
  have v18 : zEq (η4 0 6) (η 0 6) := (k10.1.2.2.2.1 0 6 (by decide +kernel)).trans v15
  have d4_0_6 : η4 0 6 = η 0 6 := v18
  have w4_0_8 : (0 : Int) ≤ η4 0 8 ∧ η4 0 8 ≤ 6 := wf_ok (a := 8) (b := 8) (z := (0, 6)) k10.1.1 (by decide +kernel) (Nat.le_refl _) (Nat.le_refl _)
  have d4_0_8 : η4 0 8 = η4 0 8 := rfl
  have f0_7 : η4 0 7 = η4 0 7 := rfl
  have f0_6 : η4 0 6 = η 0 6 := v18
  have f0_8 : η4 0 8 = η4 0 8 := rfl
  have qt2 : ¬ η 0 8 = 0 → 10 * (η1 0 6 - η1 0 7) + η1 0 8 < 10 * (η 0 6 - η 0 7) + η 0 8 := k2.2.2
  have g3 : G_n η3 := by rw [eη3]; exact zGk_up gk_n k6.2 (by decide +kernel)
  have qt10 : ¬ η3 0 8 = 0 → 10 * (η4 0 6 - η4 0 7) + η4 0 8 < 10 * (η3 0 6 - η3 0 7) + η3 0 8 := k10.2.2
  exact k10.2.1
set_option maxHeartbeats 8000000 in
theorem zne_guestLine_o4 {ro : Nat → List Int32} (η : zE) (hp : sP wl_ne zTr zPne_guestLine [] η) (hpp : pPne_guestLine [] η) : ∀ x1 : Int, x1 = η 0 (Int.toNat 18) → zok 0 x1 → (¬ x1 = 4) → ∀ (x2 : Int) (η1 : zE), ((gC2 wl_ne [(nat_lit 0, zPne_wrong, zOne_wrong, zMne_wrong), (nat_lit 1, zPne_token, zOne_token, zMne_token), (nat_lit 2, zPne_number, zOne_number, zMne_number), (nat_lit 3, zPne_find_g, zOne_find_g, zMne_find_g)] pCne_guestLine qCne_guestLine) 1).2 [] η x2 η1 → ∀ x3 : Int, x3 = η1 0 (Int.toNat 8) → zok 0 x3 → (x3 = 2) → ∀ x4 : Int, x4 = η1 0 (Int.toNat 18) → zok 0 x4 → ∀ x5 : Int, x5 = η1 0 (Int.toNat 9) → zok 0 x5 → ∀ (x6 : Int) (η2 : zE), ((gC2 wl_ne [(nat_lit 0, zPne_wrong, zOne_wrong, zMne_wrong), (nat_lit 1, zPne_token, zOne_token, zMne_token), (nat_lit 2, zPne_number, zOne_number, zMne_number), (nat_lit 3, zPne_find_g, zOne_find_g, zMne_find_g)] pCne_guestLine qCne_guestLine) 3).2 [x4, x5] η1 x6 η2 → (x6 < 0) → ∀ x7 : Int, x7 = η2 0 (Int.toNat 18) → zok 0 x7 → ∀ x8 : Int, x8 = zd 0 1 4 x7 → ∀ x9 : Int, x9 = η2 0 (Int.toNat 9) → zok 0 x9 → ∀ η3 : zE, η3 = zup η2 12 (Int.toNat x8) x9 → ∀ (x10 : Int) (η4 : zE), ((gC2 wl_ne [(nat_lit 0, zPne_wrong, zOne_wrong, zMne_wrong), (nat_lit 1, zPne_token, zOne_token, zMne_token), (nat_lit 2, zPne_number, zOne_number, zMne_number), (nat_lit 3, zPne_find_g, zOne_find_g, zMne_find_g)] pCne_guestLine qCne_guestLine) 1).2 [] η3 x10 η4 → ∀ (x11 : Int) (η5 : zE), ((gC2 wl_ne [(nat_lit 0, zPne_wrong, zOne_wrong, zMne_wrong), (nat_lit 1, zPne_token, zOne_token, zMne_token), (nat_lit 2, zPne_number, zOne_number, zMne_number), (nat_lit 3, zPne_find_g, zOne_find_g, zMne_find_g)] pCne_guestLine qCne_guestLine) 2).2 [1, 9] η4 x11 η5 → (¬ x11 = 0) → ∀ x12 : Int, x12 = η5 0 (Int.toNat 11) → zok 0 x12 → ∀ η6 : zE, η6 = zup η5 13 (Int.toNat x8) x12 → ((gC2 wl_ne [(nat_lit 0, zPne_wrong, zOne_wrong, zMne_wrong), (nat_lit 1, zPne_token, zOne_token, zMne_token), (nat_lit 2, zPne_number, zOne_number, zMne_number), (nat_lit 3, zPne_find_g, zOne_find_g, zMne_find_g)] pCne_guestLine qCne_guestLine) 2).1 [0, 9] η6 := by
  have hk : ¬ η 0 8 = 0 := hpp.2
  intro x1 e1 r1 c1 x2 η1 h2 x3 e3 r3 c2 x4 e4 r4 x5 e5 r5 x6 η2 h6 c3 x7 e7 r7 x8 e8 x9 e9 r9 η3 eη3 x10 η4 h10 x11 η5 h11 c4 x12 e12 r12 η6 eη6
  replace e8 := zEq_i e8
  have y2 : fQne_token [] η x2 η1 := h2.2.2
  have k2 : sQ wl_ne zTr zOne_token zMne_token [] η x2 η1 ∧ oQne_token [] η x2 η1 := ⟨h2.1, h2.2.1⟩
  have y6 : fQne_find_g [x4, x5] η1 x6 η2 := h6.2.2
  have k6 : sQ wl_ne zTr zOne_find_g zMne_find_g [x4, x5] η1 x6 η2 ∧ oQne_find_g [x4, x5] η1 x6 η2 := ⟨h6.1, h6.2.1⟩
  have y10 : fQne_token [] η3 x10 η4 := h10.2.2
  have k10 : sQ wl_ne zTr zOne_token zMne_token [] η3 x10 η4 ∧ oQne_token [] η3 x10 η4 := ⟨h10.1, h10.2.1⟩
  have y11 : fQne_number [1, 9] η4 x11 η5 := h11.2.2
  have k11 : sQ wl_ne zTr zOne_number zMne_number [1, 9] η4 x11 η5 ∧ oQne_number [1, 9] η4 x11 η5 := ⟨h11.1, h11.2.1⟩
  have w0_0_18 : (0 : Int) ≤ η 0 18 ∧ η 0 18 ≤ 4 := wf_ok (a := 18) (b := 18) (z := (0, 4)) hp.1 (by decide +kernel) (Nat.le_refl _) (Nat.le_refl _)
  replace e1 : x1 = η 0 18 := e1
  have w0_0_7 : (0 : Int) ≤ η 0 7 ∧ η 0 7 ≤ 700 := wf_ok (a := 7) (b := 7) (z := (0, 700)) hp.1 (by decide +kernel) (Nat.le_refl _) (Nat.le_refl _)
  have c0_0_7 : η 0 7 = η 0 7 := rfl
  have w0_0_6 : (0 : Int) ≤ η 0 6 ∧ η 0 6 ≤ 700 := wf_ok (a := 6) (b := 6) (z := (0, 700)) hp.1 (by decide +kernel) (Nat.le_refl _) (Nat.le_refl _)
  have c0_0_6 : η 0 6 = η 0 6 := rfl
  have w0_0_8 : (0 : Int) ≤ η 0 8 ∧ η 0 8 ≤ 6 := wf_ok (a := 8) (b := 8) (z := (0, 6)) hp.1 (by decide +kernel) (Nat.le_refl _) (Nat.le_refl _)
  have c0_0_8 : η 0 8 = η 0 8 := rfl
  have bx2 : (0 : Int) ≤ x2 ∧ x2 ≤ 0 := k2.1.2.1
  have w1_0_7 : (0 : Int) ≤ η1 0 7 ∧ η1 0 7 ≤ 700 := wf_ok (a := 7) (b := 7) (z := (0, 700)) k2.1.1 (by decide +kernel) (Nat.le_refl _) (Nat.le_refl _)
  have d1_0_7 : η1 0 7 = η1 0 7 := rfl
  have v5 : zEq (η1 0 6) (η 0 6) := (k2.1.2.2.2.1 0 6 (by decide +kernel)).trans rfl
  have d1_0_6 : η1 0 6 = η 0 6 := v5
  have w1_0_8 : (0 : Int) ≤ η1 0 8 ∧ η1 0 8 ≤ 6 := wf_ok (a := 8) (b := 8) (z := (0, 6)) k2.1.1 (by decide +kernel) (Nat.le_refl _) (Nat.le_refl _)
  have d1_0_8 : η1 0 8 = η1 0 8 := rfl
  replace e3 : x3 = η1 0 8 := e3
  have v7 : zEq (η1 0 18) (η 0 18) := (k2.1.2.2.2.1 0 18 (by decide +kernel)).trans rfl
  replace e4 : x4 = η 0 18 := e4.trans v7
  replace e5 : x5 = η1 0 9 := e5
  replace r5 : -2147483648 ≤ x5 ∧ x5 ≤ 2147483647 := r5
  have c1_0_7 : η1 0 7 = η1 0 7 := rfl
  have c1_0_6 : η1 0 6 = η 0 6 := v5
  have c1_0_8 : η1 0 8 = η1 0 8 := rfl
  have bx6 : ((-1) : Int) ≤ x6 ∧ x6 ≤ 3 := k6.1.2.1
  have v9 : zEq (η2 0 7) (η1 0 7) := (k6.1.2.2.2.1 0 7 (by decide +kernel)).trans rfl
  have d2_0_7 : η2 0 7 = η1 0 7 := v9
  have v10 : zEq (η2 0 6) (η 0 6) := (k6.1.2.2.2.1 0 6 (by decide +kernel)).trans v5
  have d2_0_6 : η2 0 6 = η 0 6 := v10
  have v11 : zEq (η2 0 8) (η1 0 8) := (k6.1.2.2.2.1 0 8 (by decide +kernel)).trans rfl
  have d2_0_8 : η2 0 8 = η1 0 8 := v11
  have v12 : zEq (η2 0 18) (η 0 18) := (k6.1.2.2.2.1 0 18 (by decide +kernel)).trans v7
  replace e7 : x7 = η 0 18 := e7.trans v12
  first
  | replace e8 : x8 = 4 + x7 := zd_a2 (zEq_o e8) (by clear e8; exact ⟨by omega, by omega⟩)
  | clear e8
  have v13 : zEq (η2 0 9) (η1 0 9) := (k6.1.2.2.2.1 0 9 (by decide +kernel)).trans rfl
  replace e9 : x9 = η1 0 9 := e9.trans v13
  replace r9 : -2147483648 ≤ x9 ∧ x9 ≤ 2147483647 := r9
  have v14 : zEq (η3 0 7) (η1 0 7) := by rw [eη3]; exact (zup_ne (fun e _ => absurd e (by decide))).trans v9
  have c3_0_7 : η3 0 7 = η1 0 7 := v14
  have v15 : zEq (η3 0 6) (η 0 6) := by rw [eη3]; exact (zup_ne (fun e _ => absurd e (by decide))).trans v10
  have c3_0_6 : η3 0 6 = η 0 6 := v15
  have v16 : zEq (η3 0 8) (η1 0 8) := by rw [eη3]; exact (zup_ne (fun e _ => absurd e (by decide))).trans v11
  have c3_0_8 : η3 0 8 = η1 0 8 := v16
  have bx10 : (0 : Int) ≤ x10 ∧ x10 ≤ 0 := k10.1.2.1
  have w4_0_7 : (0 : Int) ≤ η4 0 7 ∧ η4 0 7 ≤ 700 := wf_ok (a := 7) (b := 7) (z := (0, 700)) k10.1.1 (by decide +kernel) (Nat.le_refl _) (Nat.le_refl _)
  have d4_0_7 : η4 0 7 = η4 0 7 := rfl
  have v18 : zEq (η4 0 6) (η 0 6) := (k10.1.2.2.2.1 0 6 (by decide +kernel)).trans v15
  have d4_0_6 : η4 0 6 = η 0 6 := v18
  have w4_0_8 : (0 : Int) ≤ η4 0 8 ∧ η4 0 8 ≤ 6 := wf_ok (a := 8) (b := 8) (z := (0, 6)) k10.1.1 (by decide +kernel) (Nat.le_refl _) (Nat.le_refl _)
  have d4_0_8 : η4 0 8 = η4 0 8 := rfl
  have c4_0_7 : η4 0 7 = η4 0 7 := rfl
  have c4_0_6 : η4 0 6 = η 0 6 := v18
  have c4_0_8 : η4 0 8 = η4 0 8 := rfl
  have bx11 : (0 : Int) ≤ x11 ∧ x11 ≤ 1 := k11.1.2.1
  have w5_0_7 : (0 : Int) ≤ η5 0 7 ∧ η5 0 7 ≤ 700 := wf_ok (a := 7) (b := 7) (z := (0, 700)) k11.1.1 (by decide +kernel) (Nat.le_refl _) (Nat.le_refl _)
  have d5_0_7 : η5 0 7 = η5 0 7 := rfl
  have v21 : zEq (η5 0 6) (η 0 6) := (k11.1.2.2.2.1 0 6 (by decide +kernel)).trans v18
  have d5_0_6 : η5 0 6 = η 0 6 := v21
  have w5_0_8 : (0 : Int) ≤ η5 0 8 ∧ η5 0 8 ≤ 6 := wf_ok (a := 8) (b := 8) (z := (0, 6)) k11.1.1 (by decide +kernel) (Nat.le_refl _) (Nat.le_refl _)
  have d5_0_8 : η5 0 8 = η5 0 8 := rfl
  replace e12 : x12 = η5 0 11 := e12
  replace r12 : -2147483648 ≤ x12 ∧ x12 ≤ 2147483647 := r12
  have v24 : zEq (η6 0 7) (η5 0 7) := by rw [eη6]; exact (zup_ne (fun e _ => absurd e (by decide))).trans rfl
  have f0_7 : η6 0 7 = η5 0 7 := v24
  have v25 : zEq (η6 0 6) (η 0 6) := by rw [eη6]; exact (zup_ne (fun e _ => absurd e (by decide))).trans v21
  have f0_6 : η6 0 6 = η 0 6 := v25
  have v26 : zEq (η6 0 8) (η5 0 8) := by rw [eη6]; exact (zup_ne (fun e _ => absurd e (by decide))).trans rfl
  have f0_8 : η6 0 8 = η5 0 8 := v26
  have qt2 : ¬ η 0 8 = 0 → 10 * (η1 0 6 - η1 0 7) + η1 0 8 < 10 * (η 0 6 - η 0 7) + η 0 8 := k2.2.2
  have g3 : G_n η3 := by rw [eη3]; exact zGk_up gk_n k6.2 (by decide +kernel)
  have qt10 : ¬ η3 0 8 = 0 → 10 * (η4 0 6 - η4 0 7) + η4 0 8 < 10 * (η3 0 6 - η3 0 7) + η3 0 8 := k10.2.2
  have qn11 : ¬ x11 = 0 → 10 * (η5 0 6 - η5 0 7) + η5 0 8 < 10 * (η4 0 6 - η4 0 7) + η4 0 8 := k11.2.2
  have g6 : G_n η6 := by rw [eη6]; exact zGk_up gk_n k11.2.1 (by decide +kernel)
  exact g6
set_option maxHeartbeats 8000000 in
theorem zne_guestLine_o5 {ro : Nat → List Int32} (η : zE) (hp : sP wl_ne zTr zPne_guestLine [] η) (hpp : pPne_guestLine [] η) : ∀ x1 : Int, x1 = η 0 (Int.toNat 18) → zok 0 x1 → (¬ x1 = 4) → ∀ (x2 : Int) (η1 : zE), ((gC2 wl_ne [(nat_lit 0, zPne_wrong, zOne_wrong, zMne_wrong), (nat_lit 1, zPne_token, zOne_token, zMne_token), (nat_lit 2, zPne_number, zOne_number, zMne_number), (nat_lit 3, zPne_find_g, zOne_find_g, zMne_find_g)] pCne_guestLine qCne_guestLine) 1).2 [] η x2 η1 → ∀ x3 : Int, x3 = η1 0 (Int.toNat 8) → zok 0 x3 → (x3 = 2) → ∀ x4 : Int, x4 = η1 0 (Int.toNat 18) → zok 0 x4 → ∀ x5 : Int, x5 = η1 0 (Int.toNat 9) → zok 0 x5 → ∀ (x6 : Int) (η2 : zE), ((gC2 wl_ne [(nat_lit 0, zPne_wrong, zOne_wrong, zMne_wrong), (nat_lit 1, zPne_token, zOne_token, zMne_token), (nat_lit 2, zPne_number, zOne_number, zMne_number), (nat_lit 3, zPne_find_g, zOne_find_g, zMne_find_g)] pCne_guestLine qCne_guestLine) 3).2 [x4, x5] η1 x6 η2 → (x6 < 0) → ∀ x7 : Int, x7 = η2 0 (Int.toNat 18) → zok 0 x7 → ∀ x8 : Int, x8 = zd 0 1 4 x7 → ∀ x9 : Int, x9 = η2 0 (Int.toNat 9) → zok 0 x9 → ∀ η3 : zE, η3 = zup η2 12 (Int.toNat x8) x9 → ∀ (x10 : Int) (η4 : zE), ((gC2 wl_ne [(nat_lit 0, zPne_wrong, zOne_wrong, zMne_wrong), (nat_lit 1, zPne_token, zOne_token, zMne_token), (nat_lit 2, zPne_number, zOne_number, zMne_number), (nat_lit 3, zPne_find_g, zOne_find_g, zMne_find_g)] pCne_guestLine qCne_guestLine) 1).2 [] η3 x10 η4 → ∀ (x11 : Int) (η5 : zE), ((gC2 wl_ne [(nat_lit 0, zPne_wrong, zOne_wrong, zMne_wrong), (nat_lit 1, zPne_token, zOne_token, zMne_token), (nat_lit 2, zPne_number, zOne_number, zMne_number), (nat_lit 3, zPne_find_g, zOne_find_g, zMne_find_g)] pCne_guestLine qCne_guestLine) 2).2 [1, 9] η4 x11 η5 → (¬ x11 = 0) → ∀ x12 : Int, x12 = η5 0 (Int.toNat 11) → zok 0 x12 → ∀ η6 : zE, η6 = zup η5 13 (Int.toNat x8) x12 → ∀ (x13 : Int) (η7 : zE), ((gC2 wl_ne [(nat_lit 0, zPne_wrong, zOne_wrong, zMne_wrong), (nat_lit 1, zPne_token, zOne_token, zMne_token), (nat_lit 2, zPne_number, zOne_number, zMne_number), (nat_lit 3, zPne_find_g, zOne_find_g, zMne_find_g)] pCne_guestLine qCne_guestLine) 2).2 [0, 9] η6 x13 η7 → (¬ x13 = 0) → ∀ x14 : Int, x14 = η7 0 (Int.toNat 11) → zok 0 x14 → ∀ η8 : zE, η8 = zup η7 14 (Int.toNat x8) x14 → ((gC2 wl_ne [(nat_lit 0, zPne_wrong, zOne_wrong, zMne_wrong), (nat_lit 1, zPne_token, zOne_token, zMne_token), (nat_lit 2, zPne_number, zOne_number, zMne_number), (nat_lit 3, zPne_find_g, zOne_find_g, zMne_find_g)] pCne_guestLine qCne_guestLine) 2).1 [0, 99] η8 := by
  have hk : ¬ η 0 8 = 0 := hpp.2
  intro x1 e1 r1 c1 x2 η1 h2 x3 e3 r3 c2 x4 e4 r4 x5 e5 r5 x6 η2 h6 c3 x7 e7 r7 x8 e8 x9 e9 r9 η3 eη3 x10 η4 h10 x11 η5 h11 c4 x12 e12 r12 η6 eη6 x13 η7 h13 c5 x14 e14 r14 η8 eη8
  replace e8 := zEq_i e8
  have y2 : fQne_token [] η x2 η1 := h2.2.2
  have k2 : sQ wl_ne zTr zOne_token zMne_token [] η x2 η1 ∧ oQne_token [] η x2 η1 := ⟨h2.1, h2.2.1⟩
  have y6 : fQne_find_g [x4, x5] η1 x6 η2 := h6.2.2
  have k6 : sQ wl_ne zTr zOne_find_g zMne_find_g [x4, x5] η1 x6 η2 ∧ oQne_find_g [x4, x5] η1 x6 η2 := ⟨h6.1, h6.2.1⟩
  have y10 : fQne_token [] η3 x10 η4 := h10.2.2
  have k10 : sQ wl_ne zTr zOne_token zMne_token [] η3 x10 η4 ∧ oQne_token [] η3 x10 η4 := ⟨h10.1, h10.2.1⟩
  have y11 : fQne_number [1, 9] η4 x11 η5 := h11.2.2
  have k11 : sQ wl_ne zTr zOne_number zMne_number [1, 9] η4 x11 η5 ∧ oQne_number [1, 9] η4 x11 η5 := ⟨h11.1, h11.2.1⟩
  have y13 : fQne_number [0, 9] η6 x13 η7 := h13.2.2
  have k13 : sQ wl_ne zTr zOne_number zMne_number [0, 9] η6 x13 η7 ∧ oQne_number [0, 9] η6 x13 η7 := ⟨h13.1, h13.2.1⟩
  have w0_0_18 : (0 : Int) ≤ η 0 18 ∧ η 0 18 ≤ 4 := wf_ok (a := 18) (b := 18) (z := (0, 4)) hp.1 (by decide +kernel) (Nat.le_refl _) (Nat.le_refl _)
  replace e1 : x1 = η 0 18 := e1
  have w0_0_7 : (0 : Int) ≤ η 0 7 ∧ η 0 7 ≤ 700 := wf_ok (a := 7) (b := 7) (z := (0, 700)) hp.1 (by decide +kernel) (Nat.le_refl _) (Nat.le_refl _)
  have c0_0_7 : η 0 7 = η 0 7 := rfl
  have w0_0_6 : (0 : Int) ≤ η 0 6 ∧ η 0 6 ≤ 700 := wf_ok (a := 6) (b := 6) (z := (0, 700)) hp.1 (by decide +kernel) (Nat.le_refl _) (Nat.le_refl _)
  have c0_0_6 : η 0 6 = η 0 6 := rfl
  have w0_0_8 : (0 : Int) ≤ η 0 8 ∧ η 0 8 ≤ 6 := wf_ok (a := 8) (b := 8) (z := (0, 6)) hp.1 (by decide +kernel) (Nat.le_refl _) (Nat.le_refl _)
  have c0_0_8 : η 0 8 = η 0 8 := rfl
  have bx2 : (0 : Int) ≤ x2 ∧ x2 ≤ 0 := k2.1.2.1
  have w1_0_7 : (0 : Int) ≤ η1 0 7 ∧ η1 0 7 ≤ 700 := wf_ok (a := 7) (b := 7) (z := (0, 700)) k2.1.1 (by decide +kernel) (Nat.le_refl _) (Nat.le_refl _)
  have d1_0_7 : η1 0 7 = η1 0 7 := rfl
  have v5 : zEq (η1 0 6) (η 0 6) := (k2.1.2.2.2.1 0 6 (by decide +kernel)).trans rfl
  have d1_0_6 : η1 0 6 = η 0 6 := v5
  have w1_0_8 : (0 : Int) ≤ η1 0 8 ∧ η1 0 8 ≤ 6 := wf_ok (a := 8) (b := 8) (z := (0, 6)) k2.1.1 (by decide +kernel) (Nat.le_refl _) (Nat.le_refl _)
  have d1_0_8 : η1 0 8 = η1 0 8 := rfl
  replace e3 : x3 = η1 0 8 := e3
  have v7 : zEq (η1 0 18) (η 0 18) := (k2.1.2.2.2.1 0 18 (by decide +kernel)).trans rfl
  replace e4 : x4 = η 0 18 := e4.trans v7
  replace e5 : x5 = η1 0 9 := e5
  replace r5 : -2147483648 ≤ x5 ∧ x5 ≤ 2147483647 := r5
  have c1_0_7 : η1 0 7 = η1 0 7 := rfl
  have c1_0_6 : η1 0 6 = η 0 6 := v5
  have c1_0_8 : η1 0 8 = η1 0 8 := rfl
  have bx6 : ((-1) : Int) ≤ x6 ∧ x6 ≤ 3 := k6.1.2.1
  have v9 : zEq (η2 0 7) (η1 0 7) := (k6.1.2.2.2.1 0 7 (by decide +kernel)).trans rfl
  have d2_0_7 : η2 0 7 = η1 0 7 := v9
  have v10 : zEq (η2 0 6) (η 0 6) := (k6.1.2.2.2.1 0 6 (by decide +kernel)).trans v5
  have d2_0_6 : η2 0 6 = η 0 6 := v10
  have v11 : zEq (η2 0 8) (η1 0 8) := (k6.1.2.2.2.1 0 8 (by decide +kernel)).trans rfl
  have d2_0_8 : η2 0 8 = η1 0 8 := v11
  have v12 : zEq (η2 0 18) (η 0 18) := (k6.1.2.2.2.1 0 18 (by decide +kernel)).trans v7
  replace e7 : x7 = η 0 18 := e7.trans v12
  first
  | replace e8 : x8 = 4 + x7 := zd_a2 (zEq_o e8) (by clear e8; exact ⟨by omega, by omega⟩)
  | clear e8
  have v13 : zEq (η2 0 9) (η1 0 9) := (k6.1.2.2.2.1 0 9 (by decide +kernel)).trans rfl
  replace e9 : x9 = η1 0 9 := e9.trans v13
  replace r9 : -2147483648 ≤ x9 ∧ x9 ≤ 2147483647 := r9
  have v14 : zEq (η3 0 7) (η1 0 7) := by rw [eη3]; exact (zup_ne (fun e _ => absurd e (by decide))).trans v9
  have c3_0_7 : η3 0 7 = η1 0 7 := v14
  have v15 : zEq (η3 0 6) (η 0 6) := by rw [eη3]; exact (zup_ne (fun e _ => absurd e (by decide))).trans v10
  have c3_0_6 : η3 0 6 = η 0 6 := v15
  have v16 : zEq (η3 0 8) (η1 0 8) := by rw [eη3]; exact (zup_ne (fun e _ => absurd e (by decide))).trans v11
  have c3_0_8 : η3 0 8 = η1 0 8 := v16
  have bx10 : (0 : Int) ≤ x10 ∧ x10 ≤ 0 := k10.1.2.1
  have w4_0_7 : (0 : Int) ≤ η4 0 7 ∧ η4 0 7 ≤ 700 := wf_ok (a := 7) (b := 7) (z := (0, 700)) k10.1.1 (by decide +kernel) (Nat.le_refl _) (Nat.le_refl _)
  have d4_0_7 : η4 0 7 = η4 0 7 := rfl
  have v18 : zEq (η4 0 6) (η 0 6) := (k10.1.2.2.2.1 0 6 (by decide +kernel)).trans v15
  have d4_0_6 : η4 0 6 = η 0 6 := v18
  have w4_0_8 : (0 : Int) ≤ η4 0 8 ∧ η4 0 8 ≤ 6 := wf_ok (a := 8) (b := 8) (z := (0, 6)) k10.1.1 (by decide +kernel) (Nat.le_refl _) (Nat.le_refl _)
  have d4_0_8 : η4 0 8 = η4 0 8 := rfl
  have c4_0_7 : η4 0 7 = η4 0 7 := rfl
  have c4_0_6 : η4 0 6 = η 0 6 := v18
  have c4_0_8 : η4 0 8 = η4 0 8 := rfl
  have bx11 : (0 : Int) ≤ x11 ∧ x11 ≤ 1 := k11.1.2.1
  have w5_0_7 : (0 : Int) ≤ η5 0 7 ∧ η5 0 7 ≤ 700 := wf_ok (a := 7) (b := 7) (z := (0, 700)) k11.1.1 (by decide +kernel) (Nat.le_refl _) (Nat.le_refl _)
  have d5_0_7 : η5 0 7 = η5 0 7 := rfl
  have v21 : zEq (η5 0 6) (η 0 6) := (k11.1.2.2.2.1 0 6 (by decide +kernel)).trans v18
  have d5_0_6 : η5 0 6 = η 0 6 := v21
  have w5_0_8 : (0 : Int) ≤ η5 0 8 ∧ η5 0 8 ≤ 6 := wf_ok (a := 8) (b := 8) (z := (0, 6)) k11.1.1 (by decide +kernel) (Nat.le_refl _) (Nat.le_refl _)
  have d5_0_8 : η5 0 8 = η5 0 8 := rfl
  replace e12 : x12 = η5 0 11 := e12
  replace r12 : -2147483648 ≤ x12 ∧ x12 ≤ 2147483647 := r12
  have v24 : zEq (η6 0 7) (η5 0 7) := by rw [eη6]; exact (zup_ne (fun e _ => absurd e (by decide))).trans rfl
  have c6_0_7 : η6 0 7 = η5 0 7 := v24
  have v25 : zEq (η6 0 6) (η 0 6) := by rw [eη6]; exact (zup_ne (fun e _ => absurd e (by decide))).trans v21
  have c6_0_6 : η6 0 6 = η 0 6 := v25
  have v26 : zEq (η6 0 8) (η5 0 8) := by rw [eη6]; exact (zup_ne (fun e _ => absurd e (by decide))).trans rfl
  have c6_0_8 : η6 0 8 = η5 0 8 := v26
  have bx13 : (0 : Int) ≤ x13 ∧ x13 ≤ 1 := k13.1.2.1
  have w7_0_7 : (0 : Int) ≤ η7 0 7 ∧ η7 0 7 ≤ 700 := wf_ok (a := 7) (b := 7) (z := (0, 700)) k13.1.1 (by decide +kernel) (Nat.le_refl _) (Nat.le_refl _)
  have d7_0_7 : η7 0 7 = η7 0 7 := rfl
  have v28 : zEq (η7 0 6) (η 0 6) := (k13.1.2.2.2.1 0 6 (by decide +kernel)).trans v25
  have d7_0_6 : η7 0 6 = η 0 6 := v28
  have w7_0_8 : (0 : Int) ≤ η7 0 8 ∧ η7 0 8 ≤ 6 := wf_ok (a := 8) (b := 8) (z := (0, 6)) k13.1.1 (by decide +kernel) (Nat.le_refl _) (Nat.le_refl _)
  have d7_0_8 : η7 0 8 = η7 0 8 := rfl
  replace e14 : x14 = η7 0 11 := e14
  replace r14 : -2147483648 ≤ x14 ∧ x14 ≤ 2147483647 := r14
  have v31 : zEq (η8 0 7) (η7 0 7) := by rw [eη8]; exact (zup_ne (fun e _ => absurd e (by decide))).trans rfl
  have f0_7 : η8 0 7 = η7 0 7 := v31
  have v32 : zEq (η8 0 6) (η 0 6) := by rw [eη8]; exact (zup_ne (fun e _ => absurd e (by decide))).trans v28
  have f0_6 : η8 0 6 = η 0 6 := v32
  have v33 : zEq (η8 0 8) (η7 0 8) := by rw [eη8]; exact (zup_ne (fun e _ => absurd e (by decide))).trans rfl
  have f0_8 : η8 0 8 = η7 0 8 := v33
  have qt2 : ¬ η 0 8 = 0 → 10 * (η1 0 6 - η1 0 7) + η1 0 8 < 10 * (η 0 6 - η 0 7) + η 0 8 := k2.2.2
  have g3 : G_n η3 := by rw [eη3]; exact zGk_up gk_n k6.2 (by decide +kernel)
  have qt10 : ¬ η3 0 8 = 0 → 10 * (η4 0 6 - η4 0 7) + η4 0 8 < 10 * (η3 0 6 - η3 0 7) + η3 0 8 := k10.2.2
  have qn11 : ¬ x11 = 0 → 10 * (η5 0 6 - η5 0 7) + η5 0 8 < 10 * (η4 0 6 - η4 0 7) + η4 0 8 := k11.2.2
  have g6 : G_n η6 := by rw [eη6]; exact zGk_up gk_n k11.2.1 (by decide +kernel)
  have qn13 : ¬ x13 = 0 → 10 * (η7 0 6 - η7 0 7) + η7 0 8 < 10 * (η6 0 6 - η6 0 7) + η6 0 8 := k13.2.2
  have g8 : G_n η8 := by rw [eη8]; exact zGk_up gk_n k13.2.1 (by decide +kernel)
  exact g8
set_option maxHeartbeats 8000000 in
theorem zne_guestLine_o6 {ro : Nat → List Int32} (η : zE) (hp : sP wl_ne zTr zPne_guestLine [] η) (hpp : pPne_guestLine [] η) : ∀ x1 : Int, x1 = η 0 (Int.toNat 18) → zok 0 x1 → (¬ x1 = 4) → ∀ (x2 : Int) (η1 : zE), ((gC2 wl_ne [(nat_lit 0, zPne_wrong, zOne_wrong, zMne_wrong), (nat_lit 1, zPne_token, zOne_token, zMne_token), (nat_lit 2, zPne_number, zOne_number, zMne_number), (nat_lit 3, zPne_find_g, zOne_find_g, zMne_find_g)] pCne_guestLine qCne_guestLine) 1).2 [] η x2 η1 → ∀ x3 : Int, x3 = η1 0 (Int.toNat 8) → zok 0 x3 → (x3 = 2) → ∀ x4 : Int, x4 = η1 0 (Int.toNat 18) → zok 0 x4 → ∀ x5 : Int, x5 = η1 0 (Int.toNat 9) → zok 0 x5 → ∀ (x6 : Int) (η2 : zE), ((gC2 wl_ne [(nat_lit 0, zPne_wrong, zOne_wrong, zMne_wrong), (nat_lit 1, zPne_token, zOne_token, zMne_token), (nat_lit 2, zPne_number, zOne_number, zMne_number), (nat_lit 3, zPne_find_g, zOne_find_g, zMne_find_g)] pCne_guestLine qCne_guestLine) 3).2 [x4, x5] η1 x6 η2 → (x6 < 0) → ∀ x7 : Int, x7 = η2 0 (Int.toNat 18) → zok 0 x7 → ∀ x8 : Int, x8 = zd 0 1 4 x7 → ∀ x9 : Int, x9 = η2 0 (Int.toNat 9) → zok 0 x9 → ∀ η3 : zE, η3 = zup η2 12 (Int.toNat x8) x9 → ∀ (x10 : Int) (η4 : zE), ((gC2 wl_ne [(nat_lit 0, zPne_wrong, zOne_wrong, zMne_wrong), (nat_lit 1, zPne_token, zOne_token, zMne_token), (nat_lit 2, zPne_number, zOne_number, zMne_number), (nat_lit 3, zPne_find_g, zOne_find_g, zMne_find_g)] pCne_guestLine qCne_guestLine) 1).2 [] η3 x10 η4 → ∀ (x11 : Int) (η5 : zE), ((gC2 wl_ne [(nat_lit 0, zPne_wrong, zOne_wrong, zMne_wrong), (nat_lit 1, zPne_token, zOne_token, zMne_token), (nat_lit 2, zPne_number, zOne_number, zMne_number), (nat_lit 3, zPne_find_g, zOne_find_g, zMne_find_g)] pCne_guestLine qCne_guestLine) 2).2 [1, 9] η4 x11 η5 → (¬ x11 = 0) → ∀ x12 : Int, x12 = η5 0 (Int.toNat 11) → zok 0 x12 → ∀ η6 : zE, η6 = zup η5 13 (Int.toNat x8) x12 → ∀ (x13 : Int) (η7 : zE), ((gC2 wl_ne [(nat_lit 0, zPne_wrong, zOne_wrong, zMne_wrong), (nat_lit 1, zPne_token, zOne_token, zMne_token), (nat_lit 2, zPne_number, zOne_number, zMne_number), (nat_lit 3, zPne_find_g, zOne_find_g, zMne_find_g)] pCne_guestLine qCne_guestLine) 2).2 [0, 9] η6 x13 η7 → (¬ x13 = 0) → ∀ x14 : Int, x14 = η7 0 (Int.toNat 11) → zok 0 x14 → ∀ η8 : zE, η8 = zup η7 14 (Int.toNat x8) x14 → ∀ (x15 : Int) (η9 : zE), ((gC2 wl_ne [(nat_lit 0, zPne_wrong, zOne_wrong, zMne_wrong), (nat_lit 1, zPne_token, zOne_token, zMne_token), (nat_lit 2, zPne_number, zOne_number, zMne_number), (nat_lit 3, zPne_find_g, zOne_find_g, zMne_find_g)] pCne_guestLine qCne_guestLine) 2).2 [0, 99] η8 x15 η9 → (¬ x15 = 0) → ∀ x16 : Int, x16 = η9 0 (Int.toNat 11) → zok 0 x16 → ∀ η10 : zE, η10 = zup η9 15 (Int.toNat x8) x16 → ∀ x17 : Int, x17 = η10 0 (Int.toNat 18) → zok 0 x17 → ∀ x18 : Int, x18 = zd 0 1 x17 1 → ∀ η11 : zE, η11 = zup η10 0 (Int.toNat 18) x18 → (fun (_ : Nat) (y : Int) (η' : zE) => pQne_guestLine [] η y η') 0 1 η11 := by
  intro x1 e1 r1 c1 x2 η1 h2 x3 e3 r3 c2 x4 e4 r4 x5 e5 r5 x6 η2 h6 c3 x7 e7 r7 x8 e8 x9 e9 r9 η3 eη3 x10 η4 h10 x11 η5 h11 c4 x12 e12 r12 η6 eη6 x13 η7 h13 c5 x14 e14 r14 η8 eη8 x15 η9 h15 c6 x16 e16 r16 η10 eη10 x17 e17 r17 x18 e18 η11 eη11
  have y2 : fQne_token [] η x2 η1 := h2.2.2
  have k2 : sQ wl_ne zTr zOne_token zMne_token [] η x2 η1 ∧ oQne_token [] η x2 η1 := ⟨h2.1, h2.2.1⟩
  have y6 : fQne_find_g [x4, x5] η1 x6 η2 := h6.2.2
  have k6 : sQ wl_ne zTr zOne_find_g zMne_find_g [x4, x5] η1 x6 η2 ∧ oQne_find_g [x4, x5] η1 x6 η2 := ⟨h6.1, h6.2.1⟩
  have y10 : fQne_token [] η3 x10 η4 := h10.2.2
  have k10 : sQ wl_ne zTr zOne_token zMne_token [] η3 x10 η4 ∧ oQne_token [] η3 x10 η4 := ⟨h10.1, h10.2.1⟩
  have y11 : fQne_number [1, 9] η4 x11 η5 := h11.2.2
  have k11 : sQ wl_ne zTr zOne_number zMne_number [1, 9] η4 x11 η5 ∧ oQne_number [1, 9] η4 x11 η5 := ⟨h11.1, h11.2.1⟩
  have y13 : fQne_number [0, 9] η6 x13 η7 := h13.2.2
  have k13 : sQ wl_ne zTr zOne_number zMne_number [0, 9] η6 x13 η7 ∧ oQne_number [0, 9] η6 x13 η7 := ⟨h13.1, h13.2.1⟩
  have y15 : fQne_number [0, 99] η8 x15 η9 := h15.2.2
  have k15 : sQ wl_ne zTr zOne_number zMne_number [0, 99] η8 x15 η9 ∧ oQne_number [0, 99] η8 x15 η9 := ⟨h15.1, h15.2.1⟩
  refine yj_a ?_ ?_
  · have hk : ¬ η 0 8 = 0 := hpp.2
    replace e8 := zEq_i e8
    replace e18 := zEq_i e18
    have y2 : fQne_token [] η x2 η1 := h2.2.2
    have k2 : sQ wl_ne zTr zOne_token zMne_token [] η x2 η1 ∧ oQne_token [] η x2 η1 := ⟨h2.1, h2.2.1⟩
    have y6 : fQne_find_g [x4, x5] η1 x6 η2 := h6.2.2
    have k6 : sQ wl_ne zTr zOne_find_g zMne_find_g [x4, x5] η1 x6 η2 ∧ oQne_find_g [x4, x5] η1 x6 η2 := ⟨h6.1, h6.2.1⟩
    have y10 : fQne_token [] η3 x10 η4 := h10.2.2
    have k10 : sQ wl_ne zTr zOne_token zMne_token [] η3 x10 η4 ∧ oQne_token [] η3 x10 η4 := ⟨h10.1, h10.2.1⟩
    have y11 : fQne_number [1, 9] η4 x11 η5 := h11.2.2
    have k11 : sQ wl_ne zTr zOne_number zMne_number [1, 9] η4 x11 η5 ∧ oQne_number [1, 9] η4 x11 η5 := ⟨h11.1, h11.2.1⟩
    have y13 : fQne_number [0, 9] η6 x13 η7 := h13.2.2
    have k13 : sQ wl_ne zTr zOne_number zMne_number [0, 9] η6 x13 η7 ∧ oQne_number [0, 9] η6 x13 η7 := ⟨h13.1, h13.2.1⟩
    have y15 : fQne_number [0, 99] η8 x15 η9 := h15.2.2
    have k15 : sQ wl_ne zTr zOne_number zMne_number [0, 99] η8 x15 η9 ∧ oQne_number [0, 99] η8 x15 η9 := ⟨h15.1, h15.2.1⟩
    have w0_0_18 : (0 : Int) ≤ η 0 18 ∧ η 0 18 ≤ 4 := wf_ok (a := 18) (b := 18) (z := (0, 4)) hp.1 (by decide +kernel) (Nat.le_refl _) (Nat.le_refl _)
    replace e1 : x1 = η 0 18 := e1
    have w0_0_7 : (0 : Int) ≤ η 0 7 ∧ η 0 7 ≤ 700 := wf_ok (a := 7) (b := 7) (z := (0, 700)) hp.1 (by decide +kernel) (Nat.le_refl _) (Nat.le_refl _)
    have c0_0_7 : η 0 7 = η 0 7 := rfl
    have w0_0_6 : (0 : Int) ≤ η 0 6 ∧ η 0 6 ≤ 700 := wf_ok (a := 6) (b := 6) (z := (0, 700)) hp.1 (by decide +kernel) (Nat.le_refl _) (Nat.le_refl _)
    have c0_0_6 : η 0 6 = η 0 6 := rfl
    have w0_0_8 : (0 : Int) ≤ η 0 8 ∧ η 0 8 ≤ 6 := wf_ok (a := 8) (b := 8) (z := (0, 6)) hp.1 (by decide +kernel) (Nat.le_refl _) (Nat.le_refl _)
    have c0_0_8 : η 0 8 = η 0 8 := rfl
    have bx2 : (0 : Int) ≤ x2 ∧ x2 ≤ 0 := k2.1.2.1
    have w1_0_7 : (0 : Int) ≤ η1 0 7 ∧ η1 0 7 ≤ 700 := wf_ok (a := 7) (b := 7) (z := (0, 700)) k2.1.1 (by decide +kernel) (Nat.le_refl _) (Nat.le_refl _)
    have d1_0_7 : η1 0 7 = η1 0 7 := rfl
    have v5 : zEq (η1 0 6) (η 0 6) := (k2.1.2.2.2.1 0 6 (by decide +kernel)).trans rfl
    have d1_0_6 : η1 0 6 = η 0 6 := v5
    have w1_0_8 : (0 : Int) ≤ η1 0 8 ∧ η1 0 8 ≤ 6 := wf_ok (a := 8) (b := 8) (z := (0, 6)) k2.1.1 (by decide +kernel) (Nat.le_refl _) (Nat.le_refl _)
    have d1_0_8 : η1 0 8 = η1 0 8 := rfl
    replace e3 : x3 = η1 0 8 := e3
    have v7 : zEq (η1 0 18) (η 0 18) := (k2.1.2.2.2.1 0 18 (by decide +kernel)).trans rfl
    replace e4 : x4 = η 0 18 := e4.trans v7
    replace e5 : x5 = η1 0 9 := e5
    replace r5 : -2147483648 ≤ x5 ∧ x5 ≤ 2147483647 := r5
    have c1_0_7 : η1 0 7 = η1 0 7 := rfl
    have c1_0_6 : η1 0 6 = η 0 6 := v5
    have c1_0_8 : η1 0 8 = η1 0 8 := rfl
    have bx6 : ((-1) : Int) ≤ x6 ∧ x6 ≤ 3 := k6.1.2.1
    have v9 : zEq (η2 0 7) (η1 0 7) := (k6.1.2.2.2.1 0 7 (by decide +kernel)).trans rfl
    have d2_0_7 : η2 0 7 = η1 0 7 := v9
    have v10 : zEq (η2 0 6) (η 0 6) := (k6.1.2.2.2.1 0 6 (by decide +kernel)).trans v5
    have d2_0_6 : η2 0 6 = η 0 6 := v10
    have v11 : zEq (η2 0 8) (η1 0 8) := (k6.1.2.2.2.1 0 8 (by decide +kernel)).trans rfl
    have d2_0_8 : η2 0 8 = η1 0 8 := v11
    have v12 : zEq (η2 0 18) (η 0 18) := (k6.1.2.2.2.1 0 18 (by decide +kernel)).trans v7
    replace e7 : x7 = η 0 18 := e7.trans v12
    first
    | replace e8 : x8 = 4 + x7 := zd_a2 (zEq_o e8) (by clear e8; exact ⟨by omega, by omega⟩)
    | clear e8
    have v13 : zEq (η2 0 9) (η1 0 9) := (k6.1.2.2.2.1 0 9 (by decide +kernel)).trans rfl
    replace e9 : x9 = η1 0 9 := e9.trans v13
    replace r9 : -2147483648 ≤ x9 ∧ x9 ≤ 2147483647 := r9
    have v14 : zEq (η3 0 7) (η1 0 7) := by rw [eη3]; exact (zup_ne (fun e _ => absurd e (by decide))).trans v9
    have c3_0_7 : η3 0 7 = η1 0 7 := v14
    have v15 : zEq (η3 0 6) (η 0 6) := by rw [eη3]; exact (zup_ne (fun e _ => absurd e (by decide))).trans v10
    have c3_0_6 : η3 0 6 = η 0 6 := v15
    have v16 : zEq (η3 0 8) (η1 0 8) := by rw [eη3]; exact (zup_ne (fun e _ => absurd e (by decide))).trans v11
    have c3_0_8 : η3 0 8 = η1 0 8 := v16
    have bx10 : (0 : Int) ≤ x10 ∧ x10 ≤ 0 := k10.1.2.1
    have w4_0_7 : (0 : Int) ≤ η4 0 7 ∧ η4 0 7 ≤ 700 := wf_ok (a := 7) (b := 7) (z := (0, 700)) k10.1.1 (by decide +kernel) (Nat.le_refl _) (Nat.le_refl _)
    have d4_0_7 : η4 0 7 = η4 0 7 := rfl
    have v18 : zEq (η4 0 6) (η 0 6) := (k10.1.2.2.2.1 0 6 (by decide +kernel)).trans v15
    have d4_0_6 : η4 0 6 = η 0 6 := v18
    have w4_0_8 : (0 : Int) ≤ η4 0 8 ∧ η4 0 8 ≤ 6 := wf_ok (a := 8) (b := 8) (z := (0, 6)) k10.1.1 (by decide +kernel) (Nat.le_refl _) (Nat.le_refl _)
    have d4_0_8 : η4 0 8 = η4 0 8 := rfl
    have c4_0_7 : η4 0 7 = η4 0 7 := rfl
    have c4_0_6 : η4 0 6 = η 0 6 := v18
    have c4_0_8 : η4 0 8 = η4 0 8 := rfl
    have bx11 : (0 : Int) ≤ x11 ∧ x11 ≤ 1 := k11.1.2.1
    have w5_0_7 : (0 : Int) ≤ η5 0 7 ∧ η5 0 7 ≤ 700 := wf_ok (a := 7) (b := 7) (z := (0, 700)) k11.1.1 (by decide +kernel) (Nat.le_refl _) (Nat.le_refl _)
    have d5_0_7 : η5 0 7 = η5 0 7 := rfl
    have v21 : zEq (η5 0 6) (η 0 6) := (k11.1.2.2.2.1 0 6 (by decide +kernel)).trans v18
    have d5_0_6 : η5 0 6 = η 0 6 := v21
    have w5_0_8 : (0 : Int) ≤ η5 0 8 ∧ η5 0 8 ≤ 6 := wf_ok (a := 8) (b := 8) (z := (0, 6)) k11.1.1 (by decide +kernel) (Nat.le_refl _) (Nat.le_refl _)
    have d5_0_8 : η5 0 8 = η5 0 8 := rfl
    replace e12 : x12 = η5 0 11 := e12
    replace r12 : -2147483648 ≤ x12 ∧ x12 ≤ 2147483647 := r12
    have v24 : zEq (η6 0 7) (η5 0 7) := by rw [eη6]; exact (zup_ne (fun e _ => absurd e (by decide))).trans rfl
    have c6_0_7 : η6 0 7 = η5 0 7 := v24
    have v25 : zEq (η6 0 6) (η 0 6) := by rw [eη6]; exact (zup_ne (fun e _ => absurd e (by decide))).trans v21
    have c6_0_6 : η6 0 6 = η 0 6 := v25
    have v26 : zEq (η6 0 8) (η5 0 8) := by rw [eη6]; exact (zup_ne (fun e _ => absurd e (by decide))).trans rfl
    have c6_0_8 : η6 0 8 = η5 0 8 := v26
    have bx13 : (0 : Int) ≤ x13 ∧ x13 ≤ 1 := k13.1.2.1
    have w7_0_7 : (0 : Int) ≤ η7 0 7 ∧ η7 0 7 ≤ 700 := wf_ok (a := 7) (b := 7) (z := (0, 700)) k13.1.1 (by decide +kernel) (Nat.le_refl _) (Nat.le_refl _)
    have d7_0_7 : η7 0 7 = η7 0 7 := rfl
    have v28 : zEq (η7 0 6) (η 0 6) := (k13.1.2.2.2.1 0 6 (by decide +kernel)).trans v25
    have d7_0_6 : η7 0 6 = η 0 6 := v28
    have w7_0_8 : (0 : Int) ≤ η7 0 8 ∧ η7 0 8 ≤ 6 := wf_ok (a := 8) (b := 8) (z := (0, 6)) k13.1.1 (by decide +kernel) (Nat.le_refl _) (Nat.le_refl _)
    have d7_0_8 : η7 0 8 = η7 0 8 := rfl
    replace e14 : x14 = η7 0 11 := e14
    replace r14 : -2147483648 ≤ x14 ∧ x14 ≤ 2147483647 := r14
    have v31 : zEq (η8 0 7) (η7 0 7) := by rw [eη8]; exact (zup_ne (fun e _ => absurd e (by decide))).trans rfl
    have c8_0_7 : η8 0 7 = η7 0 7 := v31
    have v32 : zEq (η8 0 6) (η 0 6) := by rw [eη8]; exact (zup_ne (fun e _ => absurd e (by decide))).trans v28
    have c8_0_6 : η8 0 6 = η 0 6 := v32
    have v33 : zEq (η8 0 8) (η7 0 8) := by rw [eη8]; exact (zup_ne (fun e _ => absurd e (by decide))).trans rfl
    have c8_0_8 : η8 0 8 = η7 0 8 := v33
    have bx15 : (0 : Int) ≤ x15 ∧ x15 ≤ 1 := k15.1.2.1
    have w9_0_7 : (0 : Int) ≤ η9 0 7 ∧ η9 0 7 ≤ 700 := wf_ok (a := 7) (b := 7) (z := (0, 700)) k15.1.1 (by decide +kernel) (Nat.le_refl _) (Nat.le_refl _)
    have d9_0_7 : η9 0 7 = η9 0 7 := rfl
    have v35 : zEq (η9 0 6) (η 0 6) := (k15.1.2.2.2.1 0 6 (by decide +kernel)).trans v32
    have d9_0_6 : η9 0 6 = η 0 6 := v35
    have w9_0_8 : (0 : Int) ≤ η9 0 8 ∧ η9 0 8 ≤ 6 := wf_ok (a := 8) (b := 8) (z := (0, 6)) k15.1.1 (by decide +kernel) (Nat.le_refl _) (Nat.le_refl _)
    have d9_0_8 : η9 0 8 = η9 0 8 := rfl
    replace e16 : x16 = η9 0 11 := e16
    replace r16 : -2147483648 ≤ x16 ∧ x16 ≤ 2147483647 := r16
    have v38 : zEq (η3 0 18) (η 0 18) := by rw [eη3]; exact (zup_ne (fun e _ => absurd e (by decide))).trans v12
    have v39 : zEq (η4 0 18) (η 0 18) := (k10.1.2.2.2.1 0 18 (by decide +kernel)).trans v38
    have v40 : zEq (η5 0 18) (η 0 18) := (k11.1.2.2.2.1 0 18 (by decide +kernel)).trans v39
    have v41 : zEq (η6 0 18) (η 0 18) := by rw [eη6]; exact (zup_ne (fun e _ => absurd e (by decide))).trans v40
    have v42 : zEq (η7 0 18) (η 0 18) := (k13.1.2.2.2.1 0 18 (by decide +kernel)).trans v41
    have v43 : zEq (η8 0 18) (η 0 18) := by rw [eη8]; exact (zup_ne (fun e _ => absurd e (by decide))).trans v42
    have v44 : zEq (η9 0 18) (η 0 18) := (k15.1.2.2.2.1 0 18 (by decide +kernel)).trans v43
    have v45 : zEq (η10 0 18) (η 0 18) := by rw [eη10]; exact (zup_ne (fun e _ => absurd e (by decide))).trans v44
    replace e17 : x17 = η 0 18 := e17.trans v45
    first
    | replace e18 : x18 = x17 + 1 := zd_a2 (zEq_o e18) (by clear e18; exact ⟨by omega, by omega⟩)
    | clear e18
    have v46 : zEq (η10 0 7) (η9 0 7) := by rw [eη10]; exact (zup_ne (fun e _ => absurd e (by decide))).trans rfl
    have v47 : zEq (η11 0 7) (η9 0 7) := by rw [eη11]; exact (zup_ne (fun _ e => absurd e (by decide))).trans v46
    have f0_7 : η11 0 7 = η9 0 7 := v47
    have v48 : zEq (η10 0 6) (η 0 6) := by rw [eη10]; exact (zup_ne (fun e _ => absurd e (by decide))).trans v35
    have v49 : zEq (η11 0 6) (η 0 6) := by rw [eη11]; exact (zup_ne (fun _ e => absurd e (by decide))).trans v48
    have f0_6 : η11 0 6 = η 0 6 := v49
    have v50 : zEq (η10 0 8) (η9 0 8) := by rw [eη10]; exact (zup_ne (fun e _ => absurd e (by decide))).trans rfl
    have v51 : zEq (η11 0 8) (η9 0 8) := by rw [eη11]; exact (zup_ne (fun _ e => absurd e (by decide))).trans v50
    have f0_8 : η11 0 8 = η9 0 8 := v51
    have qt2 : ¬ η 0 8 = 0 → 10 * (η1 0 6 - η1 0 7) + η1 0 8 < 10 * (η 0 6 - η 0 7) + η 0 8 := k2.2.2
    have g3 : G_n η3 := by rw [eη3]; exact zGk_up gk_n k6.2 (by decide +kernel)
    have qt10 : ¬ η3 0 8 = 0 → 10 * (η4 0 6 - η4 0 7) + η4 0 8 < 10 * (η3 0 6 - η3 0 7) + η3 0 8 := k10.2.2
    have qn11 : ¬ x11 = 0 → 10 * (η5 0 6 - η5 0 7) + η5 0 8 < 10 * (η4 0 6 - η4 0 7) + η4 0 8 := k11.2.2
    have g6 : G_n η6 := by rw [eη6]; exact zGk_up gk_n k11.2.1 (by decide +kernel)
    have qn13 : ¬ x13 = 0 → 10 * (η7 0 6 - η7 0 7) + η7 0 8 < 10 * (η6 0 6 - η6 0 7) + η6 0 8 := k13.2.2
    have g8 : G_n η8 := by rw [eη8]; exact zGk_up gk_n k13.2.1 (by decide +kernel)
    have qn15 : ¬ x15 = 0 → 10 * (η9 0 6 - η9 0 7) + η9 0 8 < 10 * (η8 0 6 - η8 0 7) + η8 0 8 := k15.2.2
    have g10 : G_n η10 := by rw [eη10]; exact zGk_up gk_n k15.2.1 (by decide +kernel)
    have g11 : G_n η11 := by rw [eη11]; exact zGk_upc gk_n g10 (by decide +kernel)
    exact ⟨g11, fun _ => show 10 * (η11 0 6 - η11 0 7) + η11 0 8 < 10 * (η 0 6 - η 0 7) + η 0 8 by omega⟩
  · have e1 : x1 = η 0 18 := e1
    have b2 : η1 = (yq_tok η) := y2
    have e3 : x3 = η1 0 8 := e3
    have e4 : x4 = η1 0 18 := e4
    have e5 : x5 = η1 0 9 := e5
    obtain ⟨a6, b6⟩ : x6 = (yp_fd (fun k => η1 12 (4 + k)) x5 (Int.toNat x4) (Int.toNat x4)) ∧ η1 = η2 := ⟨y6.1, y6.2.symm⟩
    subst b6
    have e7 : x7 = η1 0 18 := e7
    have f7 : x4 = x7 := e4.trans e7.symm
    subst f7
    have e8 : x8 = zd 0 1 4 x4 := e8
    have e9 : x9 = η1 0 9 := e9
    have f9 : x5 = x9 := e5.trans e9.symm
    subst f9
    have eη3 : η3 = zup η1 12 (Int.toNat x8) x5 := eη3
    have b10 : η4 = (yq_tok η3) := y10
    obtain ⟨a11, b11⟩ : x11 = (yq_ny 1 9 η4) ∧ η5 = (yq_ns 1 9 η4) := y11
    have e12 : x12 = η5 0 11 := e12
    have eη6 : η6 = zup η5 13 (Int.toNat x8) x12 := eη6
    obtain ⟨a13, b13⟩ : x13 = (yq_ny 0 9 η6) ∧ η7 = (yq_ns 0 9 η6) := y13
    have e14 : x14 = η7 0 11 := e14
    have eη8 : η8 = zup η7 14 (Int.toNat x8) x14 := eη8
    obtain ⟨a15, b15⟩ : x15 = (yq_ny 0 99 η8) ∧ η9 = (yq_ns 0 99 η8) := y15
    have e16 : x16 = η9 0 11 := e16
    have eη10 : η10 = zup η9 15 (Int.toNat x8) x16 := eη10
    have e17 : x17 = η10 0 18 := e17
    have e18 : x18 = zd 0 1 x17 1 := e18
    have eη11 : η11 = zup η10 0 18 x18 := eη11
    show 1 = (yq_gul η).1 ∧ η11 = (yq_gul η).2
    simp only [yq_gul, yq_gu2, yq_gu3, yq_gu4, yq_nt, yq_no, yq_inc, ← e1, ← b2, ← e3, ← e4, ← e5, ← a6, ← e8, ← eη3, ← b10, ← a11, ← b11, ← e12, ← eη6, ← a13, ← b13, ← e14, ← eη8, ← a15, ← b15, ← e16, ← eη10, ← e17, ← e18, ← eη11]
    all_goals clear e8 e18
    all_goals ((repeat' split) <;> first | (exfalso; omega) | exact ⟨rfl, rfl⟩ | rfl)
set_option maxHeartbeats 8000000 in
theorem zne_guestLine_o7 {ro : Nat → List Int32} (η : zE) (hp : sP wl_ne zTr zPne_guestLine [] η) (hpp : pPne_guestLine [] η) : ∀ x1 : Int, x1 = η 0 (Int.toNat 18) → zok 0 x1 → (¬ x1 = 4) → ∀ (x2 : Int) (η1 : zE), ((gC2 wl_ne [(nat_lit 0, zPne_wrong, zOne_wrong, zMne_wrong), (nat_lit 1, zPne_token, zOne_token, zMne_token), (nat_lit 2, zPne_number, zOne_number, zMne_number), (nat_lit 3, zPne_find_g, zOne_find_g, zMne_find_g)] pCne_guestLine qCne_guestLine) 1).2 [] η x2 η1 → ∀ x3 : Int, x3 = η1 0 (Int.toNat 8) → zok 0 x3 → (x3 = 2) → ∀ x4 : Int, x4 = η1 0 (Int.toNat 18) → zok 0 x4 → ∀ x5 : Int, x5 = η1 0 (Int.toNat 9) → zok 0 x5 → ∀ (x6 : Int) (η2 : zE), ((gC2 wl_ne [(nat_lit 0, zPne_wrong, zOne_wrong, zMne_wrong), (nat_lit 1, zPne_token, zOne_token, zMne_token), (nat_lit 2, zPne_number, zOne_number, zMne_number), (nat_lit 3, zPne_find_g, zOne_find_g, zMne_find_g)] pCne_guestLine qCne_guestLine) 3).2 [x4, x5] η1 x6 η2 → (x6 < 0) → ∀ x7 : Int, x7 = η2 0 (Int.toNat 18) → zok 0 x7 → ∀ x8 : Int, x8 = zd 0 1 4 x7 → ∀ x9 : Int, x9 = η2 0 (Int.toNat 9) → zok 0 x9 → ∀ η3 : zE, η3 = zup η2 12 (Int.toNat x8) x9 → ∀ (x10 : Int) (η4 : zE), ((gC2 wl_ne [(nat_lit 0, zPne_wrong, zOne_wrong, zMne_wrong), (nat_lit 1, zPne_token, zOne_token, zMne_token), (nat_lit 2, zPne_number, zOne_number, zMne_number), (nat_lit 3, zPne_find_g, zOne_find_g, zMne_find_g)] pCne_guestLine qCne_guestLine) 1).2 [] η3 x10 η4 → ∀ (x11 : Int) (η5 : zE), ((gC2 wl_ne [(nat_lit 0, zPne_wrong, zOne_wrong, zMne_wrong), (nat_lit 1, zPne_token, zOne_token, zMne_token), (nat_lit 2, zPne_number, zOne_number, zMne_number), (nat_lit 3, zPne_find_g, zOne_find_g, zMne_find_g)] pCne_guestLine qCne_guestLine) 2).2 [1, 9] η4 x11 η5 → (¬ x11 = 0) → ∀ x12 : Int, x12 = η5 0 (Int.toNat 11) → zok 0 x12 → ∀ η6 : zE, η6 = zup η5 13 (Int.toNat x8) x12 → ∀ (x13 : Int) (η7 : zE), ((gC2 wl_ne [(nat_lit 0, zPne_wrong, zOne_wrong, zMne_wrong), (nat_lit 1, zPne_token, zOne_token, zMne_token), (nat_lit 2, zPne_number, zOne_number, zMne_number), (nat_lit 3, zPne_find_g, zOne_find_g, zMne_find_g)] pCne_guestLine qCne_guestLine) 2).2 [0, 9] η6 x13 η7 → (¬ x13 = 0) → ∀ x14 : Int, x14 = η7 0 (Int.toNat 11) → zok 0 x14 → ∀ η8 : zE, η8 = zup η7 14 (Int.toNat x8) x14 → ∀ (x15 : Int) (η9 : zE), ((gC2 wl_ne [(nat_lit 0, zPne_wrong, zOne_wrong, zMne_wrong), (nat_lit 1, zPne_token, zOne_token, zMne_token), (nat_lit 2, zPne_number, zOne_number, zMne_number), (nat_lit 3, zPne_find_g, zOne_find_g, zMne_find_g)] pCne_guestLine qCne_guestLine) 2).2 [0, 99] η8 x15 η9 → (x15 = 0) → (fun (_ : Nat) (y : Int) (η' : zE) => pQne_guestLine [] η y η') 0 0 η9 := by
  intro x1 e1 r1 c1 x2 η1 h2 x3 e3 r3 c2 x4 e4 r4 x5 e5 r5 x6 η2 h6 c3 x7 e7 r7 x8 e8 x9 e9 r9 η3 eη3 x10 η4 h10 x11 η5 h11 c4 x12 e12 r12 η6 eη6 x13 η7 h13 c5 x14 e14 r14 η8 eη8 x15 η9 h15 c6
  have y2 : fQne_token [] η x2 η1 := h2.2.2
  have k2 : sQ wl_ne zTr zOne_token zMne_token [] η x2 η1 ∧ oQne_token [] η x2 η1 := ⟨h2.1, h2.2.1⟩
  have y6 : fQne_find_g [x4, x5] η1 x6 η2 := h6.2.2
  have k6 : sQ wl_ne zTr zOne_find_g zMne_find_g [x4, x5] η1 x6 η2 ∧ oQne_find_g [x4, x5] η1 x6 η2 := ⟨h6.1, h6.2.1⟩
  have y10 : fQne_token [] η3 x10 η4 := h10.2.2
  have k10 : sQ wl_ne zTr zOne_token zMne_token [] η3 x10 η4 ∧ oQne_token [] η3 x10 η4 := ⟨h10.1, h10.2.1⟩
  have y11 : fQne_number [1, 9] η4 x11 η5 := h11.2.2
  have k11 : sQ wl_ne zTr zOne_number zMne_number [1, 9] η4 x11 η5 ∧ oQne_number [1, 9] η4 x11 η5 := ⟨h11.1, h11.2.1⟩
  have y13 : fQne_number [0, 9] η6 x13 η7 := h13.2.2
  have k13 : sQ wl_ne zTr zOne_number zMne_number [0, 9] η6 x13 η7 ∧ oQne_number [0, 9] η6 x13 η7 := ⟨h13.1, h13.2.1⟩
  have y15 : fQne_number [0, 99] η8 x15 η9 := h15.2.2
  have k15 : sQ wl_ne zTr zOne_number zMne_number [0, 99] η8 x15 η9 ∧ oQne_number [0, 99] η8 x15 η9 := ⟨h15.1, h15.2.1⟩
  refine yj_a ?_ ?_
  · have hk : ¬ η 0 8 = 0 := hpp.2
    replace e8 := zEq_i e8
    have y2 : fQne_token [] η x2 η1 := h2.2.2
    have k2 : sQ wl_ne zTr zOne_token zMne_token [] η x2 η1 ∧ oQne_token [] η x2 η1 := ⟨h2.1, h2.2.1⟩
    have y6 : fQne_find_g [x4, x5] η1 x6 η2 := h6.2.2
    have k6 : sQ wl_ne zTr zOne_find_g zMne_find_g [x4, x5] η1 x6 η2 ∧ oQne_find_g [x4, x5] η1 x6 η2 := ⟨h6.1, h6.2.1⟩
    have y10 : fQne_token [] η3 x10 η4 := h10.2.2
    have k10 : sQ wl_ne zTr zOne_token zMne_token [] η3 x10 η4 ∧ oQne_token [] η3 x10 η4 := ⟨h10.1, h10.2.1⟩
    have y11 : fQne_number [1, 9] η4 x11 η5 := h11.2.2
    have k11 : sQ wl_ne zTr zOne_number zMne_number [1, 9] η4 x11 η5 ∧ oQne_number [1, 9] η4 x11 η5 := ⟨h11.1, h11.2.1⟩
    have y13 : fQne_number [0, 9] η6 x13 η7 := h13.2.2
    have k13 : sQ wl_ne zTr zOne_number zMne_number [0, 9] η6 x13 η7 ∧ oQne_number [0, 9] η6 x13 η7 := ⟨h13.1, h13.2.1⟩
    have y15 : fQne_number [0, 99] η8 x15 η9 := h15.2.2
    have k15 : sQ wl_ne zTr zOne_number zMne_number [0, 99] η8 x15 η9 ∧ oQne_number [0, 99] η8 x15 η9 := ⟨h15.1, h15.2.1⟩
    have w0_0_18 : (0 : Int) ≤ η 0 18 ∧ η 0 18 ≤ 4 := wf_ok (a := 18) (b := 18) (z := (0, 4)) hp.1 (by decide +kernel) (Nat.le_refl _) (Nat.le_refl _)
    replace e1 : x1 = η 0 18 := e1
    have w0_0_7 : (0 : Int) ≤ η 0 7 ∧ η 0 7 ≤ 700 := wf_ok (a := 7) (b := 7) (z := (0, 700)) hp.1 (by decide +kernel) (Nat.le_refl _) (Nat.le_refl _)
    have c0_0_7 : η 0 7 = η 0 7 := rfl
    have w0_0_6 : (0 : Int) ≤ η 0 6 ∧ η 0 6 ≤ 700 := wf_ok (a := 6) (b := 6) (z := (0, 700)) hp.1 (by decide +kernel) (Nat.le_refl _) (Nat.le_refl _)
    have c0_0_6 : η 0 6 = η 0 6 := rfl
    have w0_0_8 : (0 : Int) ≤ η 0 8 ∧ η 0 8 ≤ 6 := wf_ok (a := 8) (b := 8) (z := (0, 6)) hp.1 (by decide +kernel) (Nat.le_refl _) (Nat.le_refl _)
    have c0_0_8 : η 0 8 = η 0 8 := rfl
    have bx2 : (0 : Int) ≤ x2 ∧ x2 ≤ 0 := k2.1.2.1
    have w1_0_7 : (0 : Int) ≤ η1 0 7 ∧ η1 0 7 ≤ 700 := wf_ok (a := 7) (b := 7) (z := (0, 700)) k2.1.1 (by decide +kernel) (Nat.le_refl _) (Nat.le_refl _)
    have d1_0_7 : η1 0 7 = η1 0 7 := rfl
    have v5 : zEq (η1 0 6) (η 0 6) := (k2.1.2.2.2.1 0 6 (by decide +kernel)).trans rfl
    have d1_0_6 : η1 0 6 = η 0 6 := v5
    have w1_0_8 : (0 : Int) ≤ η1 0 8 ∧ η1 0 8 ≤ 6 := wf_ok (a := 8) (b := 8) (z := (0, 6)) k2.1.1 (by decide +kernel) (Nat.le_refl _) (Nat.le_refl _)
    have d1_0_8 : η1 0 8 = η1 0 8 := rfl
    replace e3 : x3 = η1 0 8 := e3
    have v7 : zEq (η1 0 18) (η 0 18) := (k2.1.2.2.2.1 0 18 (by decide +kernel)).trans rfl
    replace e4 : x4 = η 0 18 := e4.trans v7
    replace e5 : x5 = η1 0 9 := e5
    replace r5 : -2147483648 ≤ x5 ∧ x5 ≤ 2147483647 := r5
    have c1_0_7 : η1 0 7 = η1 0 7 := rfl
    have c1_0_6 : η1 0 6 = η 0 6 := v5
    have c1_0_8 : η1 0 8 = η1 0 8 := rfl
    have bx6 : ((-1) : Int) ≤ x6 ∧ x6 ≤ 3 := k6.1.2.1
    have v9 : zEq (η2 0 7) (η1 0 7) := (k6.1.2.2.2.1 0 7 (by decide +kernel)).trans rfl
    have d2_0_7 : η2 0 7 = η1 0 7 := v9
    have v10 : zEq (η2 0 6) (η 0 6) := (k6.1.2.2.2.1 0 6 (by decide +kernel)).trans v5
    have d2_0_6 : η2 0 6 = η 0 6 := v10
    have v11 : zEq (η2 0 8) (η1 0 8) := (k6.1.2.2.2.1 0 8 (by decide +kernel)).trans rfl
    have d2_0_8 : η2 0 8 = η1 0 8 := v11
    have v12 : zEq (η2 0 18) (η 0 18) := (k6.1.2.2.2.1 0 18 (by decide +kernel)).trans v7
    replace e7 : x7 = η 0 18 := e7.trans v12
    first
    | replace e8 : x8 = 4 + x7 := zd_a2 (zEq_o e8) (by clear e8; exact ⟨by omega, by omega⟩)
    | clear e8
    have v13 : zEq (η2 0 9) (η1 0 9) := (k6.1.2.2.2.1 0 9 (by decide +kernel)).trans rfl
    replace e9 : x9 = η1 0 9 := e9.trans v13
    replace r9 : -2147483648 ≤ x9 ∧ x9 ≤ 2147483647 := r9
    have v14 : zEq (η3 0 7) (η1 0 7) := by rw [eη3]; exact (zup_ne (fun e _ => absurd e (by decide))).trans v9
    have c3_0_7 : η3 0 7 = η1 0 7 := v14
    have v15 : zEq (η3 0 6) (η 0 6) := by rw [eη3]; exact (zup_ne (fun e _ => absurd e (by decide))).trans v10
    have c3_0_6 : η3 0 6 = η 0 6 := v15
    have v16 : zEq (η3 0 8) (η1 0 8) := by rw [eη3]; exact (zup_ne (fun e _ => absurd e (by decide))).trans v11
    have c3_0_8 : η3 0 8 = η1 0 8 := v16
    have bx10 : (0 : Int) ≤ x10 ∧ x10 ≤ 0 := k10.1.2.1
    have w4_0_7 : (0 : Int) ≤ η4 0 7 ∧ η4 0 7 ≤ 700 := wf_ok (a := 7) (b := 7) (z := (0, 700)) k10.1.1 (by decide +kernel) (Nat.le_refl _) (Nat.le_refl _)
    have d4_0_7 : η4 0 7 = η4 0 7 := rfl
    have v18 : zEq (η4 0 6) (η 0 6) := (k10.1.2.2.2.1 0 6 (by decide +kernel)).trans v15
    have d4_0_6 : η4 0 6 = η 0 6 := v18
    have w4_0_8 : (0 : Int) ≤ η4 0 8 ∧ η4 0 8 ≤ 6 := wf_ok (a := 8) (b := 8) (z := (0, 6)) k10.1.1 (by decide +kernel) (Nat.le_refl _) (Nat.le_refl _)
    have d4_0_8 : η4 0 8 = η4 0 8 := rfl
    have c4_0_7 : η4 0 7 = η4 0 7 := rfl
    have c4_0_6 : η4 0 6 = η 0 6 := v18
    have c4_0_8 : η4 0 8 = η4 0 8 := rfl
    have bx11 : (0 : Int) ≤ x11 ∧ x11 ≤ 1 := k11.1.2.1
    have w5_0_7 : (0 : Int) ≤ η5 0 7 ∧ η5 0 7 ≤ 700 := wf_ok (a := 7) (b := 7) (z := (0, 700)) k11.1.1 (by decide +kernel) (Nat.le_refl _) (Nat.le_refl _)
    have d5_0_7 : η5 0 7 = η5 0 7 := rfl
    have v21 : zEq (η5 0 6) (η 0 6) := (k11.1.2.2.2.1 0 6 (by decide +kernel)).trans v18
    have d5_0_6 : η5 0 6 = η 0 6 := v21
    have w5_0_8 : (0 : Int) ≤ η5 0 8 ∧ η5 0 8 ≤ 6 := wf_ok (a := 8) (b := 8) (z := (0, 6)) k11.1.1 (by decide +kernel) (Nat.le_refl _) (Nat.le_refl _)
    have d5_0_8 : η5 0 8 = η5 0 8 := rfl
    replace e12 : x12 = η5 0 11 := e12
    replace r12 : -2147483648 ≤ x12 ∧ x12 ≤ 2147483647 := r12
    have v24 : zEq (η6 0 7) (η5 0 7) := by rw [eη6]; exact (zup_ne (fun e _ => absurd e (by decide))).trans rfl
    have c6_0_7 : η6 0 7 = η5 0 7 := v24
    have v25 : zEq (η6 0 6) (η 0 6) := by rw [eη6]; exact (zup_ne (fun e _ => absurd e (by decide))).trans v21
    have c6_0_6 : η6 0 6 = η 0 6 := v25
    have v26 : zEq (η6 0 8) (η5 0 8) := by rw [eη6]; exact (zup_ne (fun e _ => absurd e (by decide))).trans rfl
    have c6_0_8 : η6 0 8 = η5 0 8 := v26
    have bx13 : (0 : Int) ≤ x13 ∧ x13 ≤ 1 := k13.1.2.1
    have w7_0_7 : (0 : Int) ≤ η7 0 7 ∧ η7 0 7 ≤ 700 := wf_ok (a := 7) (b := 7) (z := (0, 700)) k13.1.1 (by decide +kernel) (Nat.le_refl _) (Nat.le_refl _)
    have d7_0_7 : η7 0 7 = η7 0 7 := rfl
    have v28 : zEq (η7 0 6) (η 0 6) := (k13.1.2.2.2.1 0 6 (by decide +kernel)).trans v25
    have d7_0_6 : η7 0 6 = η 0 6 := v28
    have w7_0_8 : (0 : Int) ≤ η7 0 8 ∧ η7 0 8 ≤ 6 := wf_ok (a := 8) (b := 8) (z := (0, 6)) k13.1.1 (by decide +kernel) (Nat.le_refl _) (Nat.le_refl _)
    have d7_0_8 : η7 0 8 = η7 0 8 := rfl
    replace e14 : x14 = η7 0 11 := e14
    replace r14 : -2147483648 ≤ x14 ∧ x14 ≤ 2147483647 := r14
    have v31 : zEq (η8 0 7) (η7 0 7) := by rw [eη8]; exact (zup_ne (fun e _ => absurd e (by decide))).trans rfl
    have c8_0_7 : η8 0 7 = η7 0 7 := v31
    have v32 : zEq (η8 0 6) (η 0 6) := by rw [eη8]; exact (zup_ne (fun e _ => absurd e (by decide))).trans v28
    have c8_0_6 : η8 0 6 = η 0 6 := v32
    have v33 : zEq (η8 0 8) (η7 0 8) := by rw [eη8]; exact (zup_ne (fun e _ => absurd e (by decide))).trans rfl
    have c8_0_8 : η8 0 8 = η7 0 8 := v33
    have bx15 : (0 : Int) ≤ x15 ∧ x15 ≤ 1 := k15.1.2.1
    have w9_0_7 : (0 : Int) ≤ η9 0 7 ∧ η9 0 7 ≤ 700 := wf_ok (a := 7) (b := 7) (z := (0, 700)) k15.1.1 (by decide +kernel) (Nat.le_refl _) (Nat.le_refl _)
    have d9_0_7 : η9 0 7 = η9 0 7 := rfl
    have v35 : zEq (η9 0 6) (η 0 6) := (k15.1.2.2.2.1 0 6 (by decide +kernel)).trans v32
    have d9_0_6 : η9 0 6 = η 0 6 := v35
    have w9_0_8 : (0 : Int) ≤ η9 0 8 ∧ η9 0 8 ≤ 6 := wf_ok (a := 8) (b := 8) (z := (0, 6)) k15.1.1 (by decide +kernel) (Nat.le_refl _) (Nat.le_refl _)
    have d9_0_8 : η9 0 8 = η9 0 8 := rfl
    have f0_7 : η9 0 7 = η9 0 7 := rfl
    have f0_6 : η9 0 6 = η 0 6 := v35
    have f0_8 : η9 0 8 = η9 0 8 := rfl
    have qt2 : ¬ η 0 8 = 0 → 10 * (η1 0 6 - η1 0 7) + η1 0 8 < 10 * (η 0 6 - η 0 7) + η 0 8 := k2.2.2
    have g3 : G_n η3 := by rw [eη3]; exact zGk_up gk_n k6.2 (by decide +kernel)
    have qt10 : ¬ η3 0 8 = 0 → 10 * (η4 0 6 - η4 0 7) + η4 0 8 < 10 * (η3 0 6 - η3 0 7) + η3 0 8 := k10.2.2
    have qn11 : ¬ x11 = 0 → 10 * (η5 0 6 - η5 0 7) + η5 0 8 < 10 * (η4 0 6 - η4 0 7) + η4 0 8 := k11.2.2
    have g6 : G_n η6 := by rw [eη6]; exact zGk_up gk_n k11.2.1 (by decide +kernel)
    have qn13 : ¬ x13 = 0 → 10 * (η7 0 6 - η7 0 7) + η7 0 8 < 10 * (η6 0 6 - η6 0 7) + η6 0 8 := k13.2.2
    have g8 : G_n η8 := by rw [eη8]; exact zGk_up gk_n k13.2.1 (by decide +kernel)
    have qn15 : ¬ x15 = 0 → 10 * (η9 0 6 - η9 0 7) + η9 0 8 < 10 * (η8 0 6 - η8 0 7) + η8 0 8 := k15.2.2
    exact ⟨k15.2.1, fun w => absurd (show (0 : Int) = 0 by apply Int.le_antisymm <;> omega) w⟩
  · have e1 : x1 = η 0 18 := e1
    have b2 : η1 = (yq_tok η) := y2
    have e3 : x3 = η1 0 8 := e3
    have e4 : x4 = η1 0 18 := e4
    have e5 : x5 = η1 0 9 := e5
    obtain ⟨a6, b6⟩ : x6 = (yp_fd (fun k => η1 12 (4 + k)) x5 (Int.toNat x4) (Int.toNat x4)) ∧ η1 = η2 := ⟨y6.1, y6.2.symm⟩
    subst b6
    have e7 : x7 = η1 0 18 := e7
    have f7 : x4 = x7 := e4.trans e7.symm
    subst f7
    have e8 : x8 = zd 0 1 4 x4 := e8
    have e9 : x9 = η1 0 9 := e9
    have f9 : x5 = x9 := e5.trans e9.symm
    subst f9
    have eη3 : η3 = zup η1 12 (Int.toNat x8) x5 := eη3
    have b10 : η4 = (yq_tok η3) := y10
    obtain ⟨a11, b11⟩ : x11 = (yq_ny 1 9 η4) ∧ η5 = (yq_ns 1 9 η4) := y11
    have e12 : x12 = η5 0 11 := e12
    have eη6 : η6 = zup η5 13 (Int.toNat x8) x12 := eη6
    obtain ⟨a13, b13⟩ : x13 = (yq_ny 0 9 η6) ∧ η7 = (yq_ns 0 9 η6) := y13
    have e14 : x14 = η7 0 11 := e14
    have eη8 : η8 = zup η7 14 (Int.toNat x8) x14 := eη8
    obtain ⟨a15, b15⟩ : x15 = (yq_ny 0 99 η8) ∧ η9 = (yq_ns 0 99 η8) := y15
    show 0 = (yq_gul η).1 ∧ η9 = (yq_gul η).2
    simp only [yq_gul, yq_gu2, yq_gu3, yq_gu4, yq_nt, yq_no, yq_inc, ← e1, ← b2, ← e3, ← e4, ← e5, ← a6, ← e8, ← eη3, ← b10, ← a11, ← b11, ← e12, ← eη6, ← a13, ← b13, ← e14, ← eη8, ← a15, ← b15]
    all_goals clear e8
    all_goals ((repeat' split) <;> first | (exfalso; omega) | exact ⟨rfl, rfl⟩ | rfl)
set_option maxHeartbeats 8000000 in
theorem zne_guestLine_o8 {ro : Nat → List Int32} (η : zE) (hp : sP wl_ne zTr zPne_guestLine [] η) (hpp : pPne_guestLine [] η) : ∀ x1 : Int, x1 = η 0 (Int.toNat 18) → zok 0 x1 → (¬ x1 = 4) → ∀ (x2 : Int) (η1 : zE), ((gC2 wl_ne [(nat_lit 0, zPne_wrong, zOne_wrong, zMne_wrong), (nat_lit 1, zPne_token, zOne_token, zMne_token), (nat_lit 2, zPne_number, zOne_number, zMne_number), (nat_lit 3, zPne_find_g, zOne_find_g, zMne_find_g)] pCne_guestLine qCne_guestLine) 1).2 [] η x2 η1 → ∀ x3 : Int, x3 = η1 0 (Int.toNat 8) → zok 0 x3 → (x3 = 2) → ∀ x4 : Int, x4 = η1 0 (Int.toNat 18) → zok 0 x4 → ∀ x5 : Int, x5 = η1 0 (Int.toNat 9) → zok 0 x5 → ∀ (x6 : Int) (η2 : zE), ((gC2 wl_ne [(nat_lit 0, zPne_wrong, zOne_wrong, zMne_wrong), (nat_lit 1, zPne_token, zOne_token, zMne_token), (nat_lit 2, zPne_number, zOne_number, zMne_number), (nat_lit 3, zPne_find_g, zOne_find_g, zMne_find_g)] pCne_guestLine qCne_guestLine) 3).2 [x4, x5] η1 x6 η2 → (x6 < 0) → ∀ x7 : Int, x7 = η2 0 (Int.toNat 18) → zok 0 x7 → ∀ x8 : Int, x8 = zd 0 1 4 x7 → ∀ x9 : Int, x9 = η2 0 (Int.toNat 9) → zok 0 x9 → ∀ η3 : zE, η3 = zup η2 12 (Int.toNat x8) x9 → ∀ (x10 : Int) (η4 : zE), ((gC2 wl_ne [(nat_lit 0, zPne_wrong, zOne_wrong, zMne_wrong), (nat_lit 1, zPne_token, zOne_token, zMne_token), (nat_lit 2, zPne_number, zOne_number, zMne_number), (nat_lit 3, zPne_find_g, zOne_find_g, zMne_find_g)] pCne_guestLine qCne_guestLine) 1).2 [] η3 x10 η4 → ∀ (x11 : Int) (η5 : zE), ((gC2 wl_ne [(nat_lit 0, zPne_wrong, zOne_wrong, zMne_wrong), (nat_lit 1, zPne_token, zOne_token, zMne_token), (nat_lit 2, zPne_number, zOne_number, zMne_number), (nat_lit 3, zPne_find_g, zOne_find_g, zMne_find_g)] pCne_guestLine qCne_guestLine) 2).2 [1, 9] η4 x11 η5 → (¬ x11 = 0) → ∀ x12 : Int, x12 = η5 0 (Int.toNat 11) → zok 0 x12 → ∀ η6 : zE, η6 = zup η5 13 (Int.toNat x8) x12 → ∀ (x13 : Int) (η7 : zE), ((gC2 wl_ne [(nat_lit 0, zPne_wrong, zOne_wrong, zMne_wrong), (nat_lit 1, zPne_token, zOne_token, zMne_token), (nat_lit 2, zPne_number, zOne_number, zMne_number), (nat_lit 3, zPne_find_g, zOne_find_g, zMne_find_g)] pCne_guestLine qCne_guestLine) 2).2 [0, 9] η6 x13 η7 → (x13 = 0) → (fun (_ : Nat) (y : Int) (η' : zE) => pQne_guestLine [] η y η') 0 0 η7 := by
  intro x1 e1 r1 c1 x2 η1 h2 x3 e3 r3 c2 x4 e4 r4 x5 e5 r5 x6 η2 h6 c3 x7 e7 r7 x8 e8 x9 e9 r9 η3 eη3 x10 η4 h10 x11 η5 h11 c4 x12 e12 r12 η6 eη6 x13 η7 h13 c5
  have y2 : fQne_token [] η x2 η1 := h2.2.2
  have k2 : sQ wl_ne zTr zOne_token zMne_token [] η x2 η1 ∧ oQne_token [] η x2 η1 := ⟨h2.1, h2.2.1⟩
  have y6 : fQne_find_g [x4, x5] η1 x6 η2 := h6.2.2
  have k6 : sQ wl_ne zTr zOne_find_g zMne_find_g [x4, x5] η1 x6 η2 ∧ oQne_find_g [x4, x5] η1 x6 η2 := ⟨h6.1, h6.2.1⟩
  have y10 : fQne_token [] η3 x10 η4 := h10.2.2
  have k10 : sQ wl_ne zTr zOne_token zMne_token [] η3 x10 η4 ∧ oQne_token [] η3 x10 η4 := ⟨h10.1, h10.2.1⟩
  have y11 : fQne_number [1, 9] η4 x11 η5 := h11.2.2
  have k11 : sQ wl_ne zTr zOne_number zMne_number [1, 9] η4 x11 η5 ∧ oQne_number [1, 9] η4 x11 η5 := ⟨h11.1, h11.2.1⟩
  have y13 : fQne_number [0, 9] η6 x13 η7 := h13.2.2
  have k13 : sQ wl_ne zTr zOne_number zMne_number [0, 9] η6 x13 η7 ∧ oQne_number [0, 9] η6 x13 η7 := ⟨h13.1, h13.2.1⟩
  refine yj_a ?_ ?_
  · have hk : ¬ η 0 8 = 0 := hpp.2
    replace e8 := zEq_i e8
    have y2 : fQne_token [] η x2 η1 := h2.2.2
    have k2 : sQ wl_ne zTr zOne_token zMne_token [] η x2 η1 ∧ oQne_token [] η x2 η1 := ⟨h2.1, h2.2.1⟩
    have y6 : fQne_find_g [x4, x5] η1 x6 η2 := h6.2.2
    have k6 : sQ wl_ne zTr zOne_find_g zMne_find_g [x4, x5] η1 x6 η2 ∧ oQne_find_g [x4, x5] η1 x6 η2 := ⟨h6.1, h6.2.1⟩
    have y10 : fQne_token [] η3 x10 η4 := h10.2.2
    have k10 : sQ wl_ne zTr zOne_token zMne_token [] η3 x10 η4 ∧ oQne_token [] η3 x10 η4 := ⟨h10.1, h10.2.1⟩
    have y11 : fQne_number [1, 9] η4 x11 η5 := h11.2.2
    have k11 : sQ wl_ne zTr zOne_number zMne_number [1, 9] η4 x11 η5 ∧ oQne_number [1, 9] η4 x11 η5 := ⟨h11.1, h11.2.1⟩
    have y13 : fQne_number [0, 9] η6 x13 η7 := h13.2.2
    have k13 : sQ wl_ne zTr zOne_number zMne_number [0, 9] η6 x13 η7 ∧ oQne_number [0, 9] η6 x13 η7 := ⟨h13.1, h13.2.1⟩
    have w0_0_18 : (0 : Int) ≤ η 0 18 ∧ η 0 18 ≤ 4 := wf_ok (a := 18) (b := 18) (z := (0, 4)) hp.1 (by decide +kernel) (Nat.le_refl _) (Nat.le_refl _)
    replace e1 : x1 = η 0 18 := e1
    have w0_0_7 : (0 : Int) ≤ η 0 7 ∧ η 0 7 ≤ 700 := wf_ok (a := 7) (b := 7) (z := (0, 700)) hp.1 (by decide +kernel) (Nat.le_refl _) (Nat.le_refl _)
    have c0_0_7 : η 0 7 = η 0 7 := rfl
    have w0_0_6 : (0 : Int) ≤ η 0 6 ∧ η 0 6 ≤ 700 := wf_ok (a := 6) (b := 6) (z := (0, 700)) hp.1 (by decide +kernel) (Nat.le_refl _) (Nat.le_refl _)
    have c0_0_6 : η 0 6 = η 0 6 := rfl
    have w0_0_8 : (0 : Int) ≤ η 0 8 ∧ η 0 8 ≤ 6 := wf_ok (a := 8) (b := 8) (z := (0, 6)) hp.1 (by decide +kernel) (Nat.le_refl _) (Nat.le_refl _)
    have c0_0_8 : η 0 8 = η 0 8 := rfl
    have bx2 : (0 : Int) ≤ x2 ∧ x2 ≤ 0 := k2.1.2.1
    have w1_0_7 : (0 : Int) ≤ η1 0 7 ∧ η1 0 7 ≤ 700 := wf_ok (a := 7) (b := 7) (z := (0, 700)) k2.1.1 (by decide +kernel) (Nat.le_refl _) (Nat.le_refl _)
    have d1_0_7 : η1 0 7 = η1 0 7 := rfl
    have v5 : zEq (η1 0 6) (η 0 6) := (k2.1.2.2.2.1 0 6 (by decide +kernel)).trans rfl
    have d1_0_6 : η1 0 6 = η 0 6 := v5
    have w1_0_8 : (0 : Int) ≤ η1 0 8 ∧ η1 0 8 ≤ 6 := wf_ok (a := 8) (b := 8) (z := (0, 6)) k2.1.1 (by decide +kernel) (Nat.le_refl _) (Nat.le_refl _)
    have d1_0_8 : η1 0 8 = η1 0 8 := rfl
    replace e3 : x3 = η1 0 8 := e3
    have v7 : zEq (η1 0 18) (η 0 18) := (k2.1.2.2.2.1 0 18 (by decide +kernel)).trans rfl
    replace e4 : x4 = η 0 18 := e4.trans v7
    replace e5 : x5 = η1 0 9 := e5
    replace r5 : -2147483648 ≤ x5 ∧ x5 ≤ 2147483647 := r5
    have c1_0_7 : η1 0 7 = η1 0 7 := rfl
    have c1_0_6 : η1 0 6 = η 0 6 := v5
    have c1_0_8 : η1 0 8 = η1 0 8 := rfl
    have bx6 : ((-1) : Int) ≤ x6 ∧ x6 ≤ 3 := k6.1.2.1
    have v9 : zEq (η2 0 7) (η1 0 7) := (k6.1.2.2.2.1 0 7 (by decide +kernel)).trans rfl
    have d2_0_7 : η2 0 7 = η1 0 7 := v9
    have v10 : zEq (η2 0 6) (η 0 6) := (k6.1.2.2.2.1 0 6 (by decide +kernel)).trans v5
    have d2_0_6 : η2 0 6 = η 0 6 := v10
    have v11 : zEq (η2 0 8) (η1 0 8) := (k6.1.2.2.2.1 0 8 (by decide +kernel)).trans rfl
    have d2_0_8 : η2 0 8 = η1 0 8 := v11
    have v12 : zEq (η2 0 18) (η 0 18) := (k6.1.2.2.2.1 0 18 (by decide +kernel)).trans v7
    replace e7 : x7 = η 0 18 := e7.trans v12
    first
    | replace e8 : x8 = 4 + x7 := zd_a2 (zEq_o e8) (by clear e8; exact ⟨by omega, by omega⟩)
    | clear e8
    have v13 : zEq (η2 0 9) (η1 0 9) := (k6.1.2.2.2.1 0 9 (by decide +kernel)).trans rfl
    replace e9 : x9 = η1 0 9 := e9.trans v13
    replace r9 : -2147483648 ≤ x9 ∧ x9 ≤ 2147483647 := r9
    have v14 : zEq (η3 0 7) (η1 0 7) := by rw [eη3]; exact (zup_ne (fun e _ => absurd e (by decide))).trans v9
    have c3_0_7 : η3 0 7 = η1 0 7 := v14
    have v15 : zEq (η3 0 6) (η 0 6) := by rw [eη3]; exact (zup_ne (fun e _ => absurd e (by decide))).trans v10
    have c3_0_6 : η3 0 6 = η 0 6 := v15
    have v16 : zEq (η3 0 8) (η1 0 8) := by rw [eη3]; exact (zup_ne (fun e _ => absurd e (by decide))).trans v11
    have c3_0_8 : η3 0 8 = η1 0 8 := v16
    have bx10 : (0 : Int) ≤ x10 ∧ x10 ≤ 0 := k10.1.2.1
    have w4_0_7 : (0 : Int) ≤ η4 0 7 ∧ η4 0 7 ≤ 700 := wf_ok (a := 7) (b := 7) (z := (0, 700)) k10.1.1 (by decide +kernel) (Nat.le_refl _) (Nat.le_refl _)
    have d4_0_7 : η4 0 7 = η4 0 7 := rfl
    have v18 : zEq (η4 0 6) (η 0 6) := (k10.1.2.2.2.1 0 6 (by decide +kernel)).trans v15
    have d4_0_6 : η4 0 6 = η 0 6 := v18
    have w4_0_8 : (0 : Int) ≤ η4 0 8 ∧ η4 0 8 ≤ 6 := wf_ok (a := 8) (b := 8) (z := (0, 6)) k10.1.1 (by decide +kernel) (Nat.le_refl _) (Nat.le_refl _)
    have d4_0_8 : η4 0 8 = η4 0 8 := rfl
    have c4_0_7 : η4 0 7 = η4 0 7 := rfl
    have c4_0_6 : η4 0 6 = η 0 6 := v18
    have c4_0_8 : η4 0 8 = η4 0 8 := rfl
    have bx11 : (0 : Int) ≤ x11 ∧ x11 ≤ 1 := k11.1.2.1
    have w5_0_7 : (0 : Int) ≤ η5 0 7 ∧ η5 0 7 ≤ 700 := wf_ok (a := 7) (b := 7) (z := (0, 700)) k11.1.1 (by decide +kernel) (Nat.le_refl _) (Nat.le_refl _)
    have d5_0_7 : η5 0 7 = η5 0 7 := rfl
    have v21 : zEq (η5 0 6) (η 0 6) := (k11.1.2.2.2.1 0 6 (by decide +kernel)).trans v18
    have d5_0_6 : η5 0 6 = η 0 6 := v21
    have w5_0_8 : (0 : Int) ≤ η5 0 8 ∧ η5 0 8 ≤ 6 := wf_ok (a := 8) (b := 8) (z := (0, 6)) k11.1.1 (by decide +kernel) (Nat.le_refl _) (Nat.le_refl _)
    have d5_0_8 : η5 0 8 = η5 0 8 := rfl
    replace e12 : x12 = η5 0 11 := e12
    replace r12 : -2147483648 ≤ x12 ∧ x12 ≤ 2147483647 := r12
    have v24 : zEq (η6 0 7) (η5 0 7) := by rw [eη6]; exact (zup_ne (fun e _ => absurd e (by decide))).trans rfl
    have c6_0_7 : η6 0 7 = η5 0 7 := v24
    have v25 : zEq (η6 0 6) (η 0 6) := by rw [eη6]; exact (zup_ne (fun e _ => absurd e (by decide))).trans v21
    have c6_0_6 : η6 0 6 = η 0 6 := v25
    have v26 : zEq (η6 0 8) (η5 0 8) := by rw [eη6]; exact (zup_ne (fun e _ => absurd e (by decide))).trans rfl
    have c6_0_8 : η6 0 8 = η5 0 8 := v26
    have bx13 : (0 : Int) ≤ x13 ∧ x13 ≤ 1 := k13.1.2.1
    have w7_0_7 : (0 : Int) ≤ η7 0 7 ∧ η7 0 7 ≤ 700 := wf_ok (a := 7) (b := 7) (z := (0, 700)) k13.1.1 (by decide +kernel) (Nat.le_refl _) (Nat.le_refl _)
    have d7_0_7 : η7 0 7 = η7 0 7 := rfl
    have v28 : zEq (η7 0 6) (η 0 6) := (k13.1.2.2.2.1 0 6 (by decide +kernel)).trans v25
    have d7_0_6 : η7 0 6 = η 0 6 := v28
    have w7_0_8 : (0 : Int) ≤ η7 0 8 ∧ η7 0 8 ≤ 6 := wf_ok (a := 8) (b := 8) (z := (0, 6)) k13.1.1 (by decide +kernel) (Nat.le_refl _) (Nat.le_refl _)
    have d7_0_8 : η7 0 8 = η7 0 8 := rfl
    have f0_7 : η7 0 7 = η7 0 7 := rfl
    have f0_6 : η7 0 6 = η 0 6 := v28
    have f0_8 : η7 0 8 = η7 0 8 := rfl
    have qt2 : ¬ η 0 8 = 0 → 10 * (η1 0 6 - η1 0 7) + η1 0 8 < 10 * (η 0 6 - η 0 7) + η 0 8 := k2.2.2
    have g3 : G_n η3 := by rw [eη3]; exact zGk_up gk_n k6.2 (by decide +kernel)
    have qt10 : ¬ η3 0 8 = 0 → 10 * (η4 0 6 - η4 0 7) + η4 0 8 < 10 * (η3 0 6 - η3 0 7) + η3 0 8 := k10.2.2
    have qn11 : ¬ x11 = 0 → 10 * (η5 0 6 - η5 0 7) + η5 0 8 < 10 * (η4 0 6 - η4 0 7) + η4 0 8 := k11.2.2
    have g6 : G_n η6 := by rw [eη6]; exact zGk_up gk_n k11.2.1 (by decide +kernel)
    have qn13 : ¬ x13 = 0 → 10 * (η7 0 6 - η7 0 7) + η7 0 8 < 10 * (η6 0 6 - η6 0 7) + η6 0 8 := k13.2.2
    exact ⟨k13.2.1, fun w => absurd (show (0 : Int) = 0 by apply Int.le_antisymm <;> omega) w⟩
  · have e1 : x1 = η 0 18 := e1
    have b2 : η1 = (yq_tok η) := y2
    have e3 : x3 = η1 0 8 := e3
    have e4 : x4 = η1 0 18 := e4
    have e5 : x5 = η1 0 9 := e5
    obtain ⟨a6, b6⟩ : x6 = (yp_fd (fun k => η1 12 (4 + k)) x5 (Int.toNat x4) (Int.toNat x4)) ∧ η1 = η2 := ⟨y6.1, y6.2.symm⟩
    subst b6
    have e7 : x7 = η1 0 18 := e7
    have f7 : x4 = x7 := e4.trans e7.symm
    subst f7
    have e8 : x8 = zd 0 1 4 x4 := e8
    have e9 : x9 = η1 0 9 := e9
    have f9 : x5 = x9 := e5.trans e9.symm
    subst f9
    have eη3 : η3 = zup η1 12 (Int.toNat x8) x5 := eη3
    have b10 : η4 = (yq_tok η3) := y10
    obtain ⟨a11, b11⟩ : x11 = (yq_ny 1 9 η4) ∧ η5 = (yq_ns 1 9 η4) := y11
    have e12 : x12 = η5 0 11 := e12
    have eη6 : η6 = zup η5 13 (Int.toNat x8) x12 := eη6
    obtain ⟨a13, b13⟩ : x13 = (yq_ny 0 9 η6) ∧ η7 = (yq_ns 0 9 η6) := y13
    show 0 = (yq_gul η).1 ∧ η7 = (yq_gul η).2
    simp only [yq_gul, yq_gu2, yq_gu3, yq_gu4, yq_nt, yq_no, yq_inc, ← e1, ← b2, ← e3, ← e4, ← e5, ← a6, ← e8, ← eη3, ← b10, ← a11, ← b11, ← e12, ← eη6, ← a13, ← b13]
    all_goals clear e8
    all_goals ((repeat' split) <;> first | (exfalso; omega) | exact ⟨rfl, rfl⟩ | rfl)
set_option maxHeartbeats 8000000 in
theorem zne_guestLine_o9 {ro : Nat → List Int32} (η : zE) (hp : sP wl_ne zTr zPne_guestLine [] η) (hpp : pPne_guestLine [] η) : ∀ x1 : Int, x1 = η 0 (Int.toNat 18) → zok 0 x1 → (¬ x1 = 4) → ∀ (x2 : Int) (η1 : zE), ((gC2 wl_ne [(nat_lit 0, zPne_wrong, zOne_wrong, zMne_wrong), (nat_lit 1, zPne_token, zOne_token, zMne_token), (nat_lit 2, zPne_number, zOne_number, zMne_number), (nat_lit 3, zPne_find_g, zOne_find_g, zMne_find_g)] pCne_guestLine qCne_guestLine) 1).2 [] η x2 η1 → ∀ x3 : Int, x3 = η1 0 (Int.toNat 8) → zok 0 x3 → (x3 = 2) → ∀ x4 : Int, x4 = η1 0 (Int.toNat 18) → zok 0 x4 → ∀ x5 : Int, x5 = η1 0 (Int.toNat 9) → zok 0 x5 → ∀ (x6 : Int) (η2 : zE), ((gC2 wl_ne [(nat_lit 0, zPne_wrong, zOne_wrong, zMne_wrong), (nat_lit 1, zPne_token, zOne_token, zMne_token), (nat_lit 2, zPne_number, zOne_number, zMne_number), (nat_lit 3, zPne_find_g, zOne_find_g, zMne_find_g)] pCne_guestLine qCne_guestLine) 3).2 [x4, x5] η1 x6 η2 → (x6 < 0) → ∀ x7 : Int, x7 = η2 0 (Int.toNat 18) → zok 0 x7 → ∀ x8 : Int, x8 = zd 0 1 4 x7 → ∀ x9 : Int, x9 = η2 0 (Int.toNat 9) → zok 0 x9 → ∀ η3 : zE, η3 = zup η2 12 (Int.toNat x8) x9 → ∀ (x10 : Int) (η4 : zE), ((gC2 wl_ne [(nat_lit 0, zPne_wrong, zOne_wrong, zMne_wrong), (nat_lit 1, zPne_token, zOne_token, zMne_token), (nat_lit 2, zPne_number, zOne_number, zMne_number), (nat_lit 3, zPne_find_g, zOne_find_g, zMne_find_g)] pCne_guestLine qCne_guestLine) 1).2 [] η3 x10 η4 → ∀ (x11 : Int) (η5 : zE), ((gC2 wl_ne [(nat_lit 0, zPne_wrong, zOne_wrong, zMne_wrong), (nat_lit 1, zPne_token, zOne_token, zMne_token), (nat_lit 2, zPne_number, zOne_number, zMne_number), (nat_lit 3, zPne_find_g, zOne_find_g, zMne_find_g)] pCne_guestLine qCne_guestLine) 2).2 [1, 9] η4 x11 η5 → (x11 = 0) → (fun (_ : Nat) (y : Int) (η' : zE) => pQne_guestLine [] η y η') 0 0 η5 := by
  intro x1 e1 r1 c1 x2 η1 h2 x3 e3 r3 c2 x4 e4 r4 x5 e5 r5 x6 η2 h6 c3 x7 e7 r7 x8 e8 x9 e9 r9 η3 eη3 x10 η4 h10 x11 η5 h11 c4
  have y2 : fQne_token [] η x2 η1 := h2.2.2
  have k2 : sQ wl_ne zTr zOne_token zMne_token [] η x2 η1 ∧ oQne_token [] η x2 η1 := ⟨h2.1, h2.2.1⟩
  have y6 : fQne_find_g [x4, x5] η1 x6 η2 := h6.2.2
  have k6 : sQ wl_ne zTr zOne_find_g zMne_find_g [x4, x5] η1 x6 η2 ∧ oQne_find_g [x4, x5] η1 x6 η2 := ⟨h6.1, h6.2.1⟩
  have y10 : fQne_token [] η3 x10 η4 := h10.2.2
  have k10 : sQ wl_ne zTr zOne_token zMne_token [] η3 x10 η4 ∧ oQne_token [] η3 x10 η4 := ⟨h10.1, h10.2.1⟩
  have y11 : fQne_number [1, 9] η4 x11 η5 := h11.2.2
  have k11 : sQ wl_ne zTr zOne_number zMne_number [1, 9] η4 x11 η5 ∧ oQne_number [1, 9] η4 x11 η5 := ⟨h11.1, h11.2.1⟩
  refine yj_a ?_ ?_
  · have hk : ¬ η 0 8 = 0 := hpp.2
    replace e8 := zEq_i e8
    have y2 : fQne_token [] η x2 η1 := h2.2.2
    have k2 : sQ wl_ne zTr zOne_token zMne_token [] η x2 η1 ∧ oQne_token [] η x2 η1 := ⟨h2.1, h2.2.1⟩
    have y6 : fQne_find_g [x4, x5] η1 x6 η2 := h6.2.2
    have k6 : sQ wl_ne zTr zOne_find_g zMne_find_g [x4, x5] η1 x6 η2 ∧ oQne_find_g [x4, x5] η1 x6 η2 := ⟨h6.1, h6.2.1⟩
    have y10 : fQne_token [] η3 x10 η4 := h10.2.2
    have k10 : sQ wl_ne zTr zOne_token zMne_token [] η3 x10 η4 ∧ oQne_token [] η3 x10 η4 := ⟨h10.1, h10.2.1⟩
    have y11 : fQne_number [1, 9] η4 x11 η5 := h11.2.2
    have k11 : sQ wl_ne zTr zOne_number zMne_number [1, 9] η4 x11 η5 ∧ oQne_number [1, 9] η4 x11 η5 := ⟨h11.1, h11.2.1⟩
    have w0_0_18 : (0 : Int) ≤ η 0 18 ∧ η 0 18 ≤ 4 := wf_ok (a := 18) (b := 18) (z := (0, 4)) hp.1 (by decide +kernel) (Nat.le_refl _) (Nat.le_refl _)
    replace e1 : x1 = η 0 18 := e1
    have w0_0_7 : (0 : Int) ≤ η 0 7 ∧ η 0 7 ≤ 700 := wf_ok (a := 7) (b := 7) (z := (0, 700)) hp.1 (by decide +kernel) (Nat.le_refl _) (Nat.le_refl _)
    have c0_0_7 : η 0 7 = η 0 7 := rfl
    have w0_0_6 : (0 : Int) ≤ η 0 6 ∧ η 0 6 ≤ 700 := wf_ok (a := 6) (b := 6) (z := (0, 700)) hp.1 (by decide +kernel) (Nat.le_refl _) (Nat.le_refl _)
    have c0_0_6 : η 0 6 = η 0 6 := rfl
    have w0_0_8 : (0 : Int) ≤ η 0 8 ∧ η 0 8 ≤ 6 := wf_ok (a := 8) (b := 8) (z := (0, 6)) hp.1 (by decide +kernel) (Nat.le_refl _) (Nat.le_refl _)
    have c0_0_8 : η 0 8 = η 0 8 := rfl
    have bx2 : (0 : Int) ≤ x2 ∧ x2 ≤ 0 := k2.1.2.1
    have w1_0_7 : (0 : Int) ≤ η1 0 7 ∧ η1 0 7 ≤ 700 := wf_ok (a := 7) (b := 7) (z := (0, 700)) k2.1.1 (by decide +kernel) (Nat.le_refl _) (Nat.le_refl _)
    have d1_0_7 : η1 0 7 = η1 0 7 := rfl
    have v5 : zEq (η1 0 6) (η 0 6) := (k2.1.2.2.2.1 0 6 (by decide +kernel)).trans rfl
    have d1_0_6 : η1 0 6 = η 0 6 := v5
    have w1_0_8 : (0 : Int) ≤ η1 0 8 ∧ η1 0 8 ≤ 6 := wf_ok (a := 8) (b := 8) (z := (0, 6)) k2.1.1 (by decide +kernel) (Nat.le_refl _) (Nat.le_refl _)
    have d1_0_8 : η1 0 8 = η1 0 8 := rfl
    replace e3 : x3 = η1 0 8 := e3
    have v7 : zEq (η1 0 18) (η 0 18) := (k2.1.2.2.2.1 0 18 (by decide +kernel)).trans rfl
    replace e4 : x4 = η 0 18 := e4.trans v7
    replace e5 : x5 = η1 0 9 := e5
    replace r5 : -2147483648 ≤ x5 ∧ x5 ≤ 2147483647 := r5
    have c1_0_7 : η1 0 7 = η1 0 7 := rfl
    have c1_0_6 : η1 0 6 = η 0 6 := v5
    have c1_0_8 : η1 0 8 = η1 0 8 := rfl
    have bx6 : ((-1) : Int) ≤ x6 ∧ x6 ≤ 3 := k6.1.2.1
    have v9 : zEq (η2 0 7) (η1 0 7) := (k6.1.2.2.2.1 0 7 (by decide +kernel)).trans rfl
    have d2_0_7 : η2 0 7 = η1 0 7 := v9
    have v10 : zEq (η2 0 6) (η 0 6) := (k6.1.2.2.2.1 0 6 (by decide +kernel)).trans v5
    have d2_0_6 : η2 0 6 = η 0 6 := v10
    have v11 : zEq (η2 0 8) (η1 0 8) := (k6.1.2.2.2.1 0 8 (by decide +kernel)).trans rfl
    have d2_0_8 : η2 0 8 = η1 0 8 := v11
    have v12 : zEq (η2 0 18) (η 0 18) := (k6.1.2.2.2.1 0 18 (by decide +kernel)).trans v7
    replace e7 : x7 = η 0 18 := e7.trans v12
    first
    | replace e8 : x8 = 4 + x7 := zd_a2 (zEq_o e8) (by clear e8; exact ⟨by omega, by omega⟩)
    | clear e8
    have v13 : zEq (η2 0 9) (η1 0 9) := (k6.1.2.2.2.1 0 9 (by decide +kernel)).trans rfl
    replace e9 : x9 = η1 0 9 := e9.trans v13
    replace r9 : -2147483648 ≤ x9 ∧ x9 ≤ 2147483647 := r9
    have v14 : zEq (η3 0 7) (η1 0 7) := by rw [eη3]; exact (zup_ne (fun e _ => absurd e (by decide))).trans v9
    have c3_0_7 : η3 0 7 = η1 0 7 := v14
    have v15 : zEq (η3 0 6) (η 0 6) := by rw [eη3]; exact (zup_ne (fun e _ => absurd e (by decide))).trans v10
    have c3_0_6 : η3 0 6 = η 0 6 := v15
    have v16 : zEq (η3 0 8) (η1 0 8) := by rw [eη3]; exact (zup_ne (fun e _ => absurd e (by decide))).trans v11
    have c3_0_8 : η3 0 8 = η1 0 8 := v16
    have bx10 : (0 : Int) ≤ x10 ∧ x10 ≤ 0 := k10.1.2.1
    have w4_0_7 : (0 : Int) ≤ η4 0 7 ∧ η4 0 7 ≤ 700 := wf_ok (a := 7) (b := 7) (z := (0, 700)) k10.1.1 (by decide +kernel) (Nat.le_refl _) (Nat.le_refl _)
    have d4_0_7 : η4 0 7 = η4 0 7 := rfl
    have v18 : zEq (η4 0 6) (η 0 6) := (k10.1.2.2.2.1 0 6 (by decide +kernel)).trans v15
    have d4_0_6 : η4 0 6 = η 0 6 := v18
    have w4_0_8 : (0 : Int) ≤ η4 0 8 ∧ η4 0 8 ≤ 6 := wf_ok (a := 8) (b := 8) (z := (0, 6)) k10.1.1 (by decide +kernel) (Nat.le_refl _) (Nat.le_refl _)
    have d4_0_8 : η4 0 8 = η4 0 8 := rfl
    have c4_0_7 : η4 0 7 = η4 0 7 := rfl
    have c4_0_6 : η4 0 6 = η 0 6 := v18
    have c4_0_8 : η4 0 8 = η4 0 8 := rfl
    have bx11 : (0 : Int) ≤ x11 ∧ x11 ≤ 1 := k11.1.2.1
    have w5_0_7 : (0 : Int) ≤ η5 0 7 ∧ η5 0 7 ≤ 700 := wf_ok (a := 7) (b := 7) (z := (0, 700)) k11.1.1 (by decide +kernel) (Nat.le_refl _) (Nat.le_refl _)
    have d5_0_7 : η5 0 7 = η5 0 7 := rfl
    have v21 : zEq (η5 0 6) (η 0 6) := (k11.1.2.2.2.1 0 6 (by decide +kernel)).trans v18
    have d5_0_6 : η5 0 6 = η 0 6 := v21
    have w5_0_8 : (0 : Int) ≤ η5 0 8 ∧ η5 0 8 ≤ 6 := wf_ok (a := 8) (b := 8) (z := (0, 6)) k11.1.1 (by decide +kernel) (Nat.le_refl _) (Nat.le_refl _)
    have d5_0_8 : η5 0 8 = η5 0 8 := rfl
    have f0_7 : η5 0 7 = η5 0 7 := rfl
    have f0_6 : η5 0 6 = η 0 6 := v21
    have f0_8 : η5 0 8 = η5 0 8 := rfl
    have qt2 : ¬ η 0 8 = 0 → 10 * (η1 0 6 - η1 0 7) + η1 0 8 < 10 * (η 0 6 - η 0 7) + η 0 8 := k2.2.2
    have g3 : G_n η3 := by rw [eη3]; exact zGk_up gk_n k6.2 (by decide +kernel)
    have qt10 : ¬ η3 0 8 = 0 → 10 * (η4 0 6 - η4 0 7) + η4 0 8 < 10 * (η3 0 6 - η3 0 7) + η3 0 8 := k10.2.2
    have qn11 : ¬ x11 = 0 → 10 * (η5 0 6 - η5 0 7) + η5 0 8 < 10 * (η4 0 6 - η4 0 7) + η4 0 8 := k11.2.2
    exact ⟨k11.2.1, fun w => absurd (show (0 : Int) = 0 by apply Int.le_antisymm <;> omega) w⟩
  · have e1 : x1 = η 0 18 := e1
    have b2 : η1 = (yq_tok η) := y2
    have e3 : x3 = η1 0 8 := e3
    have e4 : x4 = η1 0 18 := e4
    have e5 : x5 = η1 0 9 := e5
    obtain ⟨a6, b6⟩ : x6 = (yp_fd (fun k => η1 12 (4 + k)) x5 (Int.toNat x4) (Int.toNat x4)) ∧ η1 = η2 := ⟨y6.1, y6.2.symm⟩
    subst b6
    have e7 : x7 = η1 0 18 := e7
    have f7 : x4 = x7 := e4.trans e7.symm
    subst f7
    have e8 : x8 = zd 0 1 4 x4 := e8
    have e9 : x9 = η1 0 9 := e9
    have f9 : x5 = x9 := e5.trans e9.symm
    subst f9
    have eη3 : η3 = zup η1 12 (Int.toNat x8) x5 := eη3
    have b10 : η4 = (yq_tok η3) := y10
    obtain ⟨a11, b11⟩ : x11 = (yq_ny 1 9 η4) ∧ η5 = (yq_ns 1 9 η4) := y11
    show 0 = (yq_gul η).1 ∧ η5 = (yq_gul η).2
    simp only [yq_gul, yq_gu2, yq_gu3, yq_gu4, yq_nt, yq_no, yq_inc, ← e1, ← b2, ← e3, ← e4, ← e5, ← a6, ← e8, ← eη3, ← b10, ← a11, ← b11]
    all_goals clear e8
    all_goals ((repeat' split) <;> first | (exfalso; omega) | exact ⟨rfl, rfl⟩ | rfl)
set_option maxHeartbeats 8000000 in
theorem zne_guestLine_o10 {ro : Nat → List Int32} (η : zE) (hp : sP wl_ne zTr zPne_guestLine [] η) (hpp : pPne_guestLine [] η) : ∀ x1 : Int, x1 = η 0 (Int.toNat 18) → zok 0 x1 → (¬ x1 = 4) → ∀ (x2 : Int) (η1 : zE), ((gC2 wl_ne [(nat_lit 0, zPne_wrong, zOne_wrong, zMne_wrong), (nat_lit 1, zPne_token, zOne_token, zMne_token), (nat_lit 2, zPne_number, zOne_number, zMne_number), (nat_lit 3, zPne_find_g, zOne_find_g, zMne_find_g)] pCne_guestLine qCne_guestLine) 1).2 [] η x2 η1 → ∀ x3 : Int, x3 = η1 0 (Int.toNat 8) → zok 0 x3 → (x3 = 2) → ∀ x4 : Int, x4 = η1 0 (Int.toNat 18) → zok 0 x4 → ∀ x5 : Int, x5 = η1 0 (Int.toNat 9) → zok 0 x5 → ∀ (x6 : Int) (η2 : zE), ((gC2 wl_ne [(nat_lit 0, zPne_wrong, zOne_wrong, zMne_wrong), (nat_lit 1, zPne_token, zOne_token, zMne_token), (nat_lit 2, zPne_number, zOne_number, zMne_number), (nat_lit 3, zPne_find_g, zOne_find_g, zMne_find_g)] pCne_guestLine qCne_guestLine) 3).2 [x4, x5] η1 x6 η2 → (0 ≤ x6) → ((gC2 wl_ne [(nat_lit 0, zPne_wrong, zOne_wrong, zMne_wrong), (nat_lit 1, zPne_token, zOne_token, zMne_token), (nat_lit 2, zPne_number, zOne_number, zMne_number), (nat_lit 3, zPne_find_g, zOne_find_g, zMne_find_g)] pCne_guestLine qCne_guestLine) 0).1 [3] η2 := by
  intro x1 e1 r1 c1 x2 η1 h2 x3 e3 r3 c2 x4 e4 r4 x5 e5 r5 x6 η2 h6 c3
  have y2 : fQne_token [] η x2 η1 := h2.2.2
  have k2 : sQ wl_ne zTr zOne_token zMne_token [] η x2 η1 ∧ oQne_token [] η x2 η1 := ⟨h2.1, h2.2.1⟩
  have y6 : fQne_find_g [x4, x5] η1 x6 η2 := h6.2.2
  have k6 : sQ wl_ne zTr zOne_find_g zMne_find_g [x4, x5] η1 x6 η2 ∧ oQne_find_g [x4, x5] η1 x6 η2 := ⟨h6.1, h6.2.1⟩
  exact k6.2
set_option maxHeartbeats 8000000 in
theorem zne_guestLine_o11 {ro : Nat → List Int32} (η : zE) (hp : sP wl_ne zTr zPne_guestLine [] η) (hpp : pPne_guestLine [] η) : ∀ x1 : Int, x1 = η 0 (Int.toNat 18) → zok 0 x1 → (¬ x1 = 4) → ∀ (x2 : Int) (η1 : zE), ((gC2 wl_ne [(nat_lit 0, zPne_wrong, zOne_wrong, zMne_wrong), (nat_lit 1, zPne_token, zOne_token, zMne_token), (nat_lit 2, zPne_number, zOne_number, zMne_number), (nat_lit 3, zPne_find_g, zOne_find_g, zMne_find_g)] pCne_guestLine qCne_guestLine) 1).2 [] η x2 η1 → ∀ x3 : Int, x3 = η1 0 (Int.toNat 8) → zok 0 x3 → (x3 = 2) → ∀ x4 : Int, x4 = η1 0 (Int.toNat 18) → zok 0 x4 → ∀ x5 : Int, x5 = η1 0 (Int.toNat 9) → zok 0 x5 → ∀ (x6 : Int) (η2 : zE), ((gC2 wl_ne [(nat_lit 0, zPne_wrong, zOne_wrong, zMne_wrong), (nat_lit 1, zPne_token, zOne_token, zMne_token), (nat_lit 2, zPne_number, zOne_number, zMne_number), (nat_lit 3, zPne_find_g, zOne_find_g, zMne_find_g)] pCne_guestLine qCne_guestLine) 3).2 [x4, x5] η1 x6 η2 → (0 ≤ x6) → ∀ (x7 : Int) (η3 : zE), ((gC2 wl_ne [(nat_lit 0, zPne_wrong, zOne_wrong, zMne_wrong), (nat_lit 1, zPne_token, zOne_token, zMne_token), (nat_lit 2, zPne_number, zOne_number, zMne_number), (nat_lit 3, zPne_find_g, zOne_find_g, zMne_find_g)] pCne_guestLine qCne_guestLine) 0).2 [3] η2 x7 η3 → (fun (_ : Nat) (y : Int) (η' : zE) => pQne_guestLine [] η y η') 0 x7 η3 := by
  intro x1 e1 r1 c1 x2 η1 h2 x3 e3 r3 c2 x4 e4 r4 x5 e5 r5 x6 η2 h6 c3 x7 η3 h7
  have y2 : fQne_token [] η x2 η1 := h2.2.2
  have k2 : sQ wl_ne zTr zOne_token zMne_token [] η x2 η1 ∧ oQne_token [] η x2 η1 := ⟨h2.1, h2.2.1⟩
  have y6 : fQne_find_g [x4, x5] η1 x6 η2 := h6.2.2
  have k6 : sQ wl_ne zTr zOne_find_g zMne_find_g [x4, x5] η1 x6 η2 ∧ oQne_find_g [x4, x5] η1 x6 η2 := ⟨h6.1, h6.2.1⟩
  have y7 : fQne_wrong [3] η2 x7 η3 := h7.2.2
  have k7 : sQ wl_ne zTr zOne_wrong zMne_wrong [3] η2 x7 η3 ∧ oQne_wrong [3] η2 x7 η3 := ⟨h7.1, h7.2.1⟩
  refine yj_a ?_ ?_
  · have hk : ¬ η 0 8 = 0 := hpp.2
    have y2 : fQne_token [] η x2 η1 := h2.2.2
    have k2 : sQ wl_ne zTr zOne_token zMne_token [] η x2 η1 ∧ oQne_token [] η x2 η1 := ⟨h2.1, h2.2.1⟩
    have y6 : fQne_find_g [x4, x5] η1 x6 η2 := h6.2.2
    have k6 : sQ wl_ne zTr zOne_find_g zMne_find_g [x4, x5] η1 x6 η2 ∧ oQne_find_g [x4, x5] η1 x6 η2 := ⟨h6.1, h6.2.1⟩
    have y7 : fQne_wrong [3] η2 x7 η3 := h7.2.2
    have k7 : sQ wl_ne zTr zOne_wrong zMne_wrong [3] η2 x7 η3 ∧ oQne_wrong [3] η2 x7 η3 := ⟨h7.1, h7.2.1⟩
    have w0_0_18 : (0 : Int) ≤ η 0 18 ∧ η 0 18 ≤ 4 := wf_ok (a := 18) (b := 18) (z := (0, 4)) hp.1 (by decide +kernel) (Nat.le_refl _) (Nat.le_refl _)
    replace e1 : x1 = η 0 18 := e1
    have w0_0_7 : (0 : Int) ≤ η 0 7 ∧ η 0 7 ≤ 700 := wf_ok (a := 7) (b := 7) (z := (0, 700)) hp.1 (by decide +kernel) (Nat.le_refl _) (Nat.le_refl _)
    have c0_0_7 : η 0 7 = η 0 7 := rfl
    have w0_0_6 : (0 : Int) ≤ η 0 6 ∧ η 0 6 ≤ 700 := wf_ok (a := 6) (b := 6) (z := (0, 700)) hp.1 (by decide +kernel) (Nat.le_refl _) (Nat.le_refl _)
    have c0_0_6 : η 0 6 = η 0 6 := rfl
    have w0_0_8 : (0 : Int) ≤ η 0 8 ∧ η 0 8 ≤ 6 := wf_ok (a := 8) (b := 8) (z := (0, 6)) hp.1 (by decide +kernel) (Nat.le_refl _) (Nat.le_refl _)
    have c0_0_8 : η 0 8 = η 0 8 := rfl
    have bx2 : (0 : Int) ≤ x2 ∧ x2 ≤ 0 := k2.1.2.1
    have w1_0_7 : (0 : Int) ≤ η1 0 7 ∧ η1 0 7 ≤ 700 := wf_ok (a := 7) (b := 7) (z := (0, 700)) k2.1.1 (by decide +kernel) (Nat.le_refl _) (Nat.le_refl _)
    have d1_0_7 : η1 0 7 = η1 0 7 := rfl
    have v5 : zEq (η1 0 6) (η 0 6) := (k2.1.2.2.2.1 0 6 (by decide +kernel)).trans rfl
    have d1_0_6 : η1 0 6 = η 0 6 := v5
    have w1_0_8 : (0 : Int) ≤ η1 0 8 ∧ η1 0 8 ≤ 6 := wf_ok (a := 8) (b := 8) (z := (0, 6)) k2.1.1 (by decide +kernel) (Nat.le_refl _) (Nat.le_refl _)
    have d1_0_8 : η1 0 8 = η1 0 8 := rfl
    replace e3 : x3 = η1 0 8 := e3
    have v7 : zEq (η1 0 18) (η 0 18) := (k2.1.2.2.2.1 0 18 (by decide +kernel)).trans rfl
    replace e4 : x4 = η 0 18 := e4.trans v7
    replace e5 : x5 = η1 0 9 := e5
    replace r5 : -2147483648 ≤ x5 ∧ x5 ≤ 2147483647 := r5
    have c1_0_7 : η1 0 7 = η1 0 7 := rfl
    have c1_0_6 : η1 0 6 = η 0 6 := v5
    have c1_0_8 : η1 0 8 = η1 0 8 := rfl
    have bx6 : ((-1) : Int) ≤ x6 ∧ x6 ≤ 3 := k6.1.2.1
    have v9 : zEq (η2 0 7) (η1 0 7) := (k6.1.2.2.2.1 0 7 (by decide +kernel)).trans rfl
    have d2_0_7 : η2 0 7 = η1 0 7 := v9
    have v10 : zEq (η2 0 6) (η 0 6) := (k6.1.2.2.2.1 0 6 (by decide +kernel)).trans v5
    have d2_0_6 : η2 0 6 = η 0 6 := v10
    have v11 : zEq (η2 0 8) (η1 0 8) := (k6.1.2.2.2.1 0 8 (by decide +kernel)).trans rfl
    have d2_0_8 : η2 0 8 = η1 0 8 := v11
    have c2_0_7 : η2 0 7 = η1 0 7 := v9
    have c2_0_6 : η2 0 6 = η 0 6 := v10
    have c2_0_8 : η2 0 8 = η1 0 8 := v11
    have bx7 : (0 : Int) ≤ x7 ∧ x7 ≤ 0 := k7.1.2.1
    have v12 : zEq (η3 0 7) (η1 0 7) := (k7.1.2.2.2.1 0 7 (by decide +kernel)).trans v9
    have d3_0_7 : η3 0 7 = η1 0 7 := v12
    have v13 : zEq (η3 0 6) (η 0 6) := (k7.1.2.2.2.1 0 6 (by decide +kernel)).trans v10
    have d3_0_6 : η3 0 6 = η 0 6 := v13
    have v14 : zEq (η3 0 8) (η1 0 8) := (k7.1.2.2.2.1 0 8 (by decide +kernel)).trans v11
    have d3_0_8 : η3 0 8 = η1 0 8 := v14
    have f0_7 : η3 0 7 = η1 0 7 := v12
    have f0_6 : η3 0 6 = η 0 6 := v13
    have f0_8 : η3 0 8 = η1 0 8 := v14
    have qt2 : ¬ η 0 8 = 0 → 10 * (η1 0 6 - η1 0 7) + η1 0 8 < 10 * (η 0 6 - η 0 7) + η 0 8 := k2.2.2
    exact ⟨k7.2, fun w => absurd (show (x7 : Int) = 0 by apply Int.le_antisymm <;> omega) w⟩
  · have e1 : x1 = η 0 18 := e1
    have b2 : η1 = (yq_tok η) := y2
    have e3 : x3 = η1 0 8 := e3
    have e4 : x4 = η1 0 18 := e4
    have e5 : x5 = η1 0 9 := e5
    obtain ⟨a6, b6⟩ : x6 = (yp_fd (fun k => η1 12 (4 + k)) x5 (Int.toNat x4) (Int.toNat x4)) ∧ η1 = η2 := ⟨y6.1, y6.2.symm⟩
    subst b6
    obtain ⟨a7, b7⟩ : x7 = 0 ∧ η3 = (yq_wr 3 η1) := y7
    show x7 = (yq_gul η).1 ∧ η3 = (yq_gul η).2
    simp only [yq_gul, yq_gu2, yq_gu3, yq_gu4, yq_nt, yq_no, yq_inc, ← e1, ← b2, ← e3, ← e4, ← e5, ← a6, ← b7, a7]
    all_goals ((repeat' split) <;> first | (exfalso; omega) | exact ⟨rfl, rfl⟩ | rfl)
set_option maxHeartbeats 8000000 in
theorem zne_guestLine_o12 {ro : Nat → List Int32} (η : zE) (hp : sP wl_ne zTr zPne_guestLine [] η) (hpp : pPne_guestLine [] η) : ∀ x1 : Int, x1 = η 0 (Int.toNat 18) → zok 0 x1 → (¬ x1 = 4) → ∀ (x2 : Int) (η1 : zE), ((gC2 wl_ne [(nat_lit 0, zPne_wrong, zOne_wrong, zMne_wrong), (nat_lit 1, zPne_token, zOne_token, zMne_token), (nat_lit 2, zPne_number, zOne_number, zMne_number), (nat_lit 3, zPne_find_g, zOne_find_g, zMne_find_g)] pCne_guestLine qCne_guestLine) 1).2 [] η x2 η1 → ∀ x3 : Int, x3 = η1 0 (Int.toNat 8) → zok 0 x3 → (¬ x3 = 2) → ((gC2 wl_ne [(nat_lit 0, zPne_wrong, zOne_wrong, zMne_wrong), (nat_lit 1, zPne_token, zOne_token, zMne_token), (nat_lit 2, zPne_number, zOne_number, zMne_number), (nat_lit 3, zPne_find_g, zOne_find_g, zMne_find_g)] pCne_guestLine qCne_guestLine) 0).1 [1] η1 := by
  have hk : ¬ η 0 8 = 0 := hpp.2
  intro x1 e1 r1 c1 x2 η1 h2 x3 e3 r3 c2
  have y2 : fQne_token [] η x2 η1 := h2.2.2
  have k2 : sQ wl_ne zTr zOne_token zMne_token [] η x2 η1 ∧ oQne_token [] η x2 η1 := ⟨h2.1, h2.2.1⟩
  have w0_0_18 : (0 : Int) ≤ η 0 18 ∧ η 0 18 ≤ 4 := wf_ok (a := 18) (b := 18) (z := (0, 4)) hp.1 (by decide +kernel) (Nat.le_refl _) (Nat.le_refl _)
  replace e1 : x1 = η 0 18 := e1
  have w0_0_7 : (0 : Int) ≤ η 0 7 ∧ η 0 7 ≤ 700 := wf_ok (a := 7) (b := 7) (z := (0, 700)) hp.1 (by decide +kernel) (Nat.le_refl _) (Nat.le_refl _)
  have c0_0_7 : η 0 7 = η 0 7 := rfl
  have w0_0_6 : (0 : Int) ≤ η 0 6 ∧ η 0 6 ≤ 700 := wf_ok (a := 6) (b := 6) (z := (0, 700)) hp.1 (by decide +kernel) (Nat.le_refl _) (Nat.le_refl _)
  have c0_0_6 : η 0 6 = η 0 6 := rfl
  have w0_0_8 : (0 : Int) ≤ η 0 8 ∧ η 0 8 ≤ 6 := wf_ok (a := 8) (b := 8) (z := (0, 6)) hp.1 (by decide +kernel) (Nat.le_refl _) (Nat.le_refl _)
  have c0_0_8 : η 0 8 = η 0 8 := rfl
  have bx2 : (0 : Int) ≤ x2 ∧ x2 ≤ 0 := k2.1.2.1
  have w1_0_7 : (0 : Int) ≤ η1 0 7 ∧ η1 0 7 ≤ 700 := wf_ok (a := 7) (b := 7) (z := (0, 700)) k2.1.1 (by decide +kernel) (Nat.le_refl _) (Nat.le_refl _)
  have d1_0_7 : η1 0 7 = η1 0 7 := rfl
  have v5 : zEq (η1 0 6) (η 0 6) := (k2.1.2.2.2.1 0 6 (by decide +kernel)).trans rfl
  have d1_0_6 : η1 0 6 = η 0 6 := v5
  have w1_0_8 : (0 : Int) ≤ η1 0 8 ∧ η1 0 8 ≤ 6 := wf_ok (a := 8) (b := 8) (z := (0, 6)) k2.1.1 (by decide +kernel) (Nat.le_refl _) (Nat.le_refl _)
  have d1_0_8 : η1 0 8 = η1 0 8 := rfl
  replace e3 : x3 = η1 0 8 := e3
  have f0_7 : η1 0 7 = η1 0 7 := rfl
  have f0_6 : η1 0 6 = η 0 6 := v5
  have f0_8 : η1 0 8 = η1 0 8 := rfl
  have qt2 : ¬ η 0 8 = 0 → 10 * (η1 0 6 - η1 0 7) + η1 0 8 < 10 * (η 0 6 - η 0 7) + η 0 8 := k2.2.2
  exact k2.2.1
set_option maxHeartbeats 8000000 in
theorem zne_guestLine_o13 {ro : Nat → List Int32} (η : zE) (hp : sP wl_ne zTr zPne_guestLine [] η) (hpp : pPne_guestLine [] η) : ∀ x1 : Int, x1 = η 0 (Int.toNat 18) → zok 0 x1 → (¬ x1 = 4) → ∀ (x2 : Int) (η1 : zE), ((gC2 wl_ne [(nat_lit 0, zPne_wrong, zOne_wrong, zMne_wrong), (nat_lit 1, zPne_token, zOne_token, zMne_token), (nat_lit 2, zPne_number, zOne_number, zMne_number), (nat_lit 3, zPne_find_g, zOne_find_g, zMne_find_g)] pCne_guestLine qCne_guestLine) 1).2 [] η x2 η1 → ∀ x3 : Int, x3 = η1 0 (Int.toNat 8) → zok 0 x3 → (¬ x3 = 2) → ∀ (x4 : Int) (η2 : zE), ((gC2 wl_ne [(nat_lit 0, zPne_wrong, zOne_wrong, zMne_wrong), (nat_lit 1, zPne_token, zOne_token, zMne_token), (nat_lit 2, zPne_number, zOne_number, zMne_number), (nat_lit 3, zPne_find_g, zOne_find_g, zMne_find_g)] pCne_guestLine qCne_guestLine) 0).2 [1] η1 x4 η2 → (fun (_ : Nat) (y : Int) (η' : zE) => pQne_guestLine [] η y η') 0 x4 η2 := by
  intro x1 e1 r1 c1 x2 η1 h2 x3 e3 r3 c2 x4 η2 h4
  have y2 : fQne_token [] η x2 η1 := h2.2.2
  have k2 : sQ wl_ne zTr zOne_token zMne_token [] η x2 η1 ∧ oQne_token [] η x2 η1 := ⟨h2.1, h2.2.1⟩
  have y4 : fQne_wrong [1] η1 x4 η2 := h4.2.2
  have k4 : sQ wl_ne zTr zOne_wrong zMne_wrong [1] η1 x4 η2 ∧ oQne_wrong [1] η1 x4 η2 := ⟨h4.1, h4.2.1⟩
  refine yj_a ?_ ?_
  · have hk : ¬ η 0 8 = 0 := hpp.2
    have y2 : fQne_token [] η x2 η1 := h2.2.2
    have k2 : sQ wl_ne zTr zOne_token zMne_token [] η x2 η1 ∧ oQne_token [] η x2 η1 := ⟨h2.1, h2.2.1⟩
    have y4 : fQne_wrong [1] η1 x4 η2 := h4.2.2
    have k4 : sQ wl_ne zTr zOne_wrong zMne_wrong [1] η1 x4 η2 ∧ oQne_wrong [1] η1 x4 η2 := ⟨h4.1, h4.2.1⟩
    have w0_0_18 : (0 : Int) ≤ η 0 18 ∧ η 0 18 ≤ 4 := wf_ok (a := 18) (b := 18) (z := (0, 4)) hp.1 (by decide +kernel) (Nat.le_refl _) (Nat.le_refl _)
    replace e1 : x1 = η 0 18 := e1
    have w0_0_7 : (0 : Int) ≤ η 0 7 ∧ η 0 7 ≤ 700 := wf_ok (a := 7) (b := 7) (z := (0, 700)) hp.1 (by decide +kernel) (Nat.le_refl _) (Nat.le_refl _)
    have c0_0_7 : η 0 7 = η 0 7 := rfl
    have w0_0_6 : (0 : Int) ≤ η 0 6 ∧ η 0 6 ≤ 700 := wf_ok (a := 6) (b := 6) (z := (0, 700)) hp.1 (by decide +kernel) (Nat.le_refl _) (Nat.le_refl _)
    have c0_0_6 : η 0 6 = η 0 6 := rfl
    have w0_0_8 : (0 : Int) ≤ η 0 8 ∧ η 0 8 ≤ 6 := wf_ok (a := 8) (b := 8) (z := (0, 6)) hp.1 (by decide +kernel) (Nat.le_refl _) (Nat.le_refl _)
    have c0_0_8 : η 0 8 = η 0 8 := rfl
    have bx2 : (0 : Int) ≤ x2 ∧ x2 ≤ 0 := k2.1.2.1
    have w1_0_7 : (0 : Int) ≤ η1 0 7 ∧ η1 0 7 ≤ 700 := wf_ok (a := 7) (b := 7) (z := (0, 700)) k2.1.1 (by decide +kernel) (Nat.le_refl _) (Nat.le_refl _)
    have d1_0_7 : η1 0 7 = η1 0 7 := rfl
    have v5 : zEq (η1 0 6) (η 0 6) := (k2.1.2.2.2.1 0 6 (by decide +kernel)).trans rfl
    have d1_0_6 : η1 0 6 = η 0 6 := v5
    have w1_0_8 : (0 : Int) ≤ η1 0 8 ∧ η1 0 8 ≤ 6 := wf_ok (a := 8) (b := 8) (z := (0, 6)) k2.1.1 (by decide +kernel) (Nat.le_refl _) (Nat.le_refl _)
    have d1_0_8 : η1 0 8 = η1 0 8 := rfl
    replace e3 : x3 = η1 0 8 := e3
    have c1_0_7 : η1 0 7 = η1 0 7 := rfl
    have c1_0_6 : η1 0 6 = η 0 6 := v5
    have c1_0_8 : η1 0 8 = η1 0 8 := rfl
    have bx4 : (0 : Int) ≤ x4 ∧ x4 ≤ 0 := k4.1.2.1
    have v7 : zEq (η2 0 7) (η1 0 7) := (k4.1.2.2.2.1 0 7 (by decide +kernel)).trans rfl
    have d2_0_7 : η2 0 7 = η1 0 7 := v7
    have v8 : zEq (η2 0 6) (η 0 6) := (k4.1.2.2.2.1 0 6 (by decide +kernel)).trans v5
    have d2_0_6 : η2 0 6 = η 0 6 := v8
    have v9 : zEq (η2 0 8) (η1 0 8) := (k4.1.2.2.2.1 0 8 (by decide +kernel)).trans rfl
    have d2_0_8 : η2 0 8 = η1 0 8 := v9
    have f0_7 : η2 0 7 = η1 0 7 := v7
    have f0_6 : η2 0 6 = η 0 6 := v8
    have f0_8 : η2 0 8 = η1 0 8 := v9
    have qt2 : ¬ η 0 8 = 0 → 10 * (η1 0 6 - η1 0 7) + η1 0 8 < 10 * (η 0 6 - η 0 7) + η 0 8 := k2.2.2
    exact ⟨k4.2, fun w => absurd (show (x4 : Int) = 0 by apply Int.le_antisymm <;> omega) w⟩
  · have e1 : x1 = η 0 18 := e1
    have b2 : η1 = (yq_tok η) := y2
    have e3 : x3 = η1 0 8 := e3
    obtain ⟨a4, b4⟩ : x4 = 0 ∧ η2 = (yq_wr 1 η1) := y4
    show x4 = (yq_gul η).1 ∧ η2 = (yq_gul η).2
    simp only [yq_gul, yq_gu2, yq_gu3, yq_gu4, yq_nt, yq_no, yq_inc, ← e1, ← b2, ← e3, ← b4, a4]
    all_goals ((repeat' split) <;> first | (exfalso; omega) | exact ⟨rfl, rfl⟩ | rfl)
set_option maxHeartbeats 8000000 in
theorem zne_guestLine_o14 {ro : Nat → List Int32} (η : zE) (hp : sP wl_ne zTr zPne_guestLine [] η) (hpp : pPne_guestLine [] η) : ∀ x1 : Int, x1 = η 0 (Int.toNat 18) → zok 0 x1 → (x1 = 4) → ((gC2 wl_ne [(nat_lit 0, zPne_wrong, zOne_wrong, zMne_wrong), (nat_lit 1, zPne_token, zOne_token, zMne_token), (nat_lit 2, zPne_number, zOne_number, zMne_number), (nat_lit 3, zPne_find_g, zOne_find_g, zMne_find_g)] pCne_guestLine qCne_guestLine) 0).1 [2] η := by
  have hk : ¬ η 0 8 = 0 := hpp.2
  intro x1 e1 r1 c1
  have w0_0_18 : (0 : Int) ≤ η 0 18 ∧ η 0 18 ≤ 4 := wf_ok (a := 18) (b := 18) (z := (0, 4)) hp.1 (by decide +kernel) (Nat.le_refl _) (Nat.le_refl _)
  replace e1 : x1 = η 0 18 := e1
  have w0_0_7 : (0 : Int) ≤ η 0 7 ∧ η 0 7 ≤ 700 := wf_ok (a := 7) (b := 7) (z := (0, 700)) hp.1 (by decide +kernel) (Nat.le_refl _) (Nat.le_refl _)
  have f0_7 : η 0 7 = η 0 7 := rfl
  have w0_0_6 : (0 : Int) ≤ η 0 6 ∧ η 0 6 ≤ 700 := wf_ok (a := 6) (b := 6) (z := (0, 700)) hp.1 (by decide +kernel) (Nat.le_refl _) (Nat.le_refl _)
  have f0_6 : η 0 6 = η 0 6 := rfl
  have w0_0_8 : (0 : Int) ≤ η 0 8 ∧ η 0 8 ≤ 6 := wf_ok (a := 8) (b := 8) (z := (0, 6)) hp.1 (by decide +kernel) (Nat.le_refl _) (Nat.le_refl _)
  have f0_8 : η 0 8 = η 0 8 := rfl
  exact hpp.1
set_option maxHeartbeats 8000000 in
theorem zne_guestLine_o15 {ro : Nat → List Int32} (η : zE) (hp : sP wl_ne zTr zPne_guestLine [] η) (hpp : pPne_guestLine [] η) : ∀ x1 : Int, x1 = η 0 (Int.toNat 18) → zok 0 x1 → (x1 = 4) → ∀ (x2 : Int) (η1 : zE), ((gC2 wl_ne [(nat_lit 0, zPne_wrong, zOne_wrong, zMne_wrong), (nat_lit 1, zPne_token, zOne_token, zMne_token), (nat_lit 2, zPne_number, zOne_number, zMne_number), (nat_lit 3, zPne_find_g, zOne_find_g, zMne_find_g)] pCne_guestLine qCne_guestLine) 0).2 [2] η x2 η1 → (fun (_ : Nat) (y : Int) (η' : zE) => pQne_guestLine [] η y η') 0 x2 η1 := by
  intro x1 e1 r1 c1 x2 η1 h2
  have y2 : fQne_wrong [2] η x2 η1 := h2.2.2
  have k2 : sQ wl_ne zTr zOne_wrong zMne_wrong [2] η x2 η1 ∧ oQne_wrong [2] η x2 η1 := ⟨h2.1, h2.2.1⟩
  refine yj_a ?_ ?_
  · have hk : ¬ η 0 8 = 0 := hpp.2
    have y2 : fQne_wrong [2] η x2 η1 := h2.2.2
    have k2 : sQ wl_ne zTr zOne_wrong zMne_wrong [2] η x2 η1 ∧ oQne_wrong [2] η x2 η1 := ⟨h2.1, h2.2.1⟩
    have w0_0_18 : (0 : Int) ≤ η 0 18 ∧ η 0 18 ≤ 4 := wf_ok (a := 18) (b := 18) (z := (0, 4)) hp.1 (by decide +kernel) (Nat.le_refl _) (Nat.le_refl _)
    replace e1 : x1 = η 0 18 := e1
    have w0_0_7 : (0 : Int) ≤ η 0 7 ∧ η 0 7 ≤ 700 := wf_ok (a := 7) (b := 7) (z := (0, 700)) hp.1 (by decide +kernel) (Nat.le_refl _) (Nat.le_refl _)
    have c0_0_7 : η 0 7 = η 0 7 := rfl
    have w0_0_6 : (0 : Int) ≤ η 0 6 ∧ η 0 6 ≤ 700 := wf_ok (a := 6) (b := 6) (z := (0, 700)) hp.1 (by decide +kernel) (Nat.le_refl _) (Nat.le_refl _)
    have c0_0_6 : η 0 6 = η 0 6 := rfl
    have w0_0_8 : (0 : Int) ≤ η 0 8 ∧ η 0 8 ≤ 6 := wf_ok (a := 8) (b := 8) (z := (0, 6)) hp.1 (by decide +kernel) (Nat.le_refl _) (Nat.le_refl _)
    have c0_0_8 : η 0 8 = η 0 8 := rfl
    have bx2 : (0 : Int) ≤ x2 ∧ x2 ≤ 0 := k2.1.2.1
    have v4 : zEq (η1 0 7) (η 0 7) := (k2.1.2.2.2.1 0 7 (by decide +kernel)).trans rfl
    have d1_0_7 : η1 0 7 = η 0 7 := v4
    have v5 : zEq (η1 0 6) (η 0 6) := (k2.1.2.2.2.1 0 6 (by decide +kernel)).trans rfl
    have d1_0_6 : η1 0 6 = η 0 6 := v5
    have v6 : zEq (η1 0 8) (η 0 8) := (k2.1.2.2.2.1 0 8 (by decide +kernel)).trans rfl
    have d1_0_8 : η1 0 8 = η 0 8 := v6
    have f0_7 : η1 0 7 = η 0 7 := v4
    have f0_6 : η1 0 6 = η 0 6 := v5
    have f0_8 : η1 0 8 = η 0 8 := v6
    exact ⟨k2.2, fun w => absurd (show (x2 : Int) = 0 by apply Int.le_antisymm <;> omega) w⟩
  · have e1 : x1 = η 0 18 := e1
    obtain ⟨a2, b2⟩ : x2 = 0 ∧ η1 = (yq_wr 2 η) := y2
    show x2 = (yq_gul η).1 ∧ η1 = (yq_gul η).2
    simp only [yq_gul, yq_gu2, yq_gu3, yq_gu4, yq_nt, yq_no, yq_inc, ← e1, ← b2, a2]
    all_goals ((repeat' split) <;> first | (exfalso; omega) | exact ⟨rfl, rfl⟩ | rfl)
set_option maxHeartbeats 8000000 in
theorem zne_guestLine {ro : Nat → List Int32} : zMet pr_P pr_K pr_df ro (sm_X0 1 6) 3 134 tm_ne [(.inr (.inr (.inl (nat_lit 0))))] 2 [(nat_lit 0, nat_lit 0, nat_lit 1), (nat_lit 0, nat_lit 3, nat_lit 2), (nat_lit 0, nat_lit 20, nat_lit 3), (nat_lit 0, nat_lit 21, nat_lit 4), (nat_lit 0, nat_lit 22, nat_lit 5), (nat_lit 0, nat_lit 23, nat_lit 6), (nat_lit 0, nat_lit 24, nat_lit 7), (nat_lit 0, nat_lit 25, nat_lit 8), (nat_lit 0, nat_lit 26, nat_lit 9), (nat_lit 0, nat_lit 27, nat_lit 10), (nat_lit 0, nat_lit 28, nat_lit 11), (nat_lit 0, nat_lit 29, nat_lit 12), (nat_lit 0, nat_lit 30, nat_lit 13), (nat_lit 0, nat_lit 31, nat_lit 14), (nat_lit 0, nat_lit 32, nat_lit 15), (nat_lit 0, nat_lit 33, nat_lit 16), (nat_lit 0, nat_lit 34, nat_lit 17), (nat_lit 0, nat_lit 35, nat_lit 18), (nat_lit 0, nat_lit 36, nat_lit 19), (nat_lit 0, nat_lit 37, nat_lit 20), (nat_lit 0, nat_lit 38, nat_lit 21), (nat_lit 0, nat_lit 39, nat_lit 22), (nat_lit 0, nat_lit 40, nat_lit 23), (nat_lit 0, nat_lit 47, nat_lit 24), (nat_lit 0, nat_lit 48, nat_lit 25), (nat_lit 0, nat_lit 50, nat_lit 26), (nat_lit 0, nat_lit 51, nat_lit 27), (nat_lit 0, nat_lit 52, nat_lit 28), (nat_lit 0, nat_lit 53, nat_lit 29), (nat_lit 0, nat_lit 54, nat_lit 30), (nat_lit 0, nat_lit 55, nat_lit 31), (nat_lit 0, nat_lit 56, nat_lit 32), (nat_lit 0, nat_lit 57, nat_lit 33), (nat_lit 0, nat_lit 58, nat_lit 34), (nat_lit 0, nat_lit 59, nat_lit 35), (nat_lit 0, nat_lit 72, nat_lit 36), (nat_lit 0, nat_lit 73, nat_lit 37), (nat_lit 0, nat_lit 76, nat_lit 38), (nat_lit 0, nat_lit 77, nat_lit 39), (nat_lit 0, nat_lit 79, nat_lit 40), (nat_lit 0, nat_lit 81, nat_lit 41), (nat_lit 0, nat_lit 82, nat_lit 42)] [] (fun xs η => sP wl_ne zTr zPne_guestLine xs η ∧ pPne_guestLine xs η) (fun xs η y η' => sQ wl_ne zTr zOne_guestLine zMne_guestLine xs η y η' ∧ pQne_guestLine xs η y η') :=
  zmet_alt (zmea_gen (mi := (nat_lit 0, nat_lit 1, nat_lit 8, nat_lit 2, nat_lit 2, tX8_guestLine)) (cd := [(nat_lit 118, nat_lit 0, nat_lit 0, [(.inr (.inr (.inl (nat_lit 0)))), (.inl (nat_lit 1, (.ofNat (nat_lit 0))))], nat_lit 2, [(nat_lit 0, nat_lit 0, nat_lit 1), (nat_lit 0, nat_lit 3, nat_lit 2), (nat_lit 0, nat_lit 20, nat_lit 3), (nat_lit 0, nat_lit 21, nat_lit 4), (nat_lit 0, nat_lit 22, nat_lit 5), (nat_lit 0, nat_lit 23, nat_lit 6), (nat_lit 0, nat_lit 24, nat_lit 7), (nat_lit 0, nat_lit 25, nat_lit 8), (nat_lit 0, nat_lit 26, nat_lit 9), (nat_lit 0, nat_lit 27, nat_lit 10), (nat_lit 0, nat_lit 28, nat_lit 11), (nat_lit 0, nat_lit 29, nat_lit 12), (nat_lit 0, nat_lit 30, nat_lit 13), (nat_lit 0, nat_lit 31, nat_lit 14), (nat_lit 0, nat_lit 32, nat_lit 15), (nat_lit 0, nat_lit 33, nat_lit 16), (nat_lit 0, nat_lit 34, nat_lit 17), (nat_lit 0, nat_lit 35, nat_lit 18), (nat_lit 0, nat_lit 36, nat_lit 19), (nat_lit 0, nat_lit 37, nat_lit 20), (nat_lit 0, nat_lit 38, nat_lit 21), (nat_lit 0, nat_lit 39, nat_lit 22), (nat_lit 0, nat_lit 40, nat_lit 23), (nat_lit 0, nat_lit 47, nat_lit 24), (nat_lit 0, nat_lit 48, nat_lit 25), (nat_lit 0, nat_lit 50, nat_lit 26), (nat_lit 0, nat_lit 51, nat_lit 27), (nat_lit 0, nat_lit 52, nat_lit 28), (nat_lit 0, nat_lit 53, nat_lit 29), (nat_lit 0, nat_lit 54, nat_lit 30), (nat_lit 0, nat_lit 55, nat_lit 31), (nat_lit 0, nat_lit 56, nat_lit 32), (nat_lit 0, nat_lit 57, nat_lit 33), (nat_lit 0, nat_lit 58, nat_lit 34), (nat_lit 0, nat_lit 59, nat_lit 35), (nat_lit 0, nat_lit 72, nat_lit 36), (nat_lit 0, nat_lit 73, nat_lit 37), (nat_lit 0, nat_lit 76, nat_lit 38), (nat_lit 0, nat_lit 77, nat_lit 39), (nat_lit 0, nat_lit 79, nat_lit 40), (nat_lit 0, nat_lit 81, nat_lit 41), (nat_lit 0, nat_lit 82, nat_lit 42)], []), (nat_lit 122, nat_lit 1, nat_lit 1, [(.inr (.inr (.inl (nat_lit 0))))], nat_lit 0, [(nat_lit 0, nat_lit 0, nat_lit 1), (nat_lit 0, nat_lit 3, nat_lit 2), (nat_lit 0, nat_lit 20, nat_lit 3), (nat_lit 0, nat_lit 21, nat_lit 4), (nat_lit 0, nat_lit 22, nat_lit 5), (nat_lit 0, nat_lit 23, nat_lit 6), (nat_lit 0, nat_lit 24, nat_lit 7), (nat_lit 0, nat_lit 25, nat_lit 8), (nat_lit 0, nat_lit 26, nat_lit 9), (nat_lit 0, nat_lit 27, nat_lit 10), (nat_lit 0, nat_lit 28, nat_lit 11), (nat_lit 0, nat_lit 29, nat_lit 12), (nat_lit 0, nat_lit 30, nat_lit 13), (nat_lit 0, nat_lit 31, nat_lit 14), (nat_lit 0, nat_lit 32, nat_lit 15), (nat_lit 0, nat_lit 33, nat_lit 16), (nat_lit 0, nat_lit 34, nat_lit 17), (nat_lit 0, nat_lit 35, nat_lit 18), (nat_lit 0, nat_lit 36, nat_lit 19), (nat_lit 0, nat_lit 37, nat_lit 20), (nat_lit 0, nat_lit 38, nat_lit 21), (nat_lit 0, nat_lit 39, nat_lit 22), (nat_lit 0, nat_lit 40, nat_lit 23), (nat_lit 0, nat_lit 47, nat_lit 24), (nat_lit 0, nat_lit 48, nat_lit 25), (nat_lit 0, nat_lit 50, nat_lit 26), (nat_lit 0, nat_lit 51, nat_lit 27), (nat_lit 0, nat_lit 52, nat_lit 28), (nat_lit 0, nat_lit 53, nat_lit 29), (nat_lit 0, nat_lit 54, nat_lit 30), (nat_lit 0, nat_lit 55, nat_lit 31), (nat_lit 0, nat_lit 56, nat_lit 32), (nat_lit 0, nat_lit 57, nat_lit 33), (nat_lit 0, nat_lit 58, nat_lit 34), (nat_lit 0, nat_lit 59, nat_lit 35), (nat_lit 0, nat_lit 72, nat_lit 36), (nat_lit 0, nat_lit 73, nat_lit 37), (nat_lit 0, nat_lit 76, nat_lit 38), (nat_lit 0, nat_lit 77, nat_lit 39), (nat_lit 0, nat_lit 79, nat_lit 40), (nat_lit 0, nat_lit 81, nat_lit 41), (nat_lit 0, nat_lit 82, nat_lit 42)], []), (nat_lit 127, nat_lit 2, nat_lit 2, [(.inr (.inr (.inl (nat_lit 0)))), (.inl (nat_lit 1, (.ofNat (nat_lit 0)))), (.inl (nat_lit 2, (.ofNat (nat_lit 0))))], nat_lit 2, [(nat_lit 0, nat_lit 0, nat_lit 1), (nat_lit 0, nat_lit 3, nat_lit 2), (nat_lit 0, nat_lit 20, nat_lit 3), (nat_lit 0, nat_lit 21, nat_lit 4), (nat_lit 0, nat_lit 22, nat_lit 5), (nat_lit 0, nat_lit 23, nat_lit 6), (nat_lit 0, nat_lit 24, nat_lit 7), (nat_lit 0, nat_lit 25, nat_lit 8), (nat_lit 0, nat_lit 26, nat_lit 9), (nat_lit 0, nat_lit 27, nat_lit 10), (nat_lit 0, nat_lit 28, nat_lit 11), (nat_lit 0, nat_lit 29, nat_lit 12), (nat_lit 0, nat_lit 30, nat_lit 13), (nat_lit 0, nat_lit 31, nat_lit 14), (nat_lit 0, nat_lit 32, nat_lit 15), (nat_lit 0, nat_lit 33, nat_lit 16), (nat_lit 0, nat_lit 34, nat_lit 17), (nat_lit 0, nat_lit 35, nat_lit 18), (nat_lit 0, nat_lit 36, nat_lit 19), (nat_lit 0, nat_lit 37, nat_lit 20), (nat_lit 0, nat_lit 38, nat_lit 21), (nat_lit 0, nat_lit 39, nat_lit 22), (nat_lit 0, nat_lit 40, nat_lit 23), (nat_lit 0, nat_lit 47, nat_lit 24), (nat_lit 0, nat_lit 48, nat_lit 25), (nat_lit 0, nat_lit 50, nat_lit 26), (nat_lit 0, nat_lit 51, nat_lit 27), (nat_lit 0, nat_lit 52, nat_lit 28), (nat_lit 0, nat_lit 53, nat_lit 29), (nat_lit 0, nat_lit 54, nat_lit 30), (nat_lit 0, nat_lit 55, nat_lit 31), (nat_lit 0, nat_lit 56, nat_lit 32), (nat_lit 0, nat_lit 57, nat_lit 33), (nat_lit 0, nat_lit 58, nat_lit 34), (nat_lit 0, nat_lit 59, nat_lit 35), (nat_lit 0, nat_lit 72, nat_lit 36), (nat_lit 0, nat_lit 73, nat_lit 37), (nat_lit 0, nat_lit 76, nat_lit 38), (nat_lit 0, nat_lit 77, nat_lit 39), (nat_lit 0, nat_lit 79, nat_lit 40), (nat_lit 0, nat_lit 81, nat_lit 41), (nat_lit 0, nat_lit 82, nat_lit 42)], []), (nat_lit 131, nat_lit 3, nat_lit 0, [(.inr (.inr (.inl (nat_lit 12)))), (.inl (nat_lit 0, (.ofNat (nat_lit 4)))), (.inl (nat_lit 1, (.ofNat (nat_lit 0)))), (.inl (nat_lit 2, (.ofNat (nat_lit 0))))], nat_lit 1, [], [])]) (cu := []) (cs := [(nat_lit 0, zPne_wrong, zOne_wrong, zMne_wrong), (nat_lit 1, zPne_token, zOne_token, zMne_token), (nat_lit 2, zPne_number, zOne_number, zMne_number), (nat_lit 3, zPne_find_g, zOne_find_g, zMne_find_g)]) (iv := zVne_guestLine) (po := [zOne_guestLine]) (pr := zPne_guestLine) (mods := zMne_guestLine) (D7 := zDne_guestLine) (D0 := zEne_guestLine) (Dm := zFne_guestLine) (f0 := 77) pCne_guestLine qCne_guestLine iCne_guestLine pPne_guestLine (fun xs η _ y η' => pQne_guestLine xs η y η') zX_low pr_mtR rfl (List.forall_mem_cons.mpr ⟨zne_wrong, List.forall_mem_cons.mpr ⟨zne_token, List.forall_mem_cons.mpr ⟨zne_number, List.forall_mem_cons.mpr ⟨zne_find_g, fun _ h => nomatch h⟩⟩⟩⟩) (by decide +kernel) (by decide +kernel) (by decide +kernel)
    (by
      intro xs η hr hl hp hpp
      match xs, hl, hp, hpp with
      | [], _, hp, hpp =>
        refine List.forall_mem_cons.mpr ⟨?_, List.forall_mem_cons.mpr ⟨?_, List.forall_mem_cons.mpr ⟨?_, List.forall_mem_cons.mpr ⟨?_, List.forall_mem_cons.mpr ⟨?_, List.forall_mem_cons.mpr ⟨?_, List.forall_mem_cons.mpr ⟨?_, List.forall_mem_cons.mpr ⟨?_, List.forall_mem_cons.mpr ⟨?_, List.forall_mem_cons.mpr ⟨?_, List.forall_mem_cons.mpr ⟨?_, List.forall_mem_cons.mpr ⟨?_, List.forall_mem_cons.mpr ⟨?_, List.forall_mem_cons.mpr ⟨?_, List.forall_mem_cons.mpr ⟨?_, List.forall_mem_cons.mpr ⟨?_, fun _ h => nomatch h⟩⟩⟩⟩⟩⟩⟩⟩⟩⟩⟩⟩⟩⟩⟩⟩
        · refine zden_L (n := 1) (ρ := [0]) rfl ?_
          exact zne_guestLine_o0 (ro := ro)  η hp hpp
        · refine zden_L (n := 1) (ρ := [0]) rfl ?_
          exact zne_guestLine_o1 (ro := ro)  η hp hpp
        · refine zden_L (n := 1) (ρ := [0]) rfl ?_
          exact zne_guestLine_o2 (ro := ro)  η hp hpp
        · refine zden_L (n := 1) (ρ := [0]) rfl ?_
          exact zne_guestLine_o3 (ro := ro)  η hp hpp
        · refine zden_L (n := 1) (ρ := [0]) rfl ?_
          exact zne_guestLine_o4 (ro := ro)  η hp hpp
        · refine zden_L (n := 1) (ρ := [0]) rfl ?_
          exact zne_guestLine_o5 (ro := ro)  η hp hpp
        · refine zden_L (n := 1) (ρ := [0]) rfl ?_
          exact zne_guestLine_o6 (ro := ro)  η hp hpp
        · refine zden_L (n := 1) (ρ := [0]) rfl ?_
          exact zne_guestLine_o7 (ro := ro)  η hp hpp
        · refine zden_L (n := 1) (ρ := [0]) rfl ?_
          exact zne_guestLine_o8 (ro := ro)  η hp hpp
        · refine zden_L (n := 1) (ρ := [0]) rfl ?_
          exact zne_guestLine_o9 (ro := ro)  η hp hpp
        · refine zden_L (n := 1) (ρ := [0]) rfl ?_
          exact zne_guestLine_o10 (ro := ro)  η hp hpp
        · refine zden_L (n := 1) (ρ := [0]) rfl ?_
          exact zne_guestLine_o11 (ro := ro)  η hp hpp
        · refine zden_L (n := 1) (ρ := [0]) rfl ?_
          exact zne_guestLine_o12 (ro := ro)  η hp hpp
        · refine zden_L (n := 1) (ρ := [0]) rfl ?_
          exact zne_guestLine_o13 (ro := ro)  η hp hpp
        · refine zden_L (n := 1) (ρ := [0]) rfl ?_
          exact zne_guestLine_o14 (ro := ro)  η hp hpp
        · refine zden_L (n := 1) (ρ := [0]) rfl ?_
          exact zne_guestLine_o15 (ro := ro)  η hp hpp
      )
    (fun _ _ _ _ _ _ _ h => nomatch h)
    (fun _ h => nomatch h))
def zPne_onceLine0 : zPq := ([], [])
def zOne_onceLine0 : zPo := (((.ofNat (nat_lit 0)), (.ofNat (nat_lit 1))), [], [])
def zMne_onceLine0 : List zCe := [(nat_lit 0, nat_lit 8), (nat_lit 0, nat_lit 9), (nat_lit 0, nat_lit 10), (nat_lit 0, nat_lit 11), (nat_lit 0, nat_lit 5), (nat_lit 0, nat_lit 6), (nat_lit 0, nat_lit 12), (nat_lit 4, nat_lit 0), (nat_lit 3, nat_lit 0)]
def pPne_onceLine0 : List Int → zE → Prop := fun _ η => G_n η ∧ ¬ η 0 8 = 0
def oQne_onceLine0 : List Int → zE → Int → zE → Prop := fun _ η y η' => G_n η' ∧ (¬ y = 0 → 10 * (η' 0 6 - η' 0 7) + η' 0 8 < 10 * (η 0 6 - η 0 7) + η 0 8)
def fQne_onceLine0 : List Int → zE → Int → zE → Prop := fun xs η y η' => y = (yq_onl 0 4 0 9 η).1 ∧ η' = (yq_onl 0 4 0 9 η).2
def pQne_onceLine0 : List Int → zE → Int → zE → Prop := fun xs η y η' => oQne_onceLine0 xs η y η' ∧ fQne_onceLine0 xs η y η'
def pCne_onceLine0 : Nat → List Int → zE → Prop := fun c => match c with
  | 0 => pPne_wrong
  | 1 => pPne_token
  | 2 => pPne_number
  | _ => fun _ _ => True
def qCne_onceLine0 : Nat → List Int → zE → Int → zE → Prop := fun c => match c with
  | 0 => pQne_wrong
  | 1 => pQne_token
  | 2 => pQne_number
  | _ => fun _ _ _ _ => True
def iCne_onceLine0 : List Int → zE → Nat → List Int → zE → Prop := fun xs η0 c => match c with
  | _ => fun _ _ => True
def zVne_onceLine0 : List zIv := []
def zDne_onceLine0 : List (List zK) := [[(nat_lit 7, nat_lit 0, [(nat_lit 0, (.ofNat (nat_lit 0))), (nat_lit 0, (.ofNat (nat_lit 3)))])],
  [(nat_lit 7, nat_lit 0, [(nat_lit 0, (.ofNat (nat_lit 0))), (nat_lit 0, (.ofNat (nat_lit 3)))]), (nat_lit 6, nat_lit 0, [(nat_lit 1, (.ofNat (nat_lit 0))), (nat_lit 0, (.ofNat (nat_lit 0)))]), (nat_lit 4, nat_lit 1, [(nat_lit 3, (.ofNat (nat_lit 0))), (nat_lit 0, (.ofNat (nat_lit 0)))])],
  [(nat_lit 7, nat_lit 2, [(nat_lit 0, (.ofNat (nat_lit 1)))]), (nat_lit 6, nat_lit 0, [(nat_lit 1, (.ofNat (nat_lit 0))), (nat_lit 0, (.ofNat (nat_lit 0)))]), (nat_lit 4, nat_lit 1, [(nat_lit 3, (.ofNat (nat_lit 0))), (nat_lit 0, (.ofNat (nat_lit 0)))])],
  [(nat_lit 7, nat_lit 0, [(nat_lit 4, (.ofNat (nat_lit 0))), (nat_lit 0, (.ofNat (nat_lit 8)))]), (nat_lit 4, nat_lit 0, [(nat_lit 0, (.ofNat (nat_lit 0))), (nat_lit 0, (.ofNat (nat_lit 11)))]), (nat_lit 0, nat_lit 1, [(nat_lit 0, (.ofNat (nat_lit 4))), (nat_lit 0, (.ofNat (nat_lit 0)))]), (nat_lit 6, nat_lit 1, [(nat_lit 3, (.ofNat (nat_lit 0))), (nat_lit 0, (.ofNat (nat_lit 0)))]), (nat_lit 8, nat_lit 2, [(nat_lit 0, (.ofNat (nat_lit 0))), (nat_lit 0, (.ofNat (nat_lit 9)))]), (nat_lit 8, nat_lit 1, []), (nat_lit 5, nat_lit 1, [(nat_lit 3, (.ofNat (nat_lit 0))), (nat_lit 0, (.ofNat (nat_lit 0))), (nat_lit 0, (.ofNat (nat_lit 1)))]), (nat_lit 6, nat_lit 0, [(nat_lit 1, (.ofNat (nat_lit 0))), (nat_lit 0, (.ofNat (nat_lit 0)))]), (nat_lit 4, nat_lit 1, [(nat_lit 3, (.ofNat (nat_lit 0))), (nat_lit 0, (.ofNat (nat_lit 0)))])],
  [(nat_lit 7, nat_lit 3, []), (nat_lit 6, nat_lit 0, [(nat_lit 0, (.ofNat (nat_lit 0))), (nat_lit 0, (.ofNat (nat_lit 1)))]), (nat_lit 5, nat_lit 0, [(nat_lit 4, (.ofNat (nat_lit 0))), (nat_lit 4, (.ofNat (nat_lit 0))), (nat_lit 5, (.ofNat (nat_lit 0)))]), (nat_lit 4, nat_lit 0, [(nat_lit 0, (.ofNat (nat_lit 0))), (nat_lit 0, (.ofNat (nat_lit 11)))]), (nat_lit 0, nat_lit 1, [(nat_lit 0, (.ofNat (nat_lit 4))), (nat_lit 0, (.ofNat (nat_lit 0)))]), (nat_lit 6, nat_lit 1, [(nat_lit 3, (.ofNat (nat_lit 0))), (nat_lit 0, (.ofNat (nat_lit 0)))]), (nat_lit 8, nat_lit 2, [(nat_lit 0, (.ofNat (nat_lit 0))), (nat_lit 0, (.ofNat (nat_lit 9)))]), (nat_lit 8, nat_lit 1, []), (nat_lit 5, nat_lit 1, [(nat_lit 3, (.ofNat (nat_lit 0))), (nat_lit 0, (.ofNat (nat_lit 0))), (nat_lit 0, (.ofNat (nat_lit 1)))]), (nat_lit 6, nat_lit 0, [(nat_lit 1, (.ofNat (nat_lit 0))), (nat_lit 0, (.ofNat (nat_lit 0)))]), (nat_lit 4, nat_lit 1, [(nat_lit 3, (.ofNat (nat_lit 0))), (nat_lit 0, (.ofNat (nat_lit 0)))])],
  [(nat_lit 7, nat_lit 2, [(nat_lit 0, (.ofNat (nat_lit 1)))]), (nat_lit 6, nat_lit 1, [(nat_lit 0, (.ofNat (nat_lit 0))), (nat_lit 0, (.ofNat (nat_lit 1)))]), (nat_lit 5, nat_lit 0, [(nat_lit 4, (.ofNat (nat_lit 0))), (nat_lit 4, (.ofNat (nat_lit 0))), (nat_lit 5, (.ofNat (nat_lit 0)))]), (nat_lit 4, nat_lit 0, [(nat_lit 0, (.ofNat (nat_lit 0))), (nat_lit 0, (.ofNat (nat_lit 11)))]), (nat_lit 0, nat_lit 1, [(nat_lit 0, (.ofNat (nat_lit 4))), (nat_lit 0, (.ofNat (nat_lit 0)))]), (nat_lit 6, nat_lit 1, [(nat_lit 3, (.ofNat (nat_lit 0))), (nat_lit 0, (.ofNat (nat_lit 0)))]), (nat_lit 8, nat_lit 2, [(nat_lit 0, (.ofNat (nat_lit 0))), (nat_lit 0, (.ofNat (nat_lit 9)))]), (nat_lit 8, nat_lit 1, []), (nat_lit 5, nat_lit 1, [(nat_lit 3, (.ofNat (nat_lit 0))), (nat_lit 0, (.ofNat (nat_lit 0))), (nat_lit 0, (.ofNat (nat_lit 1)))]), (nat_lit 6, nat_lit 0, [(nat_lit 1, (.ofNat (nat_lit 0))), (nat_lit 0, (.ofNat (nat_lit 0)))]), (nat_lit 4, nat_lit 1, [(nat_lit 3, (.ofNat (nat_lit 0))), (nat_lit 0, (.ofNat (nat_lit 0)))])],
  [(nat_lit 7, nat_lit 2, [(nat_lit 0, (.ofNat (nat_lit 0)))]), (nat_lit 6, nat_lit 0, [(nat_lit 3, (.ofNat (nat_lit 0))), (nat_lit 0, (.ofNat (nat_lit 0)))]), (nat_lit 8, nat_lit 2, [(nat_lit 0, (.ofNat (nat_lit 0))), (nat_lit 0, (.ofNat (nat_lit 9)))]), (nat_lit 8, nat_lit 1, []), (nat_lit 5, nat_lit 1, [(nat_lit 3, (.ofNat (nat_lit 0))), (nat_lit 0, (.ofNat (nat_lit 0))), (nat_lit 0, (.ofNat (nat_lit 1)))]), (nat_lit 6, nat_lit 0, [(nat_lit 1, (.ofNat (nat_lit 0))), (nat_lit 0, (.ofNat (nat_lit 0)))]), (nat_lit 4, nat_lit 1, [(nat_lit 3, (.ofNat (nat_lit 0))), (nat_lit 0, (.ofNat (nat_lit 0)))])],
  [(nat_lit 7, nat_lit 2, [(nat_lit 2, (.ofNat (nat_lit 0)))]), (nat_lit 8, nat_lit 0, [(nat_lit 0, (.ofNat (nat_lit 3)))]), (nat_lit 6, nat_lit 1, [(nat_lit 1, (.ofNat (nat_lit 0))), (nat_lit 0, (.ofNat (nat_lit 0)))]), (nat_lit 4, nat_lit 1, [(nat_lit 3, (.ofNat (nat_lit 0))), (nat_lit 0, (.ofNat (nat_lit 0)))])]]
def zEne_onceLine0 : List (List zK) := [[(nat_lit 13, nat_lit 1, []), (nat_lit 5, nat_lit 1, [(nat_lit 3, (.ofNat (nat_lit 0))), (nat_lit 0, (.ofNat (nat_lit 0))), (nat_lit 0, (.ofNat (nat_lit 1)))]), (nat_lit 6, nat_lit 0, [(nat_lit 1, (.ofNat (nat_lit 0))), (nat_lit 0, (.ofNat (nat_lit 0)))]), (nat_lit 4, nat_lit 1, [(nat_lit 3, (.ofNat (nat_lit 0))), (nat_lit 0, (.ofNat (nat_lit 0)))])],
  [(nat_lit 13, nat_lit 2, [(nat_lit 0, (.ofNat (nat_lit 0))), (nat_lit 0, (.ofNat (nat_lit 9)))]), (nat_lit 8, nat_lit 1, []), (nat_lit 5, nat_lit 1, [(nat_lit 3, (.ofNat (nat_lit 0))), (nat_lit 0, (.ofNat (nat_lit 0))), (nat_lit 0, (.ofNat (nat_lit 1)))]), (nat_lit 6, nat_lit 0, [(nat_lit 1, (.ofNat (nat_lit 0))), (nat_lit 0, (.ofNat (nat_lit 0)))]), (nat_lit 4, nat_lit 1, [(nat_lit 3, (.ofNat (nat_lit 0))), (nat_lit 0, (.ofNat (nat_lit 0)))])],
  [(nat_lit 11, nat_lit 0, [(nat_lit 0, (.ofNat (nat_lit 1)))]), (nat_lit 6, nat_lit 1, [(nat_lit 0, (.ofNat (nat_lit 0))), (nat_lit 0, (.ofNat (nat_lit 1)))]), (nat_lit 5, nat_lit 0, [(nat_lit 4, (.ofNat (nat_lit 0))), (nat_lit 4, (.ofNat (nat_lit 0))), (nat_lit 5, (.ofNat (nat_lit 0)))]), (nat_lit 4, nat_lit 0, [(nat_lit 0, (.ofNat (nat_lit 0))), (nat_lit 0, (.ofNat (nat_lit 11)))]), (nat_lit 0, nat_lit 1, [(nat_lit 0, (.ofNat (nat_lit 4))), (nat_lit 0, (.ofNat (nat_lit 0)))]), (nat_lit 6, nat_lit 1, [(nat_lit 3, (.ofNat (nat_lit 0))), (nat_lit 0, (.ofNat (nat_lit 0)))]), (nat_lit 8, nat_lit 2, [(nat_lit 0, (.ofNat (nat_lit 0))), (nat_lit 0, (.ofNat (nat_lit 9)))]), (nat_lit 8, nat_lit 1, []), (nat_lit 5, nat_lit 1, [(nat_lit 3, (.ofNat (nat_lit 0))), (nat_lit 0, (.ofNat (nat_lit 0))), (nat_lit 0, (.ofNat (nat_lit 1)))]), (nat_lit 6, nat_lit 0, [(nat_lit 1, (.ofNat (nat_lit 0))), (nat_lit 0, (.ofNat (nat_lit 0)))]), (nat_lit 4, nat_lit 1, [(nat_lit 3, (.ofNat (nat_lit 0))), (nat_lit 0, (.ofNat (nat_lit 0)))])],
  [(nat_lit 11, nat_lit 0, [(nat_lit 0, (.ofNat (nat_lit 0)))]), (nat_lit 6, nat_lit 0, [(nat_lit 3, (.ofNat (nat_lit 0))), (nat_lit 0, (.ofNat (nat_lit 0)))]), (nat_lit 8, nat_lit 2, [(nat_lit 0, (.ofNat (nat_lit 0))), (nat_lit 0, (.ofNat (nat_lit 9)))]), (nat_lit 8, nat_lit 1, []), (nat_lit 5, nat_lit 1, [(nat_lit 3, (.ofNat (nat_lit 0))), (nat_lit 0, (.ofNat (nat_lit 0))), (nat_lit 0, (.ofNat (nat_lit 1)))]), (nat_lit 6, nat_lit 0, [(nat_lit 1, (.ofNat (nat_lit 0))), (nat_lit 0, (.ofNat (nat_lit 0)))]), (nat_lit 4, nat_lit 1, [(nat_lit 3, (.ofNat (nat_lit 0))), (nat_lit 0, (.ofNat (nat_lit 0)))])],
  [(nat_lit 13, nat_lit 0, [(nat_lit 0, (.ofNat (nat_lit 3)))]), (nat_lit 6, nat_lit 1, [(nat_lit 1, (.ofNat (nat_lit 0))), (nat_lit 0, (.ofNat (nat_lit 0)))]), (nat_lit 4, nat_lit 1, [(nat_lit 3, (.ofNat (nat_lit 0))), (nat_lit 0, (.ofNat (nat_lit 0)))])],
  [(nat_lit 11, nat_lit 0, [(nat_lit 2, (.ofNat (nat_lit 0)))]), (nat_lit 8, nat_lit 0, [(nat_lit 0, (.ofNat (nat_lit 3)))]), (nat_lit 6, nat_lit 1, [(nat_lit 1, (.ofNat (nat_lit 0))), (nat_lit 0, (.ofNat (nat_lit 0)))]), (nat_lit 4, nat_lit 1, [(nat_lit 3, (.ofNat (nat_lit 0))), (nat_lit 0, (.ofNat (nat_lit 0)))])]]
def zFne_onceLine0 : List (List zK) := []
set_option maxHeartbeats 8000000 in
theorem zne_onceLine0_o0 {ro : Nat → List Int32} (η : zE) (hp : sP wl_ne zTr zPne_onceLine0 [] η) (hpp : pPne_onceLine0 [] η) : ∀ x1 : Int, x1 = η 3 (Int.toNat 0) → zok 1 x1 → (x1 = 0) → ∀ η1 : zE, η1 = zup η 3 (Int.toNat 0) 1 → ((gC2 wl_ne [(nat_lit 0, zPne_wrong, zOne_wrong, zMne_wrong), (nat_lit 1, zPne_token, zOne_token, zMne_token), (nat_lit 2, zPne_number, zOne_number, zMne_number)] pCne_onceLine0 qCne_onceLine0) 1).1 [] η1 := by
  have hk : ¬ η 0 8 = 0 := hpp.2
  intro x1 e1 r1 c1 η1 eη1
  replace e1 : x1 = η 3 0 := e1
  replace r1 : 0 ≤ x1 ∧ x1 ≤ 1 := r1
  have w0_0_7 : (0 : Int) ≤ η 0 7 ∧ η 0 7 ≤ 700 := wf_ok (a := 7) (b := 7) (z := (0, 700)) hp.1 (by decide +kernel) (Nat.le_refl _) (Nat.le_refl _)
  have v2 : zEq (η1 0 7) (η 0 7) := by rw [eη1]; exact (zup_ne (fun e _ => absurd e (by decide))).trans rfl
  have f0_7 : η1 0 7 = η 0 7 := v2
  have w0_0_6 : (0 : Int) ≤ η 0 6 ∧ η 0 6 ≤ 700 := wf_ok (a := 6) (b := 6) (z := (0, 700)) hp.1 (by decide +kernel) (Nat.le_refl _) (Nat.le_refl _)
  have v4 : zEq (η1 0 6) (η 0 6) := by rw [eη1]; exact (zup_ne (fun e _ => absurd e (by decide))).trans rfl
  have f0_6 : η1 0 6 = η 0 6 := v4
  have w0_0_8 : (0 : Int) ≤ η 0 8 ∧ η 0 8 ≤ 6 := wf_ok (a := 8) (b := 8) (z := (0, 6)) hp.1 (by decide +kernel) (Nat.le_refl _) (Nat.le_refl _)
  have v6 : zEq (η1 0 8) (η 0 8) := by rw [eη1]; exact (zup_ne (fun e _ => absurd e (by decide))).trans rfl
  have f0_8 : η1 0 8 = η 0 8 := v6
  have g1 : G_n η1 := by rw [eη1]; exact zGk_up gk_n hpp.1 (by decide +kernel)
  exact g1
set_option maxHeartbeats 8000000 in
theorem zne_onceLine0_o1 {ro : Nat → List Int32} (η : zE) (hp : sP wl_ne zTr zPne_onceLine0 [] η) (hpp : pPne_onceLine0 [] η) : ∀ x1 : Int, x1 = η 3 (Int.toNat 0) → zok 1 x1 → (x1 = 0) → ∀ η1 : zE, η1 = zup η 3 (Int.toNat 0) 1 → ∀ (x2 : Int) (η2 : zE), ((gC2 wl_ne [(nat_lit 0, zPne_wrong, zOne_wrong, zMne_wrong), (nat_lit 1, zPne_token, zOne_token, zMne_token), (nat_lit 2, zPne_number, zOne_number, zMne_number)] pCne_onceLine0 qCne_onceLine0) 1).2 [] η1 x2 η2 → ((gC2 wl_ne [(nat_lit 0, zPne_wrong, zOne_wrong, zMne_wrong), (nat_lit 1, zPne_token, zOne_token, zMne_token), (nat_lit 2, zPne_number, zOne_number, zMne_number)] pCne_onceLine0 qCne_onceLine0) 2).1 [0, 9] η2 := by
  have hk : ¬ η 0 8 = 0 := hpp.2
  intro x1 e1 r1 c1 η1 eη1 x2 η2 h2
  have y2 : fQne_token [] η1 x2 η2 := h2.2.2
  have k2 : sQ wl_ne zTr zOne_token zMne_token [] η1 x2 η2 ∧ oQne_token [] η1 x2 η2 := ⟨h2.1, h2.2.1⟩
  replace e1 : x1 = η 3 0 := e1
  replace r1 : 0 ≤ x1 ∧ x1 ≤ 1 := r1
  have w0_0_7 : (0 : Int) ≤ η 0 7 ∧ η 0 7 ≤ 700 := wf_ok (a := 7) (b := 7) (z := (0, 700)) hp.1 (by decide +kernel) (Nat.le_refl _) (Nat.le_refl _)
  have v2 : zEq (η1 0 7) (η 0 7) := by rw [eη1]; exact (zup_ne (fun e _ => absurd e (by decide))).trans rfl
  have c1_0_7 : η1 0 7 = η 0 7 := v2
  have w0_0_6 : (0 : Int) ≤ η 0 6 ∧ η 0 6 ≤ 700 := wf_ok (a := 6) (b := 6) (z := (0, 700)) hp.1 (by decide +kernel) (Nat.le_refl _) (Nat.le_refl _)
  have v4 : zEq (η1 0 6) (η 0 6) := by rw [eη1]; exact (zup_ne (fun e _ => absurd e (by decide))).trans rfl
  have c1_0_6 : η1 0 6 = η 0 6 := v4
  have w0_0_8 : (0 : Int) ≤ η 0 8 ∧ η 0 8 ≤ 6 := wf_ok (a := 8) (b := 8) (z := (0, 6)) hp.1 (by decide +kernel) (Nat.le_refl _) (Nat.le_refl _)
  have v6 : zEq (η1 0 8) (η 0 8) := by rw [eη1]; exact (zup_ne (fun e _ => absurd e (by decide))).trans rfl
  have c1_0_8 : η1 0 8 = η 0 8 := v6
  have bx2 : (0 : Int) ≤ x2 ∧ x2 ≤ 0 := k2.1.2.1
  have w2_0_7 : (0 : Int) ≤ η2 0 7 ∧ η2 0 7 ≤ 700 := wf_ok (a := 7) (b := 7) (z := (0, 700)) k2.1.1 (by decide +kernel) (Nat.le_refl _) (Nat.le_refl _)
  have d2_0_7 : η2 0 7 = η2 0 7 := rfl
  have v8 : zEq (η2 0 6) (η 0 6) := (k2.1.2.2.2.1 0 6 (by decide +kernel)).trans v4
  have d2_0_6 : η2 0 6 = η 0 6 := v8
  have w2_0_8 : (0 : Int) ≤ η2 0 8 ∧ η2 0 8 ≤ 6 := wf_ok (a := 8) (b := 8) (z := (0, 6)) k2.1.1 (by decide +kernel) (Nat.le_refl _) (Nat.le_refl _)
  have d2_0_8 : η2 0 8 = η2 0 8 := rfl
  have f0_7 : η2 0 7 = η2 0 7 := rfl
  have f0_6 : η2 0 6 = η 0 6 := v8
  have f0_8 : η2 0 8 = η2 0 8 := rfl
  have g1 : G_n η1 := by rw [eη1]; exact zGk_up gk_n hpp.1 (by decide +kernel)
  have qt2 : ¬ η1 0 8 = 0 → 10 * (η2 0 6 - η2 0 7) + η2 0 8 < 10 * (η1 0 6 - η1 0 7) + η1 0 8 := k2.2.2
  exact k2.2.1
set_option maxHeartbeats 8000000 in
theorem zne_onceLine0_o2 {ro : Nat → List Int32} (η : zE) (hp : sP wl_ne zTr zPne_onceLine0 [] η) (hpp : pPne_onceLine0 [] η) : ∀ x1 : Int, x1 = η 3 (Int.toNat 0) → zok 1 x1 → (x1 = 0) → ∀ η1 : zE, η1 = zup η 3 (Int.toNat 0) 1 → ∀ (x2 : Int) (η2 : zE), ((gC2 wl_ne [(nat_lit 0, zPne_wrong, zOne_wrong, zMne_wrong), (nat_lit 1, zPne_token, zOne_token, zMne_token), (nat_lit 2, zPne_number, zOne_number, zMne_number)] pCne_onceLine0 qCne_onceLine0) 1).2 [] η1 x2 η2 → ∀ (x3 : Int) (η3 : zE), ((gC2 wl_ne [(nat_lit 0, zPne_wrong, zOne_wrong, zMne_wrong), (nat_lit 1, zPne_token, zOne_token, zMne_token), (nat_lit 2, zPne_number, zOne_number, zMne_number)] pCne_onceLine0 qCne_onceLine0) 2).2 [0, 9] η2 x3 η3 → (¬ x3 = 0) → ∀ x4 : Int, x4 = zd 0 1 4 0 → ∀ x5 : Int, x5 = η3 0 (Int.toNat 11) → zok 0 x5 → ∀ η4 : zE, η4 = zup η3 4 (Int.toNat x4) x5 → (¬ (0 : Int) = (1 : Int)) → (fun (_ : Nat) (y : Int) (η' : zE) => pQne_onceLine0 [] η y η') 0 1 η4 := by
  intro x1 e1 r1 c1 η1 eη1 x2 η2 h2 x3 η3 h3 c2 x4 e4 x5 e5 r5 η4 eη4 c3
  have y2 : fQne_token [] η1 x2 η2 := h2.2.2
  have k2 : sQ wl_ne zTr zOne_token zMne_token [] η1 x2 η2 ∧ oQne_token [] η1 x2 η2 := ⟨h2.1, h2.2.1⟩
  have y3 : fQne_number [0, 9] η2 x3 η3 := h3.2.2
  have k3 : sQ wl_ne zTr zOne_number zMne_number [0, 9] η2 x3 η3 ∧ oQne_number [0, 9] η2 x3 η3 := ⟨h3.1, h3.2.1⟩
  refine yj_a ?_ ?_
  · have hk : ¬ η 0 8 = 0 := hpp.2
    replace e4 := zEq_i e4
    have y2 : fQne_token [] η1 x2 η2 := h2.2.2
    have k2 : sQ wl_ne zTr zOne_token zMne_token [] η1 x2 η2 ∧ oQne_token [] η1 x2 η2 := ⟨h2.1, h2.2.1⟩
    have y3 : fQne_number [0, 9] η2 x3 η3 := h3.2.2
    have k3 : sQ wl_ne zTr zOne_number zMne_number [0, 9] η2 x3 η3 ∧ oQne_number [0, 9] η2 x3 η3 := ⟨h3.1, h3.2.1⟩
    replace e1 : x1 = η 3 0 := e1
    replace r1 : 0 ≤ x1 ∧ x1 ≤ 1 := r1
    have w0_0_7 : (0 : Int) ≤ η 0 7 ∧ η 0 7 ≤ 700 := wf_ok (a := 7) (b := 7) (z := (0, 700)) hp.1 (by decide +kernel) (Nat.le_refl _) (Nat.le_refl _)
    have v2 : zEq (η1 0 7) (η 0 7) := by rw [eη1]; exact (zup_ne (fun e _ => absurd e (by decide))).trans rfl
    have c1_0_7 : η1 0 7 = η 0 7 := v2
    have w0_0_6 : (0 : Int) ≤ η 0 6 ∧ η 0 6 ≤ 700 := wf_ok (a := 6) (b := 6) (z := (0, 700)) hp.1 (by decide +kernel) (Nat.le_refl _) (Nat.le_refl _)
    have v4 : zEq (η1 0 6) (η 0 6) := by rw [eη1]; exact (zup_ne (fun e _ => absurd e (by decide))).trans rfl
    have c1_0_6 : η1 0 6 = η 0 6 := v4
    have w0_0_8 : (0 : Int) ≤ η 0 8 ∧ η 0 8 ≤ 6 := wf_ok (a := 8) (b := 8) (z := (0, 6)) hp.1 (by decide +kernel) (Nat.le_refl _) (Nat.le_refl _)
    have v6 : zEq (η1 0 8) (η 0 8) := by rw [eη1]; exact (zup_ne (fun e _ => absurd e (by decide))).trans rfl
    have c1_0_8 : η1 0 8 = η 0 8 := v6
    have bx2 : (0 : Int) ≤ x2 ∧ x2 ≤ 0 := k2.1.2.1
    have w2_0_7 : (0 : Int) ≤ η2 0 7 ∧ η2 0 7 ≤ 700 := wf_ok (a := 7) (b := 7) (z := (0, 700)) k2.1.1 (by decide +kernel) (Nat.le_refl _) (Nat.le_refl _)
    have d2_0_7 : η2 0 7 = η2 0 7 := rfl
    have v8 : zEq (η2 0 6) (η 0 6) := (k2.1.2.2.2.1 0 6 (by decide +kernel)).trans v4
    have d2_0_6 : η2 0 6 = η 0 6 := v8
    have w2_0_8 : (0 : Int) ≤ η2 0 8 ∧ η2 0 8 ≤ 6 := wf_ok (a := 8) (b := 8) (z := (0, 6)) k2.1.1 (by decide +kernel) (Nat.le_refl _) (Nat.le_refl _)
    have d2_0_8 : η2 0 8 = η2 0 8 := rfl
    have c2_0_7 : η2 0 7 = η2 0 7 := rfl
    have c2_0_6 : η2 0 6 = η 0 6 := v8
    have c2_0_8 : η2 0 8 = η2 0 8 := rfl
    have bx3 : (0 : Int) ≤ x3 ∧ x3 ≤ 1 := k3.1.2.1
    have w3_0_7 : (0 : Int) ≤ η3 0 7 ∧ η3 0 7 ≤ 700 := wf_ok (a := 7) (b := 7) (z := (0, 700)) k3.1.1 (by decide +kernel) (Nat.le_refl _) (Nat.le_refl _)
    have d3_0_7 : η3 0 7 = η3 0 7 := rfl
    have v11 : zEq (η3 0 6) (η 0 6) := (k3.1.2.2.2.1 0 6 (by decide +kernel)).trans v8
    have d3_0_6 : η3 0 6 = η 0 6 := v11
    have w3_0_8 : (0 : Int) ≤ η3 0 8 ∧ η3 0 8 ≤ 6 := wf_ok (a := 8) (b := 8) (z := (0, 6)) k3.1.1 (by decide +kernel) (Nat.le_refl _) (Nat.le_refl _)
    have d3_0_8 : η3 0 8 = η3 0 8 := rfl
    first
    | replace e4 : x4 = 4 + 0 := zd_a2 (zEq_o e4) (by clear e4; exact ⟨by omega, by omega⟩)
    | clear e4
    replace e5 : x5 = η3 0 11 := e5
    replace r5 : -2147483648 ≤ x5 ∧ x5 ≤ 2147483647 := r5
    have v14 : zEq (η4 0 7) (η3 0 7) := by rw [eη4]; exact (zup_ne (fun e _ => absurd e (by decide))).trans rfl
    have f0_7 : η4 0 7 = η3 0 7 := v14
    have v15 : zEq (η4 0 6) (η 0 6) := by rw [eη4]; exact (zup_ne (fun e _ => absurd e (by decide))).trans v11
    have f0_6 : η4 0 6 = η 0 6 := v15
    have v16 : zEq (η4 0 8) (η3 0 8) := by rw [eη4]; exact (zup_ne (fun e _ => absurd e (by decide))).trans rfl
    have f0_8 : η4 0 8 = η3 0 8 := v16
    have g1 : G_n η1 := by rw [eη1]; exact zGk_up gk_n hpp.1 (by decide +kernel)
    have qt2 : ¬ η1 0 8 = 0 → 10 * (η2 0 6 - η2 0 7) + η2 0 8 < 10 * (η1 0 6 - η1 0 7) + η1 0 8 := k2.2.2
    have qn3 : ¬ x3 = 0 → 10 * (η3 0 6 - η3 0 7) + η3 0 8 < 10 * (η2 0 6 - η2 0 7) + η2 0 8 := k3.2.2
    have g4 : G_n η4 := by rw [eη4]; exact zGk_up gk_n k3.2.1 (by decide +kernel)
    exact ⟨g4, fun _ => show 10 * (η4 0 6 - η4 0 7) + η4 0 8 < 10 * (η 0 6 - η 0 7) + η 0 8 by omega⟩
  · have e1 : x1 = η 3 0 := e1
    have eη1 : η1 = zup η 3 0 1 := eη1
    have b2 : η2 = (yq_tok η1) := y2
    obtain ⟨a3, b3⟩ : x3 = (yq_ny 0 9 η2) ∧ η3 = (yq_ns 0 9 η2) := y3
    have e4 : x4 = zd 0 1 4 0 := e4
    have z4 : Int.toNat x4 = 4 := by rw [e4]; rfl
    have e5 : x5 = η3 0 11 := e5
    have eη4 : η4 = zup η3 4 4 x5 := eη4.trans (by rw [z4])
    show 1 = (yq_onl 0 4 0 9 η).1 ∧ η4 = (yq_onl 0 4 0 9 η).2
    simp only [yq_onl, yq_nt, yq_no, if_true, if_false, ← e1, ← eη1, ← b2, ← a3, ← b3, ← e5, ← eη4]
    all_goals ((repeat' split) <;> first | (exfalso; omega) | exact ⟨rfl, rfl⟩ | rfl)
set_option maxHeartbeats 8000000 in
theorem zne_onceLine0_o3 {ro : Nat → List Int32} (η : zE) (hp : sP wl_ne zTr zPne_onceLine0 [] η) (hpp : pPne_onceLine0 [] η) : ∀ x1 : Int, x1 = η 3 (Int.toNat 0) → zok 1 x1 → (x1 = 0) → ∀ η1 : zE, η1 = zup η 3 (Int.toNat 0) 1 → ∀ (x2 : Int) (η2 : zE), ((gC2 wl_ne [(nat_lit 0, zPne_wrong, zOne_wrong, zMne_wrong), (nat_lit 1, zPne_token, zOne_token, zMne_token), (nat_lit 2, zPne_number, zOne_number, zMne_number)] pCne_onceLine0 qCne_onceLine0) 1).2 [] η1 x2 η2 → ∀ (x3 : Int) (η3 : zE), ((gC2 wl_ne [(nat_lit 0, zPne_wrong, zOne_wrong, zMne_wrong), (nat_lit 1, zPne_token, zOne_token, zMne_token), (nat_lit 2, zPne_number, zOne_number, zMne_number)] pCne_onceLine0 qCne_onceLine0) 2).2 [0, 9] η2 x3 η3 → (x3 = 0) → (fun (_ : Nat) (y : Int) (η' : zE) => pQne_onceLine0 [] η y η') 0 0 η3 := by
  intro x1 e1 r1 c1 η1 eη1 x2 η2 h2 x3 η3 h3 c2
  have y2 : fQne_token [] η1 x2 η2 := h2.2.2
  have k2 : sQ wl_ne zTr zOne_token zMne_token [] η1 x2 η2 ∧ oQne_token [] η1 x2 η2 := ⟨h2.1, h2.2.1⟩
  have y3 : fQne_number [0, 9] η2 x3 η3 := h3.2.2
  have k3 : sQ wl_ne zTr zOne_number zMne_number [0, 9] η2 x3 η3 ∧ oQne_number [0, 9] η2 x3 η3 := ⟨h3.1, h3.2.1⟩
  refine yj_a ?_ ?_
  · have hk : ¬ η 0 8 = 0 := hpp.2
    have y2 : fQne_token [] η1 x2 η2 := h2.2.2
    have k2 : sQ wl_ne zTr zOne_token zMne_token [] η1 x2 η2 ∧ oQne_token [] η1 x2 η2 := ⟨h2.1, h2.2.1⟩
    have y3 : fQne_number [0, 9] η2 x3 η3 := h3.2.2
    have k3 : sQ wl_ne zTr zOne_number zMne_number [0, 9] η2 x3 η3 ∧ oQne_number [0, 9] η2 x3 η3 := ⟨h3.1, h3.2.1⟩
    replace e1 : x1 = η 3 0 := e1
    replace r1 : 0 ≤ x1 ∧ x1 ≤ 1 := r1
    have w0_0_7 : (0 : Int) ≤ η 0 7 ∧ η 0 7 ≤ 700 := wf_ok (a := 7) (b := 7) (z := (0, 700)) hp.1 (by decide +kernel) (Nat.le_refl _) (Nat.le_refl _)
    have v2 : zEq (η1 0 7) (η 0 7) := by rw [eη1]; exact (zup_ne (fun e _ => absurd e (by decide))).trans rfl
    have c1_0_7 : η1 0 7 = η 0 7 := v2
    have w0_0_6 : (0 : Int) ≤ η 0 6 ∧ η 0 6 ≤ 700 := wf_ok (a := 6) (b := 6) (z := (0, 700)) hp.1 (by decide +kernel) (Nat.le_refl _) (Nat.le_refl _)
    have v4 : zEq (η1 0 6) (η 0 6) := by rw [eη1]; exact (zup_ne (fun e _ => absurd e (by decide))).trans rfl
    have c1_0_6 : η1 0 6 = η 0 6 := v4
    have w0_0_8 : (0 : Int) ≤ η 0 8 ∧ η 0 8 ≤ 6 := wf_ok (a := 8) (b := 8) (z := (0, 6)) hp.1 (by decide +kernel) (Nat.le_refl _) (Nat.le_refl _)
    have v6 : zEq (η1 0 8) (η 0 8) := by rw [eη1]; exact (zup_ne (fun e _ => absurd e (by decide))).trans rfl
    have c1_0_8 : η1 0 8 = η 0 8 := v6
    have bx2 : (0 : Int) ≤ x2 ∧ x2 ≤ 0 := k2.1.2.1
    have w2_0_7 : (0 : Int) ≤ η2 0 7 ∧ η2 0 7 ≤ 700 := wf_ok (a := 7) (b := 7) (z := (0, 700)) k2.1.1 (by decide +kernel) (Nat.le_refl _) (Nat.le_refl _)
    have d2_0_7 : η2 0 7 = η2 0 7 := rfl
    have v8 : zEq (η2 0 6) (η 0 6) := (k2.1.2.2.2.1 0 6 (by decide +kernel)).trans v4
    have d2_0_6 : η2 0 6 = η 0 6 := v8
    have w2_0_8 : (0 : Int) ≤ η2 0 8 ∧ η2 0 8 ≤ 6 := wf_ok (a := 8) (b := 8) (z := (0, 6)) k2.1.1 (by decide +kernel) (Nat.le_refl _) (Nat.le_refl _)
    have d2_0_8 : η2 0 8 = η2 0 8 := rfl
    have c2_0_7 : η2 0 7 = η2 0 7 := rfl
    have c2_0_6 : η2 0 6 = η 0 6 := v8
    have c2_0_8 : η2 0 8 = η2 0 8 := rfl
    have bx3 : (0 : Int) ≤ x3 ∧ x3 ≤ 1 := k3.1.2.1
    have w3_0_7 : (0 : Int) ≤ η3 0 7 ∧ η3 0 7 ≤ 700 := wf_ok (a := 7) (b := 7) (z := (0, 700)) k3.1.1 (by decide +kernel) (Nat.le_refl _) (Nat.le_refl _)
    have d3_0_7 : η3 0 7 = η3 0 7 := rfl
    have v11 : zEq (η3 0 6) (η 0 6) := (k3.1.2.2.2.1 0 6 (by decide +kernel)).trans v8
    have d3_0_6 : η3 0 6 = η 0 6 := v11
    have w3_0_8 : (0 : Int) ≤ η3 0 8 ∧ η3 0 8 ≤ 6 := wf_ok (a := 8) (b := 8) (z := (0, 6)) k3.1.1 (by decide +kernel) (Nat.le_refl _) (Nat.le_refl _)
    have d3_0_8 : η3 0 8 = η3 0 8 := rfl
    have f0_7 : η3 0 7 = η3 0 7 := rfl
    have f0_6 : η3 0 6 = η 0 6 := v11
    have f0_8 : η3 0 8 = η3 0 8 := rfl
    have g1 : G_n η1 := by rw [eη1]; exact zGk_up gk_n hpp.1 (by decide +kernel)
    have qt2 : ¬ η1 0 8 = 0 → 10 * (η2 0 6 - η2 0 7) + η2 0 8 < 10 * (η1 0 6 - η1 0 7) + η1 0 8 := k2.2.2
    have qn3 : ¬ x3 = 0 → 10 * (η3 0 6 - η3 0 7) + η3 0 8 < 10 * (η2 0 6 - η2 0 7) + η2 0 8 := k3.2.2
    exact ⟨k3.2.1, fun w => absurd (show (0 : Int) = 0 by apply Int.le_antisymm <;> omega) w⟩
  · have e1 : x1 = η 3 0 := e1
    have eη1 : η1 = zup η 3 0 1 := eη1
    have b2 : η2 = (yq_tok η1) := y2
    obtain ⟨a3, b3⟩ : x3 = (yq_ny 0 9 η2) ∧ η3 = (yq_ns 0 9 η2) := y3
    show 0 = (yq_onl 0 4 0 9 η).1 ∧ η3 = (yq_onl 0 4 0 9 η).2
    simp only [yq_onl, yq_nt, yq_no, if_true, if_false, ← e1, ← eη1, ← b2, ← a3, ← b3]
    all_goals ((repeat' split) <;> first | (exfalso; omega) | exact ⟨rfl, rfl⟩ | rfl)
set_option maxHeartbeats 8000000 in
theorem zne_onceLine0_o4 {ro : Nat → List Int32} (η : zE) (hp : sP wl_ne zTr zPne_onceLine0 [] η) (hpp : pPne_onceLine0 [] η) : ∀ x1 : Int, x1 = η 3 (Int.toNat 0) → zok 1 x1 → (¬ x1 = 0) → ((gC2 wl_ne [(nat_lit 0, zPne_wrong, zOne_wrong, zMne_wrong), (nat_lit 1, zPne_token, zOne_token, zMne_token), (nat_lit 2, zPne_number, zOne_number, zMne_number)] pCne_onceLine0 qCne_onceLine0) 0).1 [3] η := by
  have hk : ¬ η 0 8 = 0 := hpp.2
  intro x1 e1 r1 c1
  replace e1 : x1 = η 3 0 := e1
  replace r1 : 0 ≤ x1 ∧ x1 ≤ 1 := r1
  have w0_0_7 : (0 : Int) ≤ η 0 7 ∧ η 0 7 ≤ 700 := wf_ok (a := 7) (b := 7) (z := (0, 700)) hp.1 (by decide +kernel) (Nat.le_refl _) (Nat.le_refl _)
  have f0_7 : η 0 7 = η 0 7 := rfl
  have w0_0_6 : (0 : Int) ≤ η 0 6 ∧ η 0 6 ≤ 700 := wf_ok (a := 6) (b := 6) (z := (0, 700)) hp.1 (by decide +kernel) (Nat.le_refl _) (Nat.le_refl _)
  have f0_6 : η 0 6 = η 0 6 := rfl
  have w0_0_8 : (0 : Int) ≤ η 0 8 ∧ η 0 8 ≤ 6 := wf_ok (a := 8) (b := 8) (z := (0, 6)) hp.1 (by decide +kernel) (Nat.le_refl _) (Nat.le_refl _)
  have f0_8 : η 0 8 = η 0 8 := rfl
  exact hpp.1
set_option maxHeartbeats 8000000 in
theorem zne_onceLine0_o5 {ro : Nat → List Int32} (η : zE) (hp : sP wl_ne zTr zPne_onceLine0 [] η) (hpp : pPne_onceLine0 [] η) : ∀ x1 : Int, x1 = η 3 (Int.toNat 0) → zok 1 x1 → (¬ x1 = 0) → ∀ (x2 : Int) (η1 : zE), ((gC2 wl_ne [(nat_lit 0, zPne_wrong, zOne_wrong, zMne_wrong), (nat_lit 1, zPne_token, zOne_token, zMne_token), (nat_lit 2, zPne_number, zOne_number, zMne_number)] pCne_onceLine0 qCne_onceLine0) 0).2 [3] η x2 η1 → (fun (_ : Nat) (y : Int) (η' : zE) => pQne_onceLine0 [] η y η') 0 x2 η1 := by
  intro x1 e1 r1 c1 x2 η1 h2
  have y2 : fQne_wrong [3] η x2 η1 := h2.2.2
  have k2 : sQ wl_ne zTr zOne_wrong zMne_wrong [3] η x2 η1 ∧ oQne_wrong [3] η x2 η1 := ⟨h2.1, h2.2.1⟩
  refine yj_a ?_ ?_
  · have hk : ¬ η 0 8 = 0 := hpp.2
    have y2 : fQne_wrong [3] η x2 η1 := h2.2.2
    have k2 : sQ wl_ne zTr zOne_wrong zMne_wrong [3] η x2 η1 ∧ oQne_wrong [3] η x2 η1 := ⟨h2.1, h2.2.1⟩
    replace e1 : x1 = η 3 0 := e1
    replace r1 : 0 ≤ x1 ∧ x1 ≤ 1 := r1
    have w0_0_7 : (0 : Int) ≤ η 0 7 ∧ η 0 7 ≤ 700 := wf_ok (a := 7) (b := 7) (z := (0, 700)) hp.1 (by decide +kernel) (Nat.le_refl _) (Nat.le_refl _)
    have c0_0_7 : η 0 7 = η 0 7 := rfl
    have w0_0_6 : (0 : Int) ≤ η 0 6 ∧ η 0 6 ≤ 700 := wf_ok (a := 6) (b := 6) (z := (0, 700)) hp.1 (by decide +kernel) (Nat.le_refl _) (Nat.le_refl _)
    have c0_0_6 : η 0 6 = η 0 6 := rfl
    have w0_0_8 : (0 : Int) ≤ η 0 8 ∧ η 0 8 ≤ 6 := wf_ok (a := 8) (b := 8) (z := (0, 6)) hp.1 (by decide +kernel) (Nat.le_refl _) (Nat.le_refl _)
    have c0_0_8 : η 0 8 = η 0 8 := rfl
    have bx2 : (0 : Int) ≤ x2 ∧ x2 ≤ 0 := k2.1.2.1
    have v4 : zEq (η1 0 7) (η 0 7) := (k2.1.2.2.2.1 0 7 (by decide +kernel)).trans rfl
    have d1_0_7 : η1 0 7 = η 0 7 := v4
    have v5 : zEq (η1 0 6) (η 0 6) := (k2.1.2.2.2.1 0 6 (by decide +kernel)).trans rfl
    have d1_0_6 : η1 0 6 = η 0 6 := v5
    have v6 : zEq (η1 0 8) (η 0 8) := (k2.1.2.2.2.1 0 8 (by decide +kernel)).trans rfl
    have d1_0_8 : η1 0 8 = η 0 8 := v6
    have f0_7 : η1 0 7 = η 0 7 := v4
    have f0_6 : η1 0 6 = η 0 6 := v5
    have f0_8 : η1 0 8 = η 0 8 := v6
    exact ⟨k2.2, fun w => absurd (show (x2 : Int) = 0 by apply Int.le_antisymm <;> omega) w⟩
  · have e1 : x1 = η 3 0 := e1
    obtain ⟨a2, b2⟩ : x2 = 0 ∧ η1 = (yq_wr 3 η) := y2
    show x2 = (yq_onl 0 4 0 9 η).1 ∧ η1 = (yq_onl 0 4 0 9 η).2
    simp only [yq_onl, yq_nt, yq_no, if_true, if_false, ← e1, ← b2, a2]
    all_goals ((repeat' split) <;> first | (exfalso; omega) | exact ⟨rfl, rfl⟩ | rfl)
set_option maxHeartbeats 8000000 in
theorem zne_onceLine0 {ro : Nat → List Int32} : zMet pr_P pr_K pr_df ro (sm_X0 1 6) 3 135 tm_ne [(.inr (.inr (.inl (nat_lit 0)))), (.inl (nat_lit 0, (.ofNat (nat_lit 0)))), (.inl (nat_lit 0, (.ofNat (nat_lit 9))))] 2 [(nat_lit 0, nat_lit 0, nat_lit 1), (nat_lit 0, nat_lit 3, nat_lit 2), (nat_lit 0, nat_lit 20, nat_lit 3), (nat_lit 0, nat_lit 21, nat_lit 4), (nat_lit 0, nat_lit 22, nat_lit 5), (nat_lit 0, nat_lit 23, nat_lit 6), (nat_lit 0, nat_lit 24, nat_lit 7), (nat_lit 0, nat_lit 25, nat_lit 8), (nat_lit 0, nat_lit 26, nat_lit 9), (nat_lit 0, nat_lit 27, nat_lit 10), (nat_lit 0, nat_lit 28, nat_lit 11), (nat_lit 0, nat_lit 29, nat_lit 12), (nat_lit 0, nat_lit 30, nat_lit 13), (nat_lit 0, nat_lit 31, nat_lit 14), (nat_lit 0, nat_lit 32, nat_lit 15), (nat_lit 0, nat_lit 33, nat_lit 16), (nat_lit 0, nat_lit 34, nat_lit 17), (nat_lit 0, nat_lit 35, nat_lit 18), (nat_lit 0, nat_lit 36, nat_lit 19), (nat_lit 0, nat_lit 37, nat_lit 20), (nat_lit 0, nat_lit 38, nat_lit 21), (nat_lit 0, nat_lit 39, nat_lit 22), (nat_lit 0, nat_lit 40, nat_lit 23), (nat_lit 0, nat_lit 47, nat_lit 24), (nat_lit 0, nat_lit 48, nat_lit 25), (nat_lit 0, nat_lit 50, nat_lit 26), (nat_lit 0, nat_lit 51, nat_lit 27), (nat_lit 0, nat_lit 52, nat_lit 28), (nat_lit 0, nat_lit 53, nat_lit 29), (nat_lit 0, nat_lit 54, nat_lit 30), (nat_lit 0, nat_lit 55, nat_lit 31), (nat_lit 0, nat_lit 56, nat_lit 32), (nat_lit 0, nat_lit 57, nat_lit 33), (nat_lit 0, nat_lit 58, nat_lit 34), (nat_lit 0, nat_lit 59, nat_lit 35), (nat_lit 0, nat_lit 72, nat_lit 36), (nat_lit 0, nat_lit 73, nat_lit 37), (nat_lit 0, nat_lit 76, nat_lit 38), (nat_lit 0, nat_lit 77, nat_lit 39), (nat_lit 0, nat_lit 79, nat_lit 40), (nat_lit 0, nat_lit 81, nat_lit 41), (nat_lit 0, nat_lit 82, nat_lit 42)] [] (fun xs η => sP wl_ne zTr zPne_onceLine0 xs η ∧ pPne_onceLine0 xs η) (fun xs η y η' => sQ wl_ne zTr zOne_onceLine0 zMne_onceLine0 xs η y η' ∧ pQne_onceLine0 xs η y η') :=
  zmet_alt (zmea_gen (mi := (nat_lit 2, nat_lit 1, nat_lit 8, nat_lit 3, nat_lit 2, tX8_onceLine)) (cd := [(nat_lit 118, nat_lit 0, nat_lit 0, [(.inr (.inr (.inl (nat_lit 0)))), (.inl (nat_lit 1, (.ofNat (nat_lit 0))))], nat_lit 2, [(nat_lit 0, nat_lit 0, nat_lit 1), (nat_lit 0, nat_lit 3, nat_lit 2), (nat_lit 0, nat_lit 20, nat_lit 3), (nat_lit 0, nat_lit 21, nat_lit 4), (nat_lit 0, nat_lit 22, nat_lit 5), (nat_lit 0, nat_lit 23, nat_lit 6), (nat_lit 0, nat_lit 24, nat_lit 7), (nat_lit 0, nat_lit 25, nat_lit 8), (nat_lit 0, nat_lit 26, nat_lit 9), (nat_lit 0, nat_lit 27, nat_lit 10), (nat_lit 0, nat_lit 28, nat_lit 11), (nat_lit 0, nat_lit 29, nat_lit 12), (nat_lit 0, nat_lit 30, nat_lit 13), (nat_lit 0, nat_lit 31, nat_lit 14), (nat_lit 0, nat_lit 32, nat_lit 15), (nat_lit 0, nat_lit 33, nat_lit 16), (nat_lit 0, nat_lit 34, nat_lit 17), (nat_lit 0, nat_lit 35, nat_lit 18), (nat_lit 0, nat_lit 36, nat_lit 19), (nat_lit 0, nat_lit 37, nat_lit 20), (nat_lit 0, nat_lit 38, nat_lit 21), (nat_lit 0, nat_lit 39, nat_lit 22), (nat_lit 0, nat_lit 40, nat_lit 23), (nat_lit 0, nat_lit 47, nat_lit 24), (nat_lit 0, nat_lit 48, nat_lit 25), (nat_lit 0, nat_lit 50, nat_lit 26), (nat_lit 0, nat_lit 51, nat_lit 27), (nat_lit 0, nat_lit 52, nat_lit 28), (nat_lit 0, nat_lit 53, nat_lit 29), (nat_lit 0, nat_lit 54, nat_lit 30), (nat_lit 0, nat_lit 55, nat_lit 31), (nat_lit 0, nat_lit 56, nat_lit 32), (nat_lit 0, nat_lit 57, nat_lit 33), (nat_lit 0, nat_lit 58, nat_lit 34), (nat_lit 0, nat_lit 59, nat_lit 35), (nat_lit 0, nat_lit 72, nat_lit 36), (nat_lit 0, nat_lit 73, nat_lit 37), (nat_lit 0, nat_lit 76, nat_lit 38), (nat_lit 0, nat_lit 77, nat_lit 39), (nat_lit 0, nat_lit 79, nat_lit 40), (nat_lit 0, nat_lit 81, nat_lit 41), (nat_lit 0, nat_lit 82, nat_lit 42)], []), (nat_lit 122, nat_lit 1, nat_lit 1, [(.inr (.inr (.inl (nat_lit 0))))], nat_lit 0, [(nat_lit 0, nat_lit 0, nat_lit 1), (nat_lit 0, nat_lit 3, nat_lit 2), (nat_lit 0, nat_lit 20, nat_lit 3), (nat_lit 0, nat_lit 21, nat_lit 4), (nat_lit 0, nat_lit 22, nat_lit 5), (nat_lit 0, nat_lit 23, nat_lit 6), (nat_lit 0, nat_lit 24, nat_lit 7), (nat_lit 0, nat_lit 25, nat_lit 8), (nat_lit 0, nat_lit 26, nat_lit 9), (nat_lit 0, nat_lit 27, nat_lit 10), (nat_lit 0, nat_lit 28, nat_lit 11), (nat_lit 0, nat_lit 29, nat_lit 12), (nat_lit 0, nat_lit 30, nat_lit 13), (nat_lit 0, nat_lit 31, nat_lit 14), (nat_lit 0, nat_lit 32, nat_lit 15), (nat_lit 0, nat_lit 33, nat_lit 16), (nat_lit 0, nat_lit 34, nat_lit 17), (nat_lit 0, nat_lit 35, nat_lit 18), (nat_lit 0, nat_lit 36, nat_lit 19), (nat_lit 0, nat_lit 37, nat_lit 20), (nat_lit 0, nat_lit 38, nat_lit 21), (nat_lit 0, nat_lit 39, nat_lit 22), (nat_lit 0, nat_lit 40, nat_lit 23), (nat_lit 0, nat_lit 47, nat_lit 24), (nat_lit 0, nat_lit 48, nat_lit 25), (nat_lit 0, nat_lit 50, nat_lit 26), (nat_lit 0, nat_lit 51, nat_lit 27), (nat_lit 0, nat_lit 52, nat_lit 28), (nat_lit 0, nat_lit 53, nat_lit 29), (nat_lit 0, nat_lit 54, nat_lit 30), (nat_lit 0, nat_lit 55, nat_lit 31), (nat_lit 0, nat_lit 56, nat_lit 32), (nat_lit 0, nat_lit 57, nat_lit 33), (nat_lit 0, nat_lit 58, nat_lit 34), (nat_lit 0, nat_lit 59, nat_lit 35), (nat_lit 0, nat_lit 72, nat_lit 36), (nat_lit 0, nat_lit 73, nat_lit 37), (nat_lit 0, nat_lit 76, nat_lit 38), (nat_lit 0, nat_lit 77, nat_lit 39), (nat_lit 0, nat_lit 79, nat_lit 40), (nat_lit 0, nat_lit 81, nat_lit 41), (nat_lit 0, nat_lit 82, nat_lit 42)], []), (nat_lit 127, nat_lit 2, nat_lit 2, [(.inr (.inr (.inl (nat_lit 0)))), (.inl (nat_lit 1, (.ofNat (nat_lit 0)))), (.inl (nat_lit 2, (.ofNat (nat_lit 0))))], nat_lit 2, [(nat_lit 0, nat_lit 0, nat_lit 1), (nat_lit 0, nat_lit 3, nat_lit 2), (nat_lit 0, nat_lit 20, nat_lit 3), (nat_lit 0, nat_lit 21, nat_lit 4), (nat_lit 0, nat_lit 22, nat_lit 5), (nat_lit 0, nat_lit 23, nat_lit 6), (nat_lit 0, nat_lit 24, nat_lit 7), (nat_lit 0, nat_lit 25, nat_lit 8), (nat_lit 0, nat_lit 26, nat_lit 9), (nat_lit 0, nat_lit 27, nat_lit 10), (nat_lit 0, nat_lit 28, nat_lit 11), (nat_lit 0, nat_lit 29, nat_lit 12), (nat_lit 0, nat_lit 30, nat_lit 13), (nat_lit 0, nat_lit 31, nat_lit 14), (nat_lit 0, nat_lit 32, nat_lit 15), (nat_lit 0, nat_lit 33, nat_lit 16), (nat_lit 0, nat_lit 34, nat_lit 17), (nat_lit 0, nat_lit 35, nat_lit 18), (nat_lit 0, nat_lit 36, nat_lit 19), (nat_lit 0, nat_lit 37, nat_lit 20), (nat_lit 0, nat_lit 38, nat_lit 21), (nat_lit 0, nat_lit 39, nat_lit 22), (nat_lit 0, nat_lit 40, nat_lit 23), (nat_lit 0, nat_lit 47, nat_lit 24), (nat_lit 0, nat_lit 48, nat_lit 25), (nat_lit 0, nat_lit 50, nat_lit 26), (nat_lit 0, nat_lit 51, nat_lit 27), (nat_lit 0, nat_lit 52, nat_lit 28), (nat_lit 0, nat_lit 53, nat_lit 29), (nat_lit 0, nat_lit 54, nat_lit 30), (nat_lit 0, nat_lit 55, nat_lit 31), (nat_lit 0, nat_lit 56, nat_lit 32), (nat_lit 0, nat_lit 57, nat_lit 33), (nat_lit 0, nat_lit 58, nat_lit 34), (nat_lit 0, nat_lit 59, nat_lit 35), (nat_lit 0, nat_lit 72, nat_lit 36), (nat_lit 0, nat_lit 73, nat_lit 37), (nat_lit 0, nat_lit 76, nat_lit 38), (nat_lit 0, nat_lit 77, nat_lit 39), (nat_lit 0, nat_lit 79, nat_lit 40), (nat_lit 0, nat_lit 81, nat_lit 41), (nat_lit 0, nat_lit 82, nat_lit 42)], [])]) (cu := []) (cs := [(nat_lit 0, zPne_wrong, zOne_wrong, zMne_wrong), (nat_lit 1, zPne_token, zOne_token, zMne_token), (nat_lit 2, zPne_number, zOne_number, zMne_number)]) (iv := zVne_onceLine0) (po := [zOne_onceLine0]) (pr := zPne_onceLine0) (mods := zMne_onceLine0) (D7 := zDne_onceLine0) (D0 := zEne_onceLine0) (Dm := zFne_onceLine0) (f0 := 34) pCne_onceLine0 qCne_onceLine0 iCne_onceLine0 pPne_onceLine0 (fun xs η _ y η' => pQne_onceLine0 xs η y η') zX_low pr_mtR rfl (List.forall_mem_cons.mpr ⟨zne_wrong, List.forall_mem_cons.mpr ⟨zne_token, List.forall_mem_cons.mpr ⟨zne_number, fun _ h => nomatch h⟩⟩⟩) (by decide +kernel) (by decide +kernel) (by decide +kernel)
    (by
      intro xs η hr hl hp hpp
      match xs, hl, hp, hpp with
      | [], _, hp, hpp =>
        refine List.forall_mem_cons.mpr ⟨?_, List.forall_mem_cons.mpr ⟨?_, List.forall_mem_cons.mpr ⟨?_, List.forall_mem_cons.mpr ⟨?_, List.forall_mem_cons.mpr ⟨?_, List.forall_mem_cons.mpr ⟨?_, fun _ h => nomatch h⟩⟩⟩⟩⟩⟩
        · refine zden_L (n := 1) (ρ := [0]) rfl ?_
          exact zne_onceLine0_o0 (ro := ro)  η hp hpp
        · refine zden_L (n := 1) (ρ := [0]) rfl ?_
          exact zne_onceLine0_o1 (ro := ro)  η hp hpp
        · refine zden_L (n := 1) (ρ := [0]) rfl ?_
          exact zne_onceLine0_o2 (ro := ro)  η hp hpp
        · refine zden_L (n := 1) (ρ := [0]) rfl ?_
          exact zne_onceLine0_o3 (ro := ro)  η hp hpp
        · refine zden_L (n := 1) (ρ := [0]) rfl ?_
          exact zne_onceLine0_o4 (ro := ro)  η hp hpp
        · refine zden_L (n := 1) (ρ := [0]) rfl ?_
          exact zne_onceLine0_o5 (ro := ro)  η hp hpp
      )
    (fun _ _ _ _ _ _ _ h => nomatch h)
    (fun _ h => nomatch h))
def zPne_onceLine1 : zPq := ([], [])
def zOne_onceLine1 : zPo := (((.ofNat (nat_lit 0)), (.ofNat (nat_lit 1))), [], [])
def zMne_onceLine1 : List zCe := [(nat_lit 0, nat_lit 8), (nat_lit 0, nat_lit 9), (nat_lit 0, nat_lit 10), (nat_lit 0, nat_lit 11), (nat_lit 0, nat_lit 5), (nat_lit 0, nat_lit 6), (nat_lit 0, nat_lit 12), (nat_lit 4, nat_lit 0), (nat_lit 3, nat_lit 0)]
def pPne_onceLine1 : List Int → zE → Prop := fun _ η => G_n η ∧ ¬ η 0 8 = 0
def oQne_onceLine1 : List Int → zE → Int → zE → Prop := fun _ η y η' => G_n η' ∧ (¬ y = 0 → 10 * (η' 0 6 - η' 0 7) + η' 0 8 < 10 * (η 0 6 - η 0 7) + η 0 8)
def fQne_onceLine1 : List Int → zE → Int → zE → Prop := fun xs η y η' => y = (yq_onl 1 5 1 99 η).1 ∧ η' = (yq_onl 1 5 1 99 η).2
def pQne_onceLine1 : List Int → zE → Int → zE → Prop := fun xs η y η' => oQne_onceLine1 xs η y η' ∧ fQne_onceLine1 xs η y η'
def pCne_onceLine1 : Nat → List Int → zE → Prop := fun c => match c with
  | 0 => pPne_wrong
  | 1 => pPne_token
  | 2 => pPne_number
  | _ => fun _ _ => True
def qCne_onceLine1 : Nat → List Int → zE → Int → zE → Prop := fun c => match c with
  | 0 => pQne_wrong
  | 1 => pQne_token
  | 2 => pQne_number
  | _ => fun _ _ _ _ => True
def iCne_onceLine1 : List Int → zE → Nat → List Int → zE → Prop := fun xs η0 c => match c with
  | _ => fun _ _ => True
def zVne_onceLine1 : List zIv := []
def zDne_onceLine1 : List (List zK) := [[(nat_lit 7, nat_lit 0, [(nat_lit 0, (.ofNat (nat_lit 1))), (nat_lit 0, (.ofNat (nat_lit 3)))])],
  [(nat_lit 7, nat_lit 0, [(nat_lit 0, (.ofNat (nat_lit 1))), (nat_lit 0, (.ofNat (nat_lit 3)))]), (nat_lit 6, nat_lit 0, [(nat_lit 1, (.ofNat (nat_lit 0))), (nat_lit 0, (.ofNat (nat_lit 0)))]), (nat_lit 4, nat_lit 1, [(nat_lit 3, (.ofNat (nat_lit 0))), (nat_lit 0, (.ofNat (nat_lit 1)))])],
  [(nat_lit 7, nat_lit 2, [(nat_lit 0, (.ofNat (nat_lit 1)))]), (nat_lit 6, nat_lit 0, [(nat_lit 1, (.ofNat (nat_lit 0))), (nat_lit 0, (.ofNat (nat_lit 0)))]), (nat_lit 4, nat_lit 1, [(nat_lit 3, (.ofNat (nat_lit 0))), (nat_lit 0, (.ofNat (nat_lit 1)))])],
  [(nat_lit 7, nat_lit 0, [(nat_lit 4, (.ofNat (nat_lit 0))), (nat_lit 0, (.ofNat (nat_lit 8)))]), (nat_lit 4, nat_lit 0, [(nat_lit 0, (.ofNat (nat_lit 0))), (nat_lit 0, (.ofNat (nat_lit 11)))]), (nat_lit 0, nat_lit 1, [(nat_lit 0, (.ofNat (nat_lit 4))), (nat_lit 0, (.ofNat (nat_lit 1)))]), (nat_lit 6, nat_lit 1, [(nat_lit 3, (.ofNat (nat_lit 0))), (nat_lit 0, (.ofNat (nat_lit 0)))]), (nat_lit 8, nat_lit 2, [(nat_lit 0, (.ofNat (nat_lit 0))), (nat_lit 0, (.ofNat (nat_lit 99)))]), (nat_lit 8, nat_lit 1, []), (nat_lit 5, nat_lit 1, [(nat_lit 3, (.ofNat (nat_lit 0))), (nat_lit 0, (.ofNat (nat_lit 1))), (nat_lit 0, (.ofNat (nat_lit 1)))]), (nat_lit 6, nat_lit 0, [(nat_lit 1, (.ofNat (nat_lit 0))), (nat_lit 0, (.ofNat (nat_lit 0)))]), (nat_lit 4, nat_lit 1, [(nat_lit 3, (.ofNat (nat_lit 0))), (nat_lit 0, (.ofNat (nat_lit 1)))])],
  [(nat_lit 7, nat_lit 0, [(nat_lit 0, (.ofNat (nat_lit 7))), (nat_lit 0, (.ofNat (nat_lit 8)))]), (nat_lit 4, nat_lit 0, [(nat_lit 0, (.ofNat (nat_lit 0))), (nat_lit 0, (.ofNat (nat_lit 11)))]), (nat_lit 6, nat_lit 1, [(nat_lit 6, (.ofNat (nat_lit 0))), (nat_lit 0, (.ofNat (nat_lit 0)))]), (nat_lit 8, nat_lit 2, [(nat_lit 0, (.ofNat (nat_lit 0))), (nat_lit 0, (.ofNat (nat_lit 9)))]), (nat_lit 6, nat_lit 0, [(nat_lit 0, (.ofNat (nat_lit 1))), (nat_lit 0, (.ofNat (nat_lit 1)))]), (nat_lit 5, nat_lit 0, [(nat_lit 4, (.ofNat (nat_lit 0))), (nat_lit 4, (.ofNat (nat_lit 0))), (nat_lit 5, (.ofNat (nat_lit 0)))]), (nat_lit 4, nat_lit 0, [(nat_lit 0, (.ofNat (nat_lit 0))), (nat_lit 0, (.ofNat (nat_lit 11)))]), (nat_lit 0, nat_lit 1, [(nat_lit 0, (.ofNat (nat_lit 4))), (nat_lit 0, (.ofNat (nat_lit 1)))]), (nat_lit 6, nat_lit 1, [(nat_lit 3, (.ofNat (nat_lit 0))), (nat_lit 0, (.ofNat (nat_lit 0)))]), (nat_lit 8, nat_lit 2, [(nat_lit 0, (.ofNat (nat_lit 0))), (nat_lit 0, (.ofNat (nat_lit 99)))]), (nat_lit 8, nat_lit 1, []), (nat_lit 5, nat_lit 1, [(nat_lit 3, (.ofNat (nat_lit 0))), (nat_lit 0, (.ofNat (nat_lit 1))), (nat_lit 0, (.ofNat (nat_lit 1)))]), (nat_lit 6, nat_lit 0, [(nat_lit 1, (.ofNat (nat_lit 0))), (nat_lit 0, (.ofNat (nat_lit 0)))]), (nat_lit 4, nat_lit 1, [(nat_lit 3, (.ofNat (nat_lit 0))), (nat_lit 0, (.ofNat (nat_lit 1)))])],
  [(nat_lit 7, nat_lit 2, [(nat_lit 0, (.ofNat (nat_lit 1)))]), (nat_lit 5, nat_lit 0, [(nat_lit 4, (.ofNat (nat_lit 0))), (nat_lit 0, (.ofNat (nat_lit 7))), (nat_lit 7, (.ofNat (nat_lit 0)))]), (nat_lit 4, nat_lit 0, [(nat_lit 0, (.ofNat (nat_lit 0))), (nat_lit 0, (.ofNat (nat_lit 11)))]), (nat_lit 6, nat_lit 1, [(nat_lit 6, (.ofNat (nat_lit 0))), (nat_lit 0, (.ofNat (nat_lit 0)))]), (nat_lit 8, nat_lit 2, [(nat_lit 0, (.ofNat (nat_lit 0))), (nat_lit 0, (.ofNat (nat_lit 9)))]), (nat_lit 6, nat_lit 0, [(nat_lit 0, (.ofNat (nat_lit 1))), (nat_lit 0, (.ofNat (nat_lit 1)))]), (nat_lit 5, nat_lit 0, [(nat_lit 4, (.ofNat (nat_lit 0))), (nat_lit 4, (.ofNat (nat_lit 0))), (nat_lit 5, (.ofNat (nat_lit 0)))]), (nat_lit 4, nat_lit 0, [(nat_lit 0, (.ofNat (nat_lit 0))), (nat_lit 0, (.ofNat (nat_lit 11)))]), (nat_lit 0, nat_lit 1, [(nat_lit 0, (.ofNat (nat_lit 4))), (nat_lit 0, (.ofNat (nat_lit 1)))]), (nat_lit 6, nat_lit 1, [(nat_lit 3, (.ofNat (nat_lit 0))), (nat_lit 0, (.ofNat (nat_lit 0)))]), (nat_lit 8, nat_lit 2, [(nat_lit 0, (.ofNat (nat_lit 0))), (nat_lit 0, (.ofNat (nat_lit 99)))]), (nat_lit 8, nat_lit 1, []), (nat_lit 5, nat_lit 1, [(nat_lit 3, (.ofNat (nat_lit 0))), (nat_lit 0, (.ofNat (nat_lit 1))), (nat_lit 0, (.ofNat (nat_lit 1)))]), (nat_lit 6, nat_lit 0, [(nat_lit 1, (.ofNat (nat_lit 0))), (nat_lit 0, (.ofNat (nat_lit 0)))]), (nat_lit 4, nat_lit 1, [(nat_lit 3, (.ofNat (nat_lit 0))), (nat_lit 0, (.ofNat (nat_lit 1)))])],
  [(nat_lit 7, nat_lit 2, [(nat_lit 0, (.ofNat (nat_lit 0)))]), (nat_lit 6, nat_lit 0, [(nat_lit 6, (.ofNat (nat_lit 0))), (nat_lit 0, (.ofNat (nat_lit 0)))]), (nat_lit 8, nat_lit 2, [(nat_lit 0, (.ofNat (nat_lit 0))), (nat_lit 0, (.ofNat (nat_lit 9)))]), (nat_lit 6, nat_lit 0, [(nat_lit 0, (.ofNat (nat_lit 1))), (nat_lit 0, (.ofNat (nat_lit 1)))]), (nat_lit 5, nat_lit 0, [(nat_lit 4, (.ofNat (nat_lit 0))), (nat_lit 4, (.ofNat (nat_lit 0))), (nat_lit 5, (.ofNat (nat_lit 0)))]), (nat_lit 4, nat_lit 0, [(nat_lit 0, (.ofNat (nat_lit 0))), (nat_lit 0, (.ofNat (nat_lit 11)))]), (nat_lit 0, nat_lit 1, [(nat_lit 0, (.ofNat (nat_lit 4))), (nat_lit 0, (.ofNat (nat_lit 1)))]), (nat_lit 6, nat_lit 1, [(nat_lit 3, (.ofNat (nat_lit 0))), (nat_lit 0, (.ofNat (nat_lit 0)))]), (nat_lit 8, nat_lit 2, [(nat_lit 0, (.ofNat (nat_lit 0))), (nat_lit 0, (.ofNat (nat_lit 99)))]), (nat_lit 8, nat_lit 1, []), (nat_lit 5, nat_lit 1, [(nat_lit 3, (.ofNat (nat_lit 0))), (nat_lit 0, (.ofNat (nat_lit 1))), (nat_lit 0, (.ofNat (nat_lit 1)))]), (nat_lit 6, nat_lit 0, [(nat_lit 1, (.ofNat (nat_lit 0))), (nat_lit 0, (.ofNat (nat_lit 0)))]), (nat_lit 4, nat_lit 1, [(nat_lit 3, (.ofNat (nat_lit 0))), (nat_lit 0, (.ofNat (nat_lit 1)))])],
  [(nat_lit 7, nat_lit 3, []), (nat_lit 6, nat_lit 1, [(nat_lit 0, (.ofNat (nat_lit 1))), (nat_lit 0, (.ofNat (nat_lit 1)))]), (nat_lit 5, nat_lit 0, [(nat_lit 4, (.ofNat (nat_lit 0))), (nat_lit 4, (.ofNat (nat_lit 0))), (nat_lit 5, (.ofNat (nat_lit 0)))]), (nat_lit 4, nat_lit 0, [(nat_lit 0, (.ofNat (nat_lit 0))), (nat_lit 0, (.ofNat (nat_lit 11)))]), (nat_lit 0, nat_lit 1, [(nat_lit 0, (.ofNat (nat_lit 4))), (nat_lit 0, (.ofNat (nat_lit 1)))]), (nat_lit 6, nat_lit 1, [(nat_lit 3, (.ofNat (nat_lit 0))), (nat_lit 0, (.ofNat (nat_lit 0)))]), (nat_lit 8, nat_lit 2, [(nat_lit 0, (.ofNat (nat_lit 0))), (nat_lit 0, (.ofNat (nat_lit 99)))]), (nat_lit 8, nat_lit 1, []), (nat_lit 5, nat_lit 1, [(nat_lit 3, (.ofNat (nat_lit 0))), (nat_lit 0, (.ofNat (nat_lit 1))), (nat_lit 0, (.ofNat (nat_lit 1)))]), (nat_lit 6, nat_lit 0, [(nat_lit 1, (.ofNat (nat_lit 0))), (nat_lit 0, (.ofNat (nat_lit 0)))]), (nat_lit 4, nat_lit 1, [(nat_lit 3, (.ofNat (nat_lit 0))), (nat_lit 0, (.ofNat (nat_lit 1)))])],
  [(nat_lit 7, nat_lit 2, [(nat_lit 0, (.ofNat (nat_lit 0)))]), (nat_lit 6, nat_lit 0, [(nat_lit 3, (.ofNat (nat_lit 0))), (nat_lit 0, (.ofNat (nat_lit 0)))]), (nat_lit 8, nat_lit 2, [(nat_lit 0, (.ofNat (nat_lit 0))), (nat_lit 0, (.ofNat (nat_lit 99)))]), (nat_lit 8, nat_lit 1, []), (nat_lit 5, nat_lit 1, [(nat_lit 3, (.ofNat (nat_lit 0))), (nat_lit 0, (.ofNat (nat_lit 1))), (nat_lit 0, (.ofNat (nat_lit 1)))]), (nat_lit 6, nat_lit 0, [(nat_lit 1, (.ofNat (nat_lit 0))), (nat_lit 0, (.ofNat (nat_lit 0)))]), (nat_lit 4, nat_lit 1, [(nat_lit 3, (.ofNat (nat_lit 0))), (nat_lit 0, (.ofNat (nat_lit 1)))])],
  [(nat_lit 7, nat_lit 2, [(nat_lit 2, (.ofNat (nat_lit 0)))]), (nat_lit 8, nat_lit 0, [(nat_lit 0, (.ofNat (nat_lit 3)))]), (nat_lit 6, nat_lit 1, [(nat_lit 1, (.ofNat (nat_lit 0))), (nat_lit 0, (.ofNat (nat_lit 0)))]), (nat_lit 4, nat_lit 1, [(nat_lit 3, (.ofNat (nat_lit 0))), (nat_lit 0, (.ofNat (nat_lit 1)))])]]
def zEne_onceLine1 : List (List zK) := [[(nat_lit 13, nat_lit 1, []), (nat_lit 5, nat_lit 1, [(nat_lit 3, (.ofNat (nat_lit 0))), (nat_lit 0, (.ofNat (nat_lit 1))), (nat_lit 0, (.ofNat (nat_lit 1)))]), (nat_lit 6, nat_lit 0, [(nat_lit 1, (.ofNat (nat_lit 0))), (nat_lit 0, (.ofNat (nat_lit 0)))]), (nat_lit 4, nat_lit 1, [(nat_lit 3, (.ofNat (nat_lit 0))), (nat_lit 0, (.ofNat (nat_lit 1)))])],
  [(nat_lit 13, nat_lit 2, [(nat_lit 0, (.ofNat (nat_lit 0))), (nat_lit 0, (.ofNat (nat_lit 99)))]), (nat_lit 8, nat_lit 1, []), (nat_lit 5, nat_lit 1, [(nat_lit 3, (.ofNat (nat_lit 0))), (nat_lit 0, (.ofNat (nat_lit 1))), (nat_lit 0, (.ofNat (nat_lit 1)))]), (nat_lit 6, nat_lit 0, [(nat_lit 1, (.ofNat (nat_lit 0))), (nat_lit 0, (.ofNat (nat_lit 0)))]), (nat_lit 4, nat_lit 1, [(nat_lit 3, (.ofNat (nat_lit 0))), (nat_lit 0, (.ofNat (nat_lit 1)))])],
  [(nat_lit 13, nat_lit 2, [(nat_lit 0, (.ofNat (nat_lit 0))), (nat_lit 0, (.ofNat (nat_lit 9)))]), (nat_lit 6, nat_lit 0, [(nat_lit 0, (.ofNat (nat_lit 1))), (nat_lit 0, (.ofNat (nat_lit 1)))]), (nat_lit 5, nat_lit 0, [(nat_lit 4, (.ofNat (nat_lit 0))), (nat_lit 4, (.ofNat (nat_lit 0))), (nat_lit 5, (.ofNat (nat_lit 0)))]), (nat_lit 4, nat_lit 0, [(nat_lit 0, (.ofNat (nat_lit 0))), (nat_lit 0, (.ofNat (nat_lit 11)))]), (nat_lit 0, nat_lit 1, [(nat_lit 0, (.ofNat (nat_lit 4))), (nat_lit 0, (.ofNat (nat_lit 1)))]), (nat_lit 6, nat_lit 1, [(nat_lit 3, (.ofNat (nat_lit 0))), (nat_lit 0, (.ofNat (nat_lit 0)))]), (nat_lit 8, nat_lit 2, [(nat_lit 0, (.ofNat (nat_lit 0))), (nat_lit 0, (.ofNat (nat_lit 99)))]), (nat_lit 8, nat_lit 1, []), (nat_lit 5, nat_lit 1, [(nat_lit 3, (.ofNat (nat_lit 0))), (nat_lit 0, (.ofNat (nat_lit 1))), (nat_lit 0, (.ofNat (nat_lit 1)))]), (nat_lit 6, nat_lit 0, [(nat_lit 1, (.ofNat (nat_lit 0))), (nat_lit 0, (.ofNat (nat_lit 0)))]), (nat_lit 4, nat_lit 1, [(nat_lit 3, (.ofNat (nat_lit 0))), (nat_lit 0, (.ofNat (nat_lit 1)))])],
  [(nat_lit 11, nat_lit 0, [(nat_lit 0, (.ofNat (nat_lit 1)))]), (nat_lit 5, nat_lit 0, [(nat_lit 4, (.ofNat (nat_lit 0))), (nat_lit 0, (.ofNat (nat_lit 7))), (nat_lit 7, (.ofNat (nat_lit 0)))]), (nat_lit 4, nat_lit 0, [(nat_lit 0, (.ofNat (nat_lit 0))), (nat_lit 0, (.ofNat (nat_lit 11)))]), (nat_lit 6, nat_lit 1, [(nat_lit 6, (.ofNat (nat_lit 0))), (nat_lit 0, (.ofNat (nat_lit 0)))]), (nat_lit 8, nat_lit 2, [(nat_lit 0, (.ofNat (nat_lit 0))), (nat_lit 0, (.ofNat (nat_lit 9)))]), (nat_lit 6, nat_lit 0, [(nat_lit 0, (.ofNat (nat_lit 1))), (nat_lit 0, (.ofNat (nat_lit 1)))]), (nat_lit 5, nat_lit 0, [(nat_lit 4, (.ofNat (nat_lit 0))), (nat_lit 4, (.ofNat (nat_lit 0))), (nat_lit 5, (.ofNat (nat_lit 0)))]), (nat_lit 4, nat_lit 0, [(nat_lit 0, (.ofNat (nat_lit 0))), (nat_lit 0, (.ofNat (nat_lit 11)))]), (nat_lit 0, nat_lit 1, [(nat_lit 0, (.ofNat (nat_lit 4))), (nat_lit 0, (.ofNat (nat_lit 1)))]), (nat_lit 6, nat_lit 1, [(nat_lit 3, (.ofNat (nat_lit 0))), (nat_lit 0, (.ofNat (nat_lit 0)))]), (nat_lit 8, nat_lit 2, [(nat_lit 0, (.ofNat (nat_lit 0))), (nat_lit 0, (.ofNat (nat_lit 99)))]), (nat_lit 8, nat_lit 1, []), (nat_lit 5, nat_lit 1, [(nat_lit 3, (.ofNat (nat_lit 0))), (nat_lit 0, (.ofNat (nat_lit 1))), (nat_lit 0, (.ofNat (nat_lit 1)))]), (nat_lit 6, nat_lit 0, [(nat_lit 1, (.ofNat (nat_lit 0))), (nat_lit 0, (.ofNat (nat_lit 0)))]), (nat_lit 4, nat_lit 1, [(nat_lit 3, (.ofNat (nat_lit 0))), (nat_lit 0, (.ofNat (nat_lit 1)))])],
  [(nat_lit 11, nat_lit 0, [(nat_lit 0, (.ofNat (nat_lit 0)))]), (nat_lit 6, nat_lit 0, [(nat_lit 6, (.ofNat (nat_lit 0))), (nat_lit 0, (.ofNat (nat_lit 0)))]), (nat_lit 8, nat_lit 2, [(nat_lit 0, (.ofNat (nat_lit 0))), (nat_lit 0, (.ofNat (nat_lit 9)))]), (nat_lit 6, nat_lit 0, [(nat_lit 0, (.ofNat (nat_lit 1))), (nat_lit 0, (.ofNat (nat_lit 1)))]), (nat_lit 5, nat_lit 0, [(nat_lit 4, (.ofNat (nat_lit 0))), (nat_lit 4, (.ofNat (nat_lit 0))), (nat_lit 5, (.ofNat (nat_lit 0)))]), (nat_lit 4, nat_lit 0, [(nat_lit 0, (.ofNat (nat_lit 0))), (nat_lit 0, (.ofNat (nat_lit 11)))]), (nat_lit 0, nat_lit 1, [(nat_lit 0, (.ofNat (nat_lit 4))), (nat_lit 0, (.ofNat (nat_lit 1)))]), (nat_lit 6, nat_lit 1, [(nat_lit 3, (.ofNat (nat_lit 0))), (nat_lit 0, (.ofNat (nat_lit 0)))]), (nat_lit 8, nat_lit 2, [(nat_lit 0, (.ofNat (nat_lit 0))), (nat_lit 0, (.ofNat (nat_lit 99)))]), (nat_lit 8, nat_lit 1, []), (nat_lit 5, nat_lit 1, [(nat_lit 3, (.ofNat (nat_lit 0))), (nat_lit 0, (.ofNat (nat_lit 1))), (nat_lit 0, (.ofNat (nat_lit 1)))]), (nat_lit 6, nat_lit 0, [(nat_lit 1, (.ofNat (nat_lit 0))), (nat_lit 0, (.ofNat (nat_lit 0)))]), (nat_lit 4, nat_lit 1, [(nat_lit 3, (.ofNat (nat_lit 0))), (nat_lit 0, (.ofNat (nat_lit 1)))])],
  [(nat_lit 11, nat_lit 0, [(nat_lit 0, (.ofNat (nat_lit 0)))]), (nat_lit 6, nat_lit 0, [(nat_lit 3, (.ofNat (nat_lit 0))), (nat_lit 0, (.ofNat (nat_lit 0)))]), (nat_lit 8, nat_lit 2, [(nat_lit 0, (.ofNat (nat_lit 0))), (nat_lit 0, (.ofNat (nat_lit 99)))]), (nat_lit 8, nat_lit 1, []), (nat_lit 5, nat_lit 1, [(nat_lit 3, (.ofNat (nat_lit 0))), (nat_lit 0, (.ofNat (nat_lit 1))), (nat_lit 0, (.ofNat (nat_lit 1)))]), (nat_lit 6, nat_lit 0, [(nat_lit 1, (.ofNat (nat_lit 0))), (nat_lit 0, (.ofNat (nat_lit 0)))]), (nat_lit 4, nat_lit 1, [(nat_lit 3, (.ofNat (nat_lit 0))), (nat_lit 0, (.ofNat (nat_lit 1)))])],
  [(nat_lit 13, nat_lit 0, [(nat_lit 0, (.ofNat (nat_lit 3)))]), (nat_lit 6, nat_lit 1, [(nat_lit 1, (.ofNat (nat_lit 0))), (nat_lit 0, (.ofNat (nat_lit 0)))]), (nat_lit 4, nat_lit 1, [(nat_lit 3, (.ofNat (nat_lit 0))), (nat_lit 0, (.ofNat (nat_lit 1)))])],
  [(nat_lit 11, nat_lit 0, [(nat_lit 2, (.ofNat (nat_lit 0)))]), (nat_lit 8, nat_lit 0, [(nat_lit 0, (.ofNat (nat_lit 3)))]), (nat_lit 6, nat_lit 1, [(nat_lit 1, (.ofNat (nat_lit 0))), (nat_lit 0, (.ofNat (nat_lit 0)))]), (nat_lit 4, nat_lit 1, [(nat_lit 3, (.ofNat (nat_lit 0))), (nat_lit 0, (.ofNat (nat_lit 1)))])]]
def zFne_onceLine1 : List (List zK) := []
set_option maxHeartbeats 8000000 in
theorem zne_onceLine1_o0 {ro : Nat → List Int32} (η : zE) (hp : sP wl_ne zTr zPne_onceLine1 [] η) (hpp : pPne_onceLine1 [] η) : ∀ x1 : Int, x1 = η 3 (Int.toNat 1) → zok 1 x1 → (x1 = 0) → ∀ η1 : zE, η1 = zup η 3 (Int.toNat 1) 1 → ((gC2 wl_ne [(nat_lit 0, zPne_wrong, zOne_wrong, zMne_wrong), (nat_lit 1, zPne_token, zOne_token, zMne_token), (nat_lit 2, zPne_number, zOne_number, zMne_number)] pCne_onceLine1 qCne_onceLine1) 1).1 [] η1 := by
  have hk : ¬ η 0 8 = 0 := hpp.2
  intro x1 e1 r1 c1 η1 eη1
  replace e1 : x1 = η 3 1 := e1
  replace r1 : 0 ≤ x1 ∧ x1 ≤ 1 := r1
  have w0_0_7 : (0 : Int) ≤ η 0 7 ∧ η 0 7 ≤ 700 := wf_ok (a := 7) (b := 7) (z := (0, 700)) hp.1 (by decide +kernel) (Nat.le_refl _) (Nat.le_refl _)
  have v2 : zEq (η1 0 7) (η 0 7) := by rw [eη1]; exact (zup_ne (fun e _ => absurd e (by decide))).trans rfl
  have f0_7 : η1 0 7 = η 0 7 := v2
  have w0_0_6 : (0 : Int) ≤ η 0 6 ∧ η 0 6 ≤ 700 := wf_ok (a := 6) (b := 6) (z := (0, 700)) hp.1 (by decide +kernel) (Nat.le_refl _) (Nat.le_refl _)
  have v4 : zEq (η1 0 6) (η 0 6) := by rw [eη1]; exact (zup_ne (fun e _ => absurd e (by decide))).trans rfl
  have f0_6 : η1 0 6 = η 0 6 := v4
  have w0_0_8 : (0 : Int) ≤ η 0 8 ∧ η 0 8 ≤ 6 := wf_ok (a := 8) (b := 8) (z := (0, 6)) hp.1 (by decide +kernel) (Nat.le_refl _) (Nat.le_refl _)
  have v6 : zEq (η1 0 8) (η 0 8) := by rw [eη1]; exact (zup_ne (fun e _ => absurd e (by decide))).trans rfl
  have f0_8 : η1 0 8 = η 0 8 := v6
  have g1 : G_n η1 := by rw [eη1]; exact zGk_up gk_n hpp.1 (by decide +kernel)
  exact g1
set_option maxHeartbeats 8000000 in
theorem zne_onceLine1_o1 {ro : Nat → List Int32} (η : zE) (hp : sP wl_ne zTr zPne_onceLine1 [] η) (hpp : pPne_onceLine1 [] η) : ∀ x1 : Int, x1 = η 3 (Int.toNat 1) → zok 1 x1 → (x1 = 0) → ∀ η1 : zE, η1 = zup η 3 (Int.toNat 1) 1 → ∀ (x2 : Int) (η2 : zE), ((gC2 wl_ne [(nat_lit 0, zPne_wrong, zOne_wrong, zMne_wrong), (nat_lit 1, zPne_token, zOne_token, zMne_token), (nat_lit 2, zPne_number, zOne_number, zMne_number)] pCne_onceLine1 qCne_onceLine1) 1).2 [] η1 x2 η2 → ((gC2 wl_ne [(nat_lit 0, zPne_wrong, zOne_wrong, zMne_wrong), (nat_lit 1, zPne_token, zOne_token, zMne_token), (nat_lit 2, zPne_number, zOne_number, zMne_number)] pCne_onceLine1 qCne_onceLine1) 2).1 [0, 99] η2 := by
  have hk : ¬ η 0 8 = 0 := hpp.2
  intro x1 e1 r1 c1 η1 eη1 x2 η2 h2
  have y2 : fQne_token [] η1 x2 η2 := h2.2.2
  have k2 : sQ wl_ne zTr zOne_token zMne_token [] η1 x2 η2 ∧ oQne_token [] η1 x2 η2 := ⟨h2.1, h2.2.1⟩
  replace e1 : x1 = η 3 1 := e1
  replace r1 : 0 ≤ x1 ∧ x1 ≤ 1 := r1
  have w0_0_7 : (0 : Int) ≤ η 0 7 ∧ η 0 7 ≤ 700 := wf_ok (a := 7) (b := 7) (z := (0, 700)) hp.1 (by decide +kernel) (Nat.le_refl _) (Nat.le_refl _)
  have v2 : zEq (η1 0 7) (η 0 7) := by rw [eη1]; exact (zup_ne (fun e _ => absurd e (by decide))).trans rfl
  have c1_0_7 : η1 0 7 = η 0 7 := v2
  have w0_0_6 : (0 : Int) ≤ η 0 6 ∧ η 0 6 ≤ 700 := wf_ok (a := 6) (b := 6) (z := (0, 700)) hp.1 (by decide +kernel) (Nat.le_refl _) (Nat.le_refl _)
  have v4 : zEq (η1 0 6) (η 0 6) := by rw [eη1]; exact (zup_ne (fun e _ => absurd e (by decide))).trans rfl
  have c1_0_6 : η1 0 6 = η 0 6 := v4
  have w0_0_8 : (0 : Int) ≤ η 0 8 ∧ η 0 8 ≤ 6 := wf_ok (a := 8) (b := 8) (z := (0, 6)) hp.1 (by decide +kernel) (Nat.le_refl _) (Nat.le_refl _)
  have v6 : zEq (η1 0 8) (η 0 8) := by rw [eη1]; exact (zup_ne (fun e _ => absurd e (by decide))).trans rfl
  have c1_0_8 : η1 0 8 = η 0 8 := v6
  have bx2 : (0 : Int) ≤ x2 ∧ x2 ≤ 0 := k2.1.2.1
  have w2_0_7 : (0 : Int) ≤ η2 0 7 ∧ η2 0 7 ≤ 700 := wf_ok (a := 7) (b := 7) (z := (0, 700)) k2.1.1 (by decide +kernel) (Nat.le_refl _) (Nat.le_refl _)
  have d2_0_7 : η2 0 7 = η2 0 7 := rfl
  have v8 : zEq (η2 0 6) (η 0 6) := (k2.1.2.2.2.1 0 6 (by decide +kernel)).trans v4
  have d2_0_6 : η2 0 6 = η 0 6 := v8
  have w2_0_8 : (0 : Int) ≤ η2 0 8 ∧ η2 0 8 ≤ 6 := wf_ok (a := 8) (b := 8) (z := (0, 6)) k2.1.1 (by decide +kernel) (Nat.le_refl _) (Nat.le_refl _)
  have d2_0_8 : η2 0 8 = η2 0 8 := rfl
  have f0_7 : η2 0 7 = η2 0 7 := rfl
  have f0_6 : η2 0 6 = η 0 6 := v8
  have f0_8 : η2 0 8 = η2 0 8 := rfl
  have g1 : G_n η1 := by rw [eη1]; exact zGk_up gk_n hpp.1 (by decide +kernel)
  have qt2 : ¬ η1 0 8 = 0 → 10 * (η2 0 6 - η2 0 7) + η2 0 8 < 10 * (η1 0 6 - η1 0 7) + η1 0 8 := k2.2.2
  exact k2.2.1
set_option maxHeartbeats 8000000 in
theorem zne_onceLine1_o2 {ro : Nat → List Int32} (η : zE) (hp : sP wl_ne zTr zPne_onceLine1 [] η) (hpp : pPne_onceLine1 [] η) : ∀ x1 : Int, x1 = η 3 (Int.toNat 1) → zok 1 x1 → (x1 = 0) → ∀ η1 : zE, η1 = zup η 3 (Int.toNat 1) 1 → ∀ (x2 : Int) (η2 : zE), ((gC2 wl_ne [(nat_lit 0, zPne_wrong, zOne_wrong, zMne_wrong), (nat_lit 1, zPne_token, zOne_token, zMne_token), (nat_lit 2, zPne_number, zOne_number, zMne_number)] pCne_onceLine1 qCne_onceLine1) 1).2 [] η1 x2 η2 → ∀ (x3 : Int) (η3 : zE), ((gC2 wl_ne [(nat_lit 0, zPne_wrong, zOne_wrong, zMne_wrong), (nat_lit 1, zPne_token, zOne_token, zMne_token), (nat_lit 2, zPne_number, zOne_number, zMne_number)] pCne_onceLine1 qCne_onceLine1) 2).2 [0, 99] η2 x3 η3 → (¬ x3 = 0) → ∀ x4 : Int, x4 = zd 0 1 4 1 → ∀ x5 : Int, x5 = η3 0 (Int.toNat 11) → zok 0 x5 → ∀ η4 : zE, η4 = zup η3 4 (Int.toNat x4) x5 → ((1 : Int) = (1 : Int)) → ((gC2 wl_ne [(nat_lit 0, zPne_wrong, zOne_wrong, zMne_wrong), (nat_lit 1, zPne_token, zOne_token, zMne_token), (nat_lit 2, zPne_number, zOne_number, zMne_number)] pCne_onceLine1 qCne_onceLine1) 2).1 [0, 9] η4 := by
  have hk : ¬ η 0 8 = 0 := hpp.2
  intro x1 e1 r1 c1 η1 eη1 x2 η2 h2 x3 η3 h3 c2 x4 e4 x5 e5 r5 η4 eη4 c3
  replace e4 := zEq_i e4
  have y2 : fQne_token [] η1 x2 η2 := h2.2.2
  have k2 : sQ wl_ne zTr zOne_token zMne_token [] η1 x2 η2 ∧ oQne_token [] η1 x2 η2 := ⟨h2.1, h2.2.1⟩
  have y3 : fQne_number [0, 99] η2 x3 η3 := h3.2.2
  have k3 : sQ wl_ne zTr zOne_number zMne_number [0, 99] η2 x3 η3 ∧ oQne_number [0, 99] η2 x3 η3 := ⟨h3.1, h3.2.1⟩
  replace e1 : x1 = η 3 1 := e1
  replace r1 : 0 ≤ x1 ∧ x1 ≤ 1 := r1
  have w0_0_7 : (0 : Int) ≤ η 0 7 ∧ η 0 7 ≤ 700 := wf_ok (a := 7) (b := 7) (z := (0, 700)) hp.1 (by decide +kernel) (Nat.le_refl _) (Nat.le_refl _)
  have v2 : zEq (η1 0 7) (η 0 7) := by rw [eη1]; exact (zup_ne (fun e _ => absurd e (by decide))).trans rfl
  have c1_0_7 : η1 0 7 = η 0 7 := v2
  have w0_0_6 : (0 : Int) ≤ η 0 6 ∧ η 0 6 ≤ 700 := wf_ok (a := 6) (b := 6) (z := (0, 700)) hp.1 (by decide +kernel) (Nat.le_refl _) (Nat.le_refl _)
  have v4 : zEq (η1 0 6) (η 0 6) := by rw [eη1]; exact (zup_ne (fun e _ => absurd e (by decide))).trans rfl
  have c1_0_6 : η1 0 6 = η 0 6 := v4
  have w0_0_8 : (0 : Int) ≤ η 0 8 ∧ η 0 8 ≤ 6 := wf_ok (a := 8) (b := 8) (z := (0, 6)) hp.1 (by decide +kernel) (Nat.le_refl _) (Nat.le_refl _)
  have v6 : zEq (η1 0 8) (η 0 8) := by rw [eη1]; exact (zup_ne (fun e _ => absurd e (by decide))).trans rfl
  have c1_0_8 : η1 0 8 = η 0 8 := v6
  have bx2 : (0 : Int) ≤ x2 ∧ x2 ≤ 0 := k2.1.2.1
  have w2_0_7 : (0 : Int) ≤ η2 0 7 ∧ η2 0 7 ≤ 700 := wf_ok (a := 7) (b := 7) (z := (0, 700)) k2.1.1 (by decide +kernel) (Nat.le_refl _) (Nat.le_refl _)
  have d2_0_7 : η2 0 7 = η2 0 7 := rfl
  have v8 : zEq (η2 0 6) (η 0 6) := (k2.1.2.2.2.1 0 6 (by decide +kernel)).trans v4
  have d2_0_6 : η2 0 6 = η 0 6 := v8
  have w2_0_8 : (0 : Int) ≤ η2 0 8 ∧ η2 0 8 ≤ 6 := wf_ok (a := 8) (b := 8) (z := (0, 6)) k2.1.1 (by decide +kernel) (Nat.le_refl _) (Nat.le_refl _)
  have d2_0_8 : η2 0 8 = η2 0 8 := rfl
  have c2_0_7 : η2 0 7 = η2 0 7 := rfl
  have c2_0_6 : η2 0 6 = η 0 6 := v8
  have c2_0_8 : η2 0 8 = η2 0 8 := rfl
  have bx3 : (0 : Int) ≤ x3 ∧ x3 ≤ 1 := k3.1.2.1
  have w3_0_7 : (0 : Int) ≤ η3 0 7 ∧ η3 0 7 ≤ 700 := wf_ok (a := 7) (b := 7) (z := (0, 700)) k3.1.1 (by decide +kernel) (Nat.le_refl _) (Nat.le_refl _)
  have d3_0_7 : η3 0 7 = η3 0 7 := rfl
  have v11 : zEq (η3 0 6) (η 0 6) := (k3.1.2.2.2.1 0 6 (by decide +kernel)).trans v8
  have d3_0_6 : η3 0 6 = η 0 6 := v11
  have w3_0_8 : (0 : Int) ≤ η3 0 8 ∧ η3 0 8 ≤ 6 := wf_ok (a := 8) (b := 8) (z := (0, 6)) k3.1.1 (by decide +kernel) (Nat.le_refl _) (Nat.le_refl _)
  have d3_0_8 : η3 0 8 = η3 0 8 := rfl
  first
  | replace e4 : x4 = 4 + 1 := zd_a2 (zEq_o e4) (by clear e4; exact ⟨by omega, by omega⟩)
  | clear e4
  replace e5 : x5 = η3 0 11 := e5
  replace r5 : -2147483648 ≤ x5 ∧ x5 ≤ 2147483647 := r5
  have v14 : zEq (η4 0 7) (η3 0 7) := by rw [eη4]; exact (zup_ne (fun e _ => absurd e (by decide))).trans rfl
  have f0_7 : η4 0 7 = η3 0 7 := v14
  have v15 : zEq (η4 0 6) (η 0 6) := by rw [eη4]; exact (zup_ne (fun e _ => absurd e (by decide))).trans v11
  have f0_6 : η4 0 6 = η 0 6 := v15
  have v16 : zEq (η4 0 8) (η3 0 8) := by rw [eη4]; exact (zup_ne (fun e _ => absurd e (by decide))).trans rfl
  have f0_8 : η4 0 8 = η3 0 8 := v16
  have g1 : G_n η1 := by rw [eη1]; exact zGk_up gk_n hpp.1 (by decide +kernel)
  have qt2 : ¬ η1 0 8 = 0 → 10 * (η2 0 6 - η2 0 7) + η2 0 8 < 10 * (η1 0 6 - η1 0 7) + η1 0 8 := k2.2.2
  have qn3 : ¬ x3 = 0 → 10 * (η3 0 6 - η3 0 7) + η3 0 8 < 10 * (η2 0 6 - η2 0 7) + η2 0 8 := k3.2.2
  have g4 : G_n η4 := by rw [eη4]; exact zGk_up gk_n k3.2.1 (by decide +kernel)
  exact g4
set_option maxHeartbeats 8000000 in
theorem zne_onceLine1_o3 {ro : Nat → List Int32} (η : zE) (hp : sP wl_ne zTr zPne_onceLine1 [] η) (hpp : pPne_onceLine1 [] η) : ∀ x1 : Int, x1 = η 3 (Int.toNat 1) → zok 1 x1 → (x1 = 0) → ∀ η1 : zE, η1 = zup η 3 (Int.toNat 1) 1 → ∀ (x2 : Int) (η2 : zE), ((gC2 wl_ne [(nat_lit 0, zPne_wrong, zOne_wrong, zMne_wrong), (nat_lit 1, zPne_token, zOne_token, zMne_token), (nat_lit 2, zPne_number, zOne_number, zMne_number)] pCne_onceLine1 qCne_onceLine1) 1).2 [] η1 x2 η2 → ∀ (x3 : Int) (η3 : zE), ((gC2 wl_ne [(nat_lit 0, zPne_wrong, zOne_wrong, zMne_wrong), (nat_lit 1, zPne_token, zOne_token, zMne_token), (nat_lit 2, zPne_number, zOne_number, zMne_number)] pCne_onceLine1 qCne_onceLine1) 2).2 [0, 99] η2 x3 η3 → (¬ x3 = 0) → ∀ x4 : Int, x4 = zd 0 1 4 1 → ∀ x5 : Int, x5 = η3 0 (Int.toNat 11) → zok 0 x5 → ∀ η4 : zE, η4 = zup η3 4 (Int.toNat x4) x5 → ((1 : Int) = (1 : Int)) → ∀ (x6 : Int) (η5 : zE), ((gC2 wl_ne [(nat_lit 0, zPne_wrong, zOne_wrong, zMne_wrong), (nat_lit 1, zPne_token, zOne_token, zMne_token), (nat_lit 2, zPne_number, zOne_number, zMne_number)] pCne_onceLine1 qCne_onceLine1) 2).2 [0, 9] η4 x6 η5 → (¬ x6 = 0) → ∀ x7 : Int, x7 = η5 0 (Int.toNat 11) → zok 0 x7 → ∀ η6 : zE, η6 = zup η5 4 (Int.toNat 7) x7 → (fun (_ : Nat) (y : Int) (η' : zE) => pQne_onceLine1 [] η y η') 0 1 η6 := by
  intro x1 e1 r1 c1 η1 eη1 x2 η2 h2 x3 η3 h3 c2 x4 e4 x5 e5 r5 η4 eη4 c3 x6 η5 h6 c4 x7 e7 r7 η6 eη6
  have y2 : fQne_token [] η1 x2 η2 := h2.2.2
  have k2 : sQ wl_ne zTr zOne_token zMne_token [] η1 x2 η2 ∧ oQne_token [] η1 x2 η2 := ⟨h2.1, h2.2.1⟩
  have y3 : fQne_number [0, 99] η2 x3 η3 := h3.2.2
  have k3 : sQ wl_ne zTr zOne_number zMne_number [0, 99] η2 x3 η3 ∧ oQne_number [0, 99] η2 x3 η3 := ⟨h3.1, h3.2.1⟩
  have y6 : fQne_number [0, 9] η4 x6 η5 := h6.2.2
  have k6 : sQ wl_ne zTr zOne_number zMne_number [0, 9] η4 x6 η5 ∧ oQne_number [0, 9] η4 x6 η5 := ⟨h6.1, h6.2.1⟩
  refine yj_a ?_ ?_
  · have hk : ¬ η 0 8 = 0 := hpp.2
    replace e4 := zEq_i e4
    have y2 : fQne_token [] η1 x2 η2 := h2.2.2
    have k2 : sQ wl_ne zTr zOne_token zMne_token [] η1 x2 η2 ∧ oQne_token [] η1 x2 η2 := ⟨h2.1, h2.2.1⟩
    have y3 : fQne_number [0, 99] η2 x3 η3 := h3.2.2
    have k3 : sQ wl_ne zTr zOne_number zMne_number [0, 99] η2 x3 η3 ∧ oQne_number [0, 99] η2 x3 η3 := ⟨h3.1, h3.2.1⟩
    have y6 : fQne_number [0, 9] η4 x6 η5 := h6.2.2
    have k6 : sQ wl_ne zTr zOne_number zMne_number [0, 9] η4 x6 η5 ∧ oQne_number [0, 9] η4 x6 η5 := ⟨h6.1, h6.2.1⟩
    replace e1 : x1 = η 3 1 := e1
    replace r1 : 0 ≤ x1 ∧ x1 ≤ 1 := r1
    have w0_0_7 : (0 : Int) ≤ η 0 7 ∧ η 0 7 ≤ 700 := wf_ok (a := 7) (b := 7) (z := (0, 700)) hp.1 (by decide +kernel) (Nat.le_refl _) (Nat.le_refl _)
    have v2 : zEq (η1 0 7) (η 0 7) := by rw [eη1]; exact (zup_ne (fun e _ => absurd e (by decide))).trans rfl
    have c1_0_7 : η1 0 7 = η 0 7 := v2
    have w0_0_6 : (0 : Int) ≤ η 0 6 ∧ η 0 6 ≤ 700 := wf_ok (a := 6) (b := 6) (z := (0, 700)) hp.1 (by decide +kernel) (Nat.le_refl _) (Nat.le_refl _)
    have v4 : zEq (η1 0 6) (η 0 6) := by rw [eη1]; exact (zup_ne (fun e _ => absurd e (by decide))).trans rfl
    have c1_0_6 : η1 0 6 = η 0 6 := v4
    have w0_0_8 : (0 : Int) ≤ η 0 8 ∧ η 0 8 ≤ 6 := wf_ok (a := 8) (b := 8) (z := (0, 6)) hp.1 (by decide +kernel) (Nat.le_refl _) (Nat.le_refl _)
    have v6 : zEq (η1 0 8) (η 0 8) := by rw [eη1]; exact (zup_ne (fun e _ => absurd e (by decide))).trans rfl
    have c1_0_8 : η1 0 8 = η 0 8 := v6
    have bx2 : (0 : Int) ≤ x2 ∧ x2 ≤ 0 := k2.1.2.1
    have w2_0_7 : (0 : Int) ≤ η2 0 7 ∧ η2 0 7 ≤ 700 := wf_ok (a := 7) (b := 7) (z := (0, 700)) k2.1.1 (by decide +kernel) (Nat.le_refl _) (Nat.le_refl _)
    have d2_0_7 : η2 0 7 = η2 0 7 := rfl
    have v8 : zEq (η2 0 6) (η 0 6) := (k2.1.2.2.2.1 0 6 (by decide +kernel)).trans v4
    have d2_0_6 : η2 0 6 = η 0 6 := v8
    have w2_0_8 : (0 : Int) ≤ η2 0 8 ∧ η2 0 8 ≤ 6 := wf_ok (a := 8) (b := 8) (z := (0, 6)) k2.1.1 (by decide +kernel) (Nat.le_refl _) (Nat.le_refl _)
    have d2_0_8 : η2 0 8 = η2 0 8 := rfl
    have c2_0_7 : η2 0 7 = η2 0 7 := rfl
    have c2_0_6 : η2 0 6 = η 0 6 := v8
    have c2_0_8 : η2 0 8 = η2 0 8 := rfl
    have bx3 : (0 : Int) ≤ x3 ∧ x3 ≤ 1 := k3.1.2.1
    have w3_0_7 : (0 : Int) ≤ η3 0 7 ∧ η3 0 7 ≤ 700 := wf_ok (a := 7) (b := 7) (z := (0, 700)) k3.1.1 (by decide +kernel) (Nat.le_refl _) (Nat.le_refl _)
    have d3_0_7 : η3 0 7 = η3 0 7 := rfl
    have v11 : zEq (η3 0 6) (η 0 6) := (k3.1.2.2.2.1 0 6 (by decide +kernel)).trans v8
    have d3_0_6 : η3 0 6 = η 0 6 := v11
    have w3_0_8 : (0 : Int) ≤ η3 0 8 ∧ η3 0 8 ≤ 6 := wf_ok (a := 8) (b := 8) (z := (0, 6)) k3.1.1 (by decide +kernel) (Nat.le_refl _) (Nat.le_refl _)
    have d3_0_8 : η3 0 8 = η3 0 8 := rfl
    first
    | replace e4 : x4 = 4 + 1 := zd_a2 (zEq_o e4) (by clear e4; exact ⟨by omega, by omega⟩)
    | clear e4
    replace e5 : x5 = η3 0 11 := e5
    replace r5 : -2147483648 ≤ x5 ∧ x5 ≤ 2147483647 := r5
    have v14 : zEq (η4 0 7) (η3 0 7) := by rw [eη4]; exact (zup_ne (fun e _ => absurd e (by decide))).trans rfl
    have c4_0_7 : η4 0 7 = η3 0 7 := v14
    have v15 : zEq (η4 0 6) (η 0 6) := by rw [eη4]; exact (zup_ne (fun e _ => absurd e (by decide))).trans v11
    have c4_0_6 : η4 0 6 = η 0 6 := v15
    have v16 : zEq (η4 0 8) (η3 0 8) := by rw [eη4]; exact (zup_ne (fun e _ => absurd e (by decide))).trans rfl
    have c4_0_8 : η4 0 8 = η3 0 8 := v16
    have bx6 : (0 : Int) ≤ x6 ∧ x6 ≤ 1 := k6.1.2.1
    have w5_0_7 : (0 : Int) ≤ η5 0 7 ∧ η5 0 7 ≤ 700 := wf_ok (a := 7) (b := 7) (z := (0, 700)) k6.1.1 (by decide +kernel) (Nat.le_refl _) (Nat.le_refl _)
    have d5_0_7 : η5 0 7 = η5 0 7 := rfl
    have v18 : zEq (η5 0 6) (η 0 6) := (k6.1.2.2.2.1 0 6 (by decide +kernel)).trans v15
    have d5_0_6 : η5 0 6 = η 0 6 := v18
    have w5_0_8 : (0 : Int) ≤ η5 0 8 ∧ η5 0 8 ≤ 6 := wf_ok (a := 8) (b := 8) (z := (0, 6)) k6.1.1 (by decide +kernel) (Nat.le_refl _) (Nat.le_refl _)
    have d5_0_8 : η5 0 8 = η5 0 8 := rfl
    replace e7 : x7 = η5 0 11 := e7
    replace r7 : -2147483648 ≤ x7 ∧ x7 ≤ 2147483647 := r7
    have v21 : zEq (η6 0 7) (η5 0 7) := by rw [eη6]; exact (zup_ne (fun e _ => absurd e (by decide))).trans rfl
    have f0_7 : η6 0 7 = η5 0 7 := v21
    have v22 : zEq (η6 0 6) (η 0 6) := by rw [eη6]; exact (zup_ne (fun e _ => absurd e (by decide))).trans v18
    have f0_6 : η6 0 6 = η 0 6 := v22
    have v23 : zEq (η6 0 8) (η5 0 8) := by rw [eη6]; exact (zup_ne (fun e _ => absurd e (by decide))).trans rfl
    have f0_8 : η6 0 8 = η5 0 8 := v23
    have g1 : G_n η1 := by rw [eη1]; exact zGk_up gk_n hpp.1 (by decide +kernel)
    have qt2 : ¬ η1 0 8 = 0 → 10 * (η2 0 6 - η2 0 7) + η2 0 8 < 10 * (η1 0 6 - η1 0 7) + η1 0 8 := k2.2.2
    have qn3 : ¬ x3 = 0 → 10 * (η3 0 6 - η3 0 7) + η3 0 8 < 10 * (η2 0 6 - η2 0 7) + η2 0 8 := k3.2.2
    have g4 : G_n η4 := by rw [eη4]; exact zGk_up gk_n k3.2.1 (by decide +kernel)
    have qn6 : ¬ x6 = 0 → 10 * (η5 0 6 - η5 0 7) + η5 0 8 < 10 * (η4 0 6 - η4 0 7) + η4 0 8 := k6.2.2
    have g6 : G_n η6 := by rw [eη6]; exact zGk_up gk_n k6.2.1 (by decide +kernel)
    exact ⟨g6, fun _ => show 10 * (η6 0 6 - η6 0 7) + η6 0 8 < 10 * (η 0 6 - η 0 7) + η 0 8 by omega⟩
  · have e1 : x1 = η 3 1 := e1
    have eη1 : η1 = zup η 3 1 1 := eη1
    have b2 : η2 = (yq_tok η1) := y2
    obtain ⟨a3, b3⟩ : x3 = (yq_ny 0 99 η2) ∧ η3 = (yq_ns 0 99 η2) := y3
    have e4 : x4 = zd 0 1 4 1 := e4
    have z4 : Int.toNat x4 = 5 := by rw [e4]; rfl
    have e5 : x5 = η3 0 11 := e5
    have eη4 : η4 = zup η3 4 5 x5 := eη4.trans (by rw [z4])
    obtain ⟨a6, b6⟩ : x6 = (yq_ny 0 9 η4) ∧ η5 = (yq_ns 0 9 η4) := y6
    have e7 : x7 = η5 0 11 := e7
    have eη6 : η6 = zup η5 4 7 x7 := eη6
    show 1 = (yq_onl 1 5 1 99 η).1 ∧ η6 = (yq_onl 1 5 1 99 η).2
    simp only [yq_onl, yq_nt, yq_no, if_true, if_false, ← e1, ← eη1, ← b2, ← a3, ← b3, ← e5, ← eη4, ← a6, ← b6, ← e7, ← eη6]
    all_goals ((repeat' split) <;> first | (exfalso; omega) | exact ⟨rfl, rfl⟩ | rfl)
