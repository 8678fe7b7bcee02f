set_option maxHeartbeats 8000000 in
theorem zn_scratLine_o13 {ro : Nat → List Int32} (η : zE) (hp : sP wl_n zTr zPn_scratLine [] η) (hpp : pPn_scratLine [] η) : ∀ x1 : Int, x1 = η 0 (Int.toNat 17) → zok 0 x1 → (¬ x1 = 4) → ∀ (x2 : Int) (η1 : zE), ((gC2 wl_n [(nat_lit 0, zPn_wrong, zOn_wrong, zMn_wrong), (nat_lit 1, zPn_token, zOn_token, zMn_token), (nat_lit 2, zPn_number, zOn_number, zMn_number), (nat_lit 3, zPn_find_s, zOn_find_s, zMn_find_s)] pCn_scratLine qCn_scratLine) 1).2 [] η x2 η1 → ∀ x3 : Int, x3 = η1 0 (Int.toNat 17) → zok 0 x3 → ∀ x4 : Int, x4 = zd 0 1 4 x3 → ∀ x5 : Int, x5 = η1 0 (Int.toNat 10) → zok 0 x5 → ∀ (x6 : Int) (η2 : zE), ((gC2 wl_n [(nat_lit 0, zPn_wrong, zOn_wrong, zMn_wrong), (nat_lit 1, zPn_token, zOn_token, zMn_token), (nat_lit 2, zPn_number, zOn_number, zMn_number), (nat_lit 3, zPn_find_s, zOn_find_s, zMn_find_s)] pCn_scratLine qCn_scratLine) 2).2 [0, 11] η1 x6 η2 → (¬ x6 = 0) → ∀ x7 : Int, x7 = η2 0 (Int.toNat 17) → zok 0 x7 → ∀ x8 : Int, x8 = η2 0 (Int.toNat 11) → zok 0 x8 → ∀ (x9 : Int) (η3 : zE), ((gC2 wl_n [(nat_lit 0, zPn_wrong, zOn_wrong, zMn_wrong), (nat_lit 1, zPn_token, zOn_token, zMn_token), (nat_lit 2, zPn_number, zOn_number, zMn_number), (nat_lit 3, zPn_find_s, zOn_find_s, zMn_find_s)] pCn_scratLine qCn_scratLine) 3).2 [x7, x8] η2 x9 η3 → (0 ≤ x9) → ∀ η4 : zE, η4 = zup η3 0 (Int.toNat 10) x5 → ∀ (x10 : Int) (η5 : zE), ((gC2 wl_n [(nat_lit 0, zPn_wrong, zOn_wrong, zMn_wrong), (nat_lit 1, zPn_token, zOn_token, zMn_token), (nat_lit 2, zPn_number, zOn_number, zMn_number), (nat_lit 3, zPn_find_s, zOn_find_s, zMn_find_s)] pCn_scratLine qCn_scratLine) 0).2 [3] η4 x10 η5 → (fun (_ : Nat) (y : Int) (η' : zE) => pQn_scratLine [] η y η') 0 x10 η5 := by
  have hk : ¬ η 0 8 = 0 := hpp.2
  intro x1 e1 r1 c1 x2 η1 h2 x3 e3 r3 x4 e4 x5 e5 r5 x6 η2 h6 c2 x7 e7 r7 x8 e8 r8 x9 η3 h9 c3 η4 eη4 x10 η5 h10
  replace e4 := zEq_i e4
  have k2 : sQ wl_n zTr zOn_token zMn_token [] η x2 η1 ∧ pQn_token [] η x2 η1 := h2
  have k6 : sQ wl_n zTr zOn_number zMn_number [0, 11] η1 x6 η2 ∧ pQn_number [0, 11] η1 x6 η2 := h6
  have k9 : sQ wl_n zTr zOn_find_s zMn_find_s [x7, x8] η2 x9 η3 ∧ pQn_find_s [x7, x8] η2 x9 η3 := h9
  have k10 : sQ wl_n zTr zOn_wrong zMn_wrong [3] η4 x10 η5 ∧ pQn_wrong [3] η4 x10 η5 := h10
  have w0_0_17 : (0 : Int) ≤ η 0 17 ∧ η 0 17 ≤ 4 := wf_ok (a := 17) (b := 17) (z := (0, 4)) hp.1 (by decide +kernel) (Nat.le_refl _) (Nat.le_refl _)
  replace e1 : x1 = η 0 17 := e1
  have w0_0_7 : (0 : Int) ≤ η 0 7 ∧ η 0 7 ≤ 700 := wf_ok (a := 7) (b := 7) (z := (0, 700)) hp.1 (by decide +kernel) (Nat.le_refl _) (Nat.le_refl _)
  have c0_0_7 : η 0 7 = η 0 7 := rfl
  have w0_0_6 : (0 : Int) ≤ η 0 6 ∧ η 0 6 ≤ 700 := wf_ok (a := 6) (b := 6) (z := (0, 700)) hp.1 (by decide +kernel) (Nat.le_refl _) (Nat.le_refl _)
  have c0_0_6 : η 0 6 = η 0 6 := rfl
  have w0_0_8 : (0 : Int) ≤ η 0 8 ∧ η 0 8 ≤ 6 := wf_ok (a := 8) (b := 8) (z := (0, 6)) hp.1 (by decide +kernel) (Nat.le_refl _) (Nat.le_refl _)
  have c0_0_8 : η 0 8 = η 0 8 := rfl
  have bx2 : (0 : Int) ≤ x2 ∧ x2 ≤ 0 := k2.1.2.1
  have w1_0_7 : (0 : Int) ≤ η1 0 7 ∧ η1 0 7 ≤ 700 := wf_ok (a := 7) (b := 7) (z := (0, 700)) k2.1.1 (by decide +kernel) (Nat.le_refl _) (Nat.le_refl _)
  have d1_0_7 : η1 0 7 = η1 0 7 := rfl
  have v5 : zEq (η1 0 6) (η 0 6) := (k2.1.2.2.2.1 0 6 (by decide +kernel)).trans rfl
  have d1_0_6 : η1 0 6 = η 0 6 := v5
  have w1_0_8 : (0 : Int) ≤ η1 0 8 ∧ η1 0 8 ≤ 6 := wf_ok (a := 8) (b := 8) (z := (0, 6)) k2.1.1 (by decide +kernel) (Nat.le_refl _) (Nat.le_refl _)
  have d1_0_8 : η1 0 8 = η1 0 8 := rfl
  have v7 : zEq (η1 0 17) (η 0 17) := (k2.1.2.2.2.1 0 17 (by decide +kernel)).trans rfl
  replace e3 : x3 = η 0 17 := e3.trans v7
  first
  | replace e4 : x4 = 4 + x3 := zd_a2 (zEq_o e4) (by clear e4; exact ⟨by omega, by omega⟩)
  | clear e4
  have w1_0_10 : (0 : Int) ≤ η1 0 10 ∧ η1 0 10 ≤ 700 := wf_ok (a := 10) (b := 10) (z := (0, 700)) k2.1.1 (by decide +kernel) (Nat.le_refl _) (Nat.le_refl _)
  replace e5 : x5 = η1 0 10 := e5
  have c1_0_7 : η1 0 7 = η1 0 7 := rfl
  have c1_0_6 : η1 0 6 = η 0 6 := v5
  have c1_0_8 : η1 0 8 = η1 0 8 := rfl
  have bx6 : (0 : Int) ≤ x6 ∧ x6 ≤ 1 := k6.1.2.1
  have w2_0_7 : (0 : Int) ≤ η2 0 7 ∧ η2 0 7 ≤ 700 := wf_ok (a := 7) (b := 7) (z := (0, 700)) k6.1.1 (by decide +kernel) (Nat.le_refl _) (Nat.le_refl _)
  have d2_0_7 : η2 0 7 = η2 0 7 := rfl
  have v10 : zEq (η2 0 6) (η 0 6) := (k6.1.2.2.2.1 0 6 (by decide +kernel)).trans v5
  have d2_0_6 : η2 0 6 = η 0 6 := v10
  have w2_0_8 : (0 : Int) ≤ η2 0 8 ∧ η2 0 8 ≤ 6 := wf_ok (a := 8) (b := 8) (z := (0, 6)) k6.1.1 (by decide +kernel) (Nat.le_refl _) (Nat.le_refl _)
  have d2_0_8 : η2 0 8 = η2 0 8 := rfl
  have v12 : zEq (η2 0 17) (η 0 17) := (k6.1.2.2.2.1 0 17 (by decide +kernel)).trans v7
  replace e7 : x7 = η 0 17 := e7.trans v12
  replace e8 : x8 = η2 0 11 := e8
  replace r8 : -2147483648 ≤ x8 ∧ x8 ≤ 2147483647 := r8
  have c2_0_7 : η2 0 7 = η2 0 7 := rfl
  have c2_0_6 : η2 0 6 = η 0 6 := v10
  have c2_0_8 : η2 0 8 = η2 0 8 := rfl
  have bx9 : ((-1) : Int) ≤ x9 ∧ x9 ≤ 3 := k9.1.2.1
  have v14 : zEq (η3 0 7) (η2 0 7) := (k9.1.2.2.2.1 0 7 (by decide +kernel)).trans rfl
  have d3_0_7 : η3 0 7 = η2 0 7 := v14
  have v15 : zEq (η3 0 6) (η 0 6) := (k9.1.2.2.2.1 0 6 (by decide +kernel)).trans v10
  have d3_0_6 : η3 0 6 = η 0 6 := v15
  have v16 : zEq (η3 0 8) (η2 0 8) := (k9.1.2.2.2.1 0 8 (by decide +kernel)).trans rfl
  have d3_0_8 : η3 0 8 = η2 0 8 := v16
  have v17 : zEq (η4 0 7) (η2 0 7) := by rw [eη4]; exact (zup_ne (fun _ e => absurd e (by decide))).trans v14
  have c4_0_7 : η4 0 7 = η2 0 7 := v17
  have v18 : zEq (η4 0 6) (η 0 6) := by rw [eη4]; exact (zup_ne (fun _ e => absurd e (by decide))).trans v15
  have c4_0_6 : η4 0 6 = η 0 6 := v18
  have v19 : zEq (η4 0 8) (η2 0 8) := by rw [eη4]; exact (zup_ne (fun _ e => absurd e (by decide))).trans v16
  have c4_0_8 : η4 0 8 = η2 0 8 := v19
  have bx10 : (0 : Int) ≤ x10 ∧ x10 ≤ 0 := k10.1.2.1
  have v20 : zEq (η5 0 7) (η2 0 7) := (k10.1.2.2.2.1 0 7 (by decide +kernel)).trans v17
  have d5_0_7 : η5 0 7 = η2 0 7 := v20
  have v21 : zEq (η5 0 6) (η 0 6) := (k10.1.2.2.2.1 0 6 (by decide +kernel)).trans v18
  have d5_0_6 : η5 0 6 = η 0 6 := v21
  have v22 : zEq (η5 0 8) (η2 0 8) := (k10.1.2.2.2.1 0 8 (by decide +kernel)).trans v19
  have d5_0_8 : η5 0 8 = η2 0 8 := v22
  have f0_7 : η5 0 7 = η2 0 7 := v20
  have f0_6 : η5 0 6 = η 0 6 := v21
  have f0_8 : η5 0 8 = η2 0 8 := v22
  have qt2 : ¬ η 0 8 = 0 → 10 * (η1 0 6 - η1 0 7) + η1 0 8 < 10 * (η 0 6 - η 0 7) + η 0 8 := k2.2.2
  have qn6 : ¬ x6 = 0 → 10 * (η2 0 6 - η2 0 7) + η2 0 8 < 10 * (η1 0 6 - η1 0 7) + η1 0 8 := k6.2.2
  have g4 : G_n η4 := by rw [eη4]; exact zGk_upc gk_n k9.2 (by decide +kernel)
  exact ⟨k10.2, fun w => absurd (show (x10 : Int) = 0 by apply Int.le_antisymm <;> omega) w⟩
set_option maxHeartbeats 8000000 in
theorem zn_scratLine_o14 {ro : Nat → List Int32} (η : zE) (hp : sP wl_n zTr zPn_scratLine [] η) (hpp : pPn_scratLine [] η) : ∀ x1 : Int, x1 = η 0 (Int.toNat 17) → zok 0 x1 → (¬ x1 = 4) → ∀ (x2 : Int) (η1 : zE), ((gC2 wl_n [(nat_lit 0, zPn_wrong, zOn_wrong, zMn_wrong), (nat_lit 1, zPn_token, zOn_token, zMn_token), (nat_lit 2, zPn_number, zOn_number, zMn_number), (nat_lit 3, zPn_find_s, zOn_find_s, zMn_find_s)] pCn_scratLine qCn_scratLine) 1).2 [] η x2 η1 → ∀ x3 : Int, x3 = η1 0 (Int.toNat 17) → zok 0 x3 → ∀ x4 : Int, x4 = zd 0 1 4 x3 → ∀ x5 : Int, x5 = η1 0 (Int.toNat 10) → zok 0 x5 → ∀ (x6 : Int) (η2 : zE), ((gC2 wl_n [(nat_lit 0, zPn_wrong, zOn_wrong, zMn_wrong), (nat_lit 1, zPn_token, zOn_token, zMn_token), (nat_lit 2, zPn_number, zOn_number, zMn_number), (nat_lit 3, zPn_find_s, zOn_find_s, zMn_find_s)] pCn_scratLine qCn_scratLine) 2).2 [0, 11] η1 x6 η2 → (x6 = 0) → (fun (_ : Nat) (y : Int) (η' : zE) => pQn_scratLine [] η y η') 0 0 η2 := by
  have hk : ¬ η 0 8 = 0 := hpp.2
  intro x1 e1 r1 c1 x2 η1 h2 x3 e3 r3 x4 e4 x5 e5 r5 x6 η2 h6 c2
  replace e4 := zEq_i e4
  have k2 : sQ wl_n zTr zOn_token zMn_token [] η x2 η1 ∧ pQn_token [] η x2 η1 := h2
  have k6 : sQ wl_n zTr zOn_number zMn_number [0, 11] η1 x6 η2 ∧ pQn_number [0, 11] η1 x6 η2 := h6
  have w0_0_17 : (0 : Int) ≤ η 0 17 ∧ η 0 17 ≤ 4 := wf_ok (a := 17) (b := 17) (z := (0, 4)) hp.1 (by decide +kernel) (Nat.le_refl _) (Nat.le_refl _)
  replace e1 : x1 = η 0 17 := e1
  have w0_0_7 : (0 : Int) ≤ η 0 7 ∧ η 0 7 ≤ 700 := wf_ok (a := 7) (b := 7) (z := (0, 700)) hp.1 (by decide +kernel) (Nat.le_refl _) (Nat.le_refl _)
  have c0_0_7 : η 0 7 = η 0 7 := rfl
  have w0_0_6 : (0 : Int) ≤ η 0 6 ∧ η 0 6 ≤ 700 := wf_ok (a := 6) (b := 6) (z := (0, 700)) hp.1 (by decide +kernel) (Nat.le_refl _) (Nat.le_refl _)
  have c0_0_6 : η 0 6 = η 0 6 := rfl
  have w0_0_8 : (0 : Int) ≤ η 0 8 ∧ η 0 8 ≤ 6 := wf_ok (a := 8) (b := 8) (z := (0, 6)) hp.1 (by decide +kernel) (Nat.le_refl _) (Nat.le_refl _)
  have c0_0_8 : η 0 8 = η 0 8 := rfl
  have bx2 : (0 : Int) ≤ x2 ∧ x2 ≤ 0 := k2.1.2.1
  have w1_0_7 : (0 : Int) ≤ η1 0 7 ∧ η1 0 7 ≤ 700 := wf_ok (a := 7) (b := 7) (z := (0, 700)) k2.1.1 (by decide +kernel) (Nat.le_refl _) (Nat.le_refl _)
  have d1_0_7 : η1 0 7 = η1 0 7 := rfl
  have v5 : zEq (η1 0 6) (η 0 6) := (k2.1.2.2.2.1 0 6 (by decide +kernel)).trans rfl
  have d1_0_6 : η1 0 6 = η 0 6 := v5
  have w1_0_8 : (0 : Int) ≤ η1 0 8 ∧ η1 0 8 ≤ 6 := wf_ok (a := 8) (b := 8) (z := (0, 6)) k2.1.1 (by decide +kernel) (Nat.le_refl _) (Nat.le_refl _)
  have d1_0_8 : η1 0 8 = η1 0 8 := rfl
  have v7 : zEq (η1 0 17) (η 0 17) := (k2.1.2.2.2.1 0 17 (by decide +kernel)).trans rfl
  replace e3 : x3 = η 0 17 := e3.trans v7
  first
  | replace e4 : x4 = 4 + x3 := zd_a2 (zEq_o e4) (by clear e4; exact ⟨by omega, by omega⟩)
  | clear e4
  have w1_0_10 : (0 : Int) ≤ η1 0 10 ∧ η1 0 10 ≤ 700 := wf_ok (a := 10) (b := 10) (z := (0, 700)) k2.1.1 (by decide +kernel) (Nat.le_refl _) (Nat.le_refl _)
  replace e5 : x5 = η1 0 10 := e5
  have c1_0_7 : η1 0 7 = η1 0 7 := rfl
  have c1_0_6 : η1 0 6 = η 0 6 := v5
  have c1_0_8 : η1 0 8 = η1 0 8 := rfl
  have bx6 : (0 : Int) ≤ x6 ∧ x6 ≤ 1 := k6.1.2.1
  have w2_0_7 : (0 : Int) ≤ η2 0 7 ∧ η2 0 7 ≤ 700 := wf_ok (a := 7) (b := 7) (z := (0, 700)) k6.1.1 (by decide +kernel) (Nat.le_refl _) (Nat.le_refl _)
  have d2_0_7 : η2 0 7 = η2 0 7 := rfl
  have v10 : zEq (η2 0 6) (η 0 6) := (k6.1.2.2.2.1 0 6 (by decide +kernel)).trans v5
  have d2_0_6 : η2 0 6 = η 0 6 := v10
  have w2_0_8 : (0 : Int) ≤ η2 0 8 ∧ η2 0 8 ≤ 6 := wf_ok (a := 8) (b := 8) (z := (0, 6)) k6.1.1 (by decide +kernel) (Nat.le_refl _) (Nat.le_refl _)
  have d2_0_8 : η2 0 8 = η2 0 8 := rfl
  have f0_7 : η2 0 7 = η2 0 7 := rfl
  have f0_6 : η2 0 6 = η 0 6 := v10
  have f0_8 : η2 0 8 = η2 0 8 := rfl
  have qt2 : ¬ η 0 8 = 0 → 10 * (η1 0 6 - η1 0 7) + η1 0 8 < 10 * (η 0 6 - η 0 7) + η 0 8 := k2.2.2
  have qn6 : ¬ x6 = 0 → 10 * (η2 0 6 - η2 0 7) + η2 0 8 < 10 * (η1 0 6 - η1 0 7) + η1 0 8 := k6.2.2
  exact ⟨k6.2.1, fun w => absurd (show (0 : Int) = 0 by apply Int.le_antisymm <;> omega) w⟩
set_option maxHeartbeats 8000000 in
theorem zn_scratLine_o15 {ro : Nat → List Int32} (η : zE) (hp : sP wl_n zTr zPn_scratLine [] η) (hpp : pPn_scratLine [] η) : ∀ x1 : Int, x1 = η 0 (Int.toNat 17) → zok 0 x1 → (x1 = 4) → ((gC2 wl_n [(nat_lit 0, zPn_wrong, zOn_wrong, zMn_wrong), (nat_lit 1, zPn_token, zOn_token, zMn_token), (nat_lit 2, zPn_number, zOn_number, zMn_number), (nat_lit 3, zPn_find_s, zOn_find_s, zMn_find_s)] pCn_scratLine qCn_scratLine) 0).1 [2] η := by
  have hk : ¬ η 0 8 = 0 := hpp.2
  intro x1 e1 r1 c1
  have w0_0_17 : (0 : Int) ≤ η 0 17 ∧ η 0 17 ≤ 4 := wf_ok (a := 17) (b := 17) (z := (0, 4)) hp.1 (by decide +kernel) (Nat.le_refl _) (Nat.le_refl _)
  replace e1 : x1 = η 0 17 := e1
  have w0_0_7 : (0 : Int) ≤ η 0 7 ∧ η 0 7 ≤ 700 := wf_ok (a := 7) (b := 7) (z := (0, 700)) hp.1 (by decide +kernel) (Nat.le_refl _) (Nat.le_refl _)
  have f0_7 : η 0 7 = η 0 7 := rfl
  have w0_0_6 : (0 : Int) ≤ η 0 6 ∧ η 0 6 ≤ 700 := wf_ok (a := 6) (b := 6) (z := (0, 700)) hp.1 (by decide +kernel) (Nat.le_refl _) (Nat.le_refl _)
  have f0_6 : η 0 6 = η 0 6 := rfl
  have w0_0_8 : (0 : Int) ≤ η 0 8 ∧ η 0 8 ≤ 6 := wf_ok (a := 8) (b := 8) (z := (0, 6)) hp.1 (by decide +kernel) (Nat.le_refl _) (Nat.le_refl _)
  have f0_8 : η 0 8 = η 0 8 := rfl
  exact hpp.1
set_option maxHeartbeats 8000000 in
theorem zn_scratLine_o16 {ro : Nat → List Int32} (η : zE) (hp : sP wl_n zTr zPn_scratLine [] η) (hpp : pPn_scratLine [] η) : ∀ x1 : Int, x1 = η 0 (Int.toNat 17) → zok 0 x1 → (x1 = 4) → ∀ (x2 : Int) (η1 : zE), ((gC2 wl_n [(nat_lit 0, zPn_wrong, zOn_wrong, zMn_wrong), (nat_lit 1, zPn_token, zOn_token, zMn_token), (nat_lit 2, zPn_number, zOn_number, zMn_number), (nat_lit 3, zPn_find_s, zOn_find_s, zMn_find_s)] pCn_scratLine qCn_scratLine) 0).2 [2] η x2 η1 → (fun (_ : Nat) (y : Int) (η' : zE) => pQn_scratLine [] η y η') 0 x2 η1 := by
  have hk : ¬ η 0 8 = 0 := hpp.2
  intro x1 e1 r1 c1 x2 η1 h2
  have k2 : sQ wl_n zTr zOn_wrong zMn_wrong [2] η x2 η1 ∧ pQn_wrong [2] η x2 η1 := h2
  have w0_0_17 : (0 : Int) ≤ η 0 17 ∧ η 0 17 ≤ 4 := wf_ok (a := 17) (b := 17) (z := (0, 4)) hp.1 (by decide +kernel) (Nat.le_refl _) (Nat.le_refl _)
  replace e1 : x1 = η 0 17 := e1
  have w0_0_7 : (0 : Int) ≤ η 0 7 ∧ η 0 7 ≤ 700 := wf_ok (a := 7) (b := 7) (z := (0, 700)) hp.1 (by decide +kernel) (Nat.le_refl _) (Nat.le_refl _)
  have c0_0_7 : η 0 7 = η 0 7 := rfl
  have w0_0_6 : (0 : Int) ≤ η 0 6 ∧ η 0 6 ≤ 700 := wf_ok (a := 6) (b := 6) (z := (0, 700)) hp.1 (by decide +kernel) (Nat.le_refl _) (Nat.le_refl _)
  have c0_0_6 : η 0 6 = η 0 6 := rfl
  have w0_0_8 : (0 : Int) ≤ η 0 8 ∧ η 0 8 ≤ 6 := wf_ok (a := 8) (b := 8) (z := (0, 6)) hp.1 (by decide +kernel) (Nat.le_refl _) (Nat.le_refl _)
  have c0_0_8 : η 0 8 = η 0 8 := rfl
  have bx2 : (0 : Int) ≤ x2 ∧ x2 ≤ 0 := k2.1.2.1
  have v4 : zEq (η1 0 7) (η 0 7) := (k2.1.2.2.2.1 0 7 (by decide +kernel)).trans rfl
  have d1_0_7 : η1 0 7 = η 0 7 := v4
  have v5 : zEq (η1 0 6) (η 0 6) := (k2.1.2.2.2.1 0 6 (by decide +kernel)).trans rfl
  have d1_0_6 : η1 0 6 = η 0 6 := v5
  have v6 : zEq (η1 0 8) (η 0 8) := (k2.1.2.2.2.1 0 8 (by decide +kernel)).trans rfl
  have d1_0_8 : η1 0 8 = η 0 8 := v6
  have f0_7 : η1 0 7 = η 0 7 := v4
  have f0_6 : η1 0 6 = η 0 6 := v5
  have f0_8 : η1 0 8 = η 0 8 := v6
  exact ⟨k2.2, fun w => absurd (show (x2 : Int) = 0 by apply Int.le_antisymm <;> omega) w⟩
set_option maxHeartbeats 8000000 in
theorem zn_scratLine {ro : Nat → List Int32} : zMet pr_P pr_K pr_df ro (sm_X0 1 6) 3 133 tm_n [(.inr (.inr (.inl (nat_lit 0))))] 2 [(nat_lit 0, nat_lit 0, nat_lit 1), (nat_lit 0, nat_lit 3, nat_lit 2), (nat_lit 0, nat_lit 20, nat_lit 3), (nat_lit 0, nat_lit 21, nat_lit 4), (nat_lit 0, nat_lit 22, nat_lit 5), (nat_lit 0, nat_lit 23, nat_lit 6), (nat_lit 0, nat_lit 24, nat_lit 7), (nat_lit 0, nat_lit 25, nat_lit 8), (nat_lit 0, nat_lit 26, nat_lit 9), (nat_lit 0, nat_lit 27, nat_lit 10), (nat_lit 0, nat_lit 28, nat_lit 11), (nat_lit 0, nat_lit 29, nat_lit 12), (nat_lit 0, nat_lit 30, nat_lit 13), (nat_lit 0, nat_lit 31, nat_lit 14), (nat_lit 0, nat_lit 32, nat_lit 15), (nat_lit 0, nat_lit 33, nat_lit 16), (nat_lit 0, nat_lit 34, nat_lit 17), (nat_lit 0, nat_lit 35, nat_lit 18), (nat_lit 0, nat_lit 36, nat_lit 19), (nat_lit 0, nat_lit 37, nat_lit 20), (nat_lit 0, nat_lit 38, nat_lit 21), (nat_lit 0, nat_lit 39, nat_lit 22), (nat_lit 0, nat_lit 40, nat_lit 23), (nat_lit 0, nat_lit 47, nat_lit 24), (nat_lit 0, nat_lit 48, nat_lit 25), (nat_lit 0, nat_lit 50, nat_lit 26), (nat_lit 0, nat_lit 51, nat_lit 27), (nat_lit 0, nat_lit 52, nat_lit 28), (nat_lit 0, nat_lit 53, nat_lit 29), (nat_lit 0, nat_lit 54, nat_lit 30), (nat_lit 0, nat_lit 55, nat_lit 31), (nat_lit 0, nat_lit 56, nat_lit 32), (nat_lit 0, nat_lit 57, nat_lit 33), (nat_lit 0, nat_lit 58, nat_lit 34), (nat_lit 0, nat_lit 59, nat_lit 35), (nat_lit 0, nat_lit 72, nat_lit 36), (nat_lit 0, nat_lit 73, nat_lit 37), (nat_lit 0, nat_lit 76, nat_lit 38), (nat_lit 0, nat_lit 77, nat_lit 39), (nat_lit 0, nat_lit 79, nat_lit 40), (nat_lit 0, nat_lit 81, nat_lit 41), (nat_lit 0, nat_lit 82, nat_lit 42)] [] (fun xs η => sP wl_n zTr zPn_scratLine xs η ∧ pPn_scratLine xs η) (fun xs η y η' => sQ wl_n zTr zOn_scratLine zMn_scratLine xs η y η' ∧ pQn_scratLine xs η y η') :=
  zmet_alt (zmea_gen (mi := (nat_lit 0, nat_lit 1, nat_lit 8, nat_lit 3, nat_lit 2, tX8_scratLine)) (cd := [(nat_lit 118, nat_lit 0, nat_lit 0, [(.inr (.inr (.inl (nat_lit 0)))), (.inl (nat_lit 1, (.ofNat (nat_lit 0))))], nat_lit 2, [(nat_lit 0, nat_lit 0, nat_lit 1), (nat_lit 0, nat_lit 3, nat_lit 2), (nat_lit 0, nat_lit 20, nat_lit 3), (nat_lit 0, nat_lit 21, nat_lit 4), (nat_lit 0, nat_lit 22, nat_lit 5), (nat_lit 0, nat_lit 23, nat_lit 6), (nat_lit 0, nat_lit 24, nat_lit 7), (nat_lit 0, nat_lit 25, nat_lit 8), (nat_lit 0, nat_lit 26, nat_lit 9), (nat_lit 0, nat_lit 27, nat_lit 10), (nat_lit 0, nat_lit 28, nat_lit 11), (nat_lit 0, nat_lit 29, nat_lit 12), (nat_lit 0, nat_lit 30, nat_lit 13), (nat_lit 0, nat_lit 31, nat_lit 14), (nat_lit 0, nat_lit 32, nat_lit 15), (nat_lit 0, nat_lit 33, nat_lit 16), (nat_lit 0, nat_lit 34, nat_lit 17), (nat_lit 0, nat_lit 35, nat_lit 18), (nat_lit 0, nat_lit 36, nat_lit 19), (nat_lit 0, nat_lit 37, nat_lit 20), (nat_lit 0, nat_lit 38, nat_lit 21), (nat_lit 0, nat_lit 39, nat_lit 22), (nat_lit 0, nat_lit 40, nat_lit 23), (nat_lit 0, nat_lit 47, nat_lit 24), (nat_lit 0, nat_lit 48, nat_lit 25), (nat_lit 0, nat_lit 50, nat_lit 26), (nat_lit 0, nat_lit 51, nat_lit 27), (nat_lit 0, nat_lit 52, nat_lit 28), (nat_lit 0, nat_lit 53, nat_lit 29), (nat_lit 0, nat_lit 54, nat_lit 30), (nat_lit 0, nat_lit 55, nat_lit 31), (nat_lit 0, nat_lit 56, nat_lit 32), (nat_lit 0, nat_lit 57, nat_lit 33), (nat_lit 0, nat_lit 58, nat_lit 34), (nat_lit 0, nat_lit 59, nat_lit 35), (nat_lit 0, nat_lit 72, nat_lit 36), (nat_lit 0, nat_lit 73, nat_lit 37), (nat_lit 0, nat_lit 76, nat_lit 38), (nat_lit 0, nat_lit 77, nat_lit 39), (nat_lit 0, nat_lit 79, nat_lit 40), (nat_lit 0, nat_lit 81, nat_lit 41), (nat_lit 0, nat_lit 82, nat_lit 42)], []), (nat_lit 122, nat_lit 1, nat_lit 1, [(.inr (.inr (.inl (nat_lit 0))))], nat_lit 0, [(nat_lit 0, nat_lit 0, nat_lit 1), (nat_lit 0, nat_lit 3, nat_lit 2), (nat_lit 0, nat_lit 20, nat_lit 3), (nat_lit 0, nat_lit 21, nat_lit 4), (nat_lit 0, nat_lit 22, nat_lit 5), (nat_lit 0, nat_lit 23, nat_lit 6), (nat_lit 0, nat_lit 24, nat_lit 7), (nat_lit 0, nat_lit 25, nat_lit 8), (nat_lit 0, nat_lit 26, nat_lit 9), (nat_lit 0, nat_lit 27, nat_lit 10), (nat_lit 0, nat_lit 28, nat_lit 11), (nat_lit 0, nat_lit 29, nat_lit 12), (nat_lit 0, nat_lit 30, nat_lit 13), (nat_lit 0, nat_lit 31, nat_lit 14), (nat_lit 0, nat_lit 32, nat_lit 15), (nat_lit 0, nat_lit 33, nat_lit 16), (nat_lit 0, nat_lit 34, nat_lit 17), (nat_lit 0, nat_lit 35, nat_lit 18), (nat_lit 0, nat_lit 36, nat_lit 19), (nat_lit 0, nat_lit 37, nat_lit 20), (nat_lit 0, nat_lit 38, nat_lit 21), (nat_lit 0, nat_lit 39, nat_lit 22), (nat_lit 0, nat_lit 40, nat_lit 23), (nat_lit 0, nat_lit 47, nat_lit 24), (nat_lit 0, nat_lit 48, nat_lit 25), (nat_lit 0, nat_lit 50, nat_lit 26), (nat_lit 0, nat_lit 51, nat_lit 27), (nat_lit 0, nat_lit 52, nat_lit 28), (nat_lit 0, nat_lit 53, nat_lit 29), (nat_lit 0, nat_lit 54, nat_lit 30), (nat_lit 0, nat_lit 55, nat_lit 31), (nat_lit 0, nat_lit 56, nat_lit 32), (nat_lit 0, nat_lit 57, nat_lit 33), (nat_lit 0, nat_lit 58, nat_lit 34), (nat_lit 0, nat_lit 59, nat_lit 35), (nat_lit 0, nat_lit 72, nat_lit 36), (nat_lit 0, nat_lit 73, nat_lit 37), (nat_lit 0, nat_lit 76, nat_lit 38), (nat_lit 0, nat_lit 77, nat_lit 39), (nat_lit 0, nat_lit 79, nat_lit 40), (nat_lit 0, nat_lit 81, nat_lit 41), (nat_lit 0, nat_lit 82, nat_lit 42)], []), (nat_lit 127, nat_lit 2, nat_lit 2, [(.inr (.inr (.inl (nat_lit 0)))), (.inl (nat_lit 1, (.ofNat (nat_lit 0)))), (.inl (nat_lit 2, (.ofNat (nat_lit 0))))], nat_lit 2, [(nat_lit 0, nat_lit 0, nat_lit 1), (nat_lit 0, nat_lit 3, nat_lit 2), (nat_lit 0, nat_lit 20, nat_lit 3), (nat_lit 0, nat_lit 21, nat_lit 4), (nat_lit 0, nat_lit 22, nat_lit 5), (nat_lit 0, nat_lit 23, nat_lit 6), (nat_lit 0, nat_lit 24, nat_lit 7), (nat_lit 0, nat_lit 25, nat_lit 8), (nat_lit 0, nat_lit 26, nat_lit 9), (nat_lit 0, nat_lit 27, nat_lit 10), (nat_lit 0, nat_lit 28, nat_lit 11), (nat_lit 0, nat_lit 29, nat_lit 12), (nat_lit 0, nat_lit 30, nat_lit 13), (nat_lit 0, nat_lit 31, nat_lit 14), (nat_lit 0, nat_lit 32, nat_lit 15), (nat_lit 0, nat_lit 33, nat_lit 16), (nat_lit 0, nat_lit 34, nat_lit 17), (nat_lit 0, nat_lit 35, nat_lit 18), (nat_lit 0, nat_lit 36, nat_lit 19), (nat_lit 0, nat_lit 37, nat_lit 20), (nat_lit 0, nat_lit 38, nat_lit 21), (nat_lit 0, nat_lit 39, nat_lit 22), (nat_lit 0, nat_lit 40, nat_lit 23), (nat_lit 0, nat_lit 47, nat_lit 24), (nat_lit 0, nat_lit 48, nat_lit 25), (nat_lit 0, nat_lit 50, nat_lit 26), (nat_lit 0, nat_lit 51, nat_lit 27), (nat_lit 0, nat_lit 52, nat_lit 28), (nat_lit 0, nat_lit 53, nat_lit 29), (nat_lit 0, nat_lit 54, nat_lit 30), (nat_lit 0, nat_lit 55, nat_lit 31), (nat_lit 0, nat_lit 56, nat_lit 32), (nat_lit 0, nat_lit 57, nat_lit 33), (nat_lit 0, nat_lit 58, nat_lit 34), (nat_lit 0, nat_lit 59, nat_lit 35), (nat_lit 0, nat_lit 72, nat_lit 36), (nat_lit 0, nat_lit 73, nat_lit 37), (nat_lit 0, nat_lit 76, nat_lit 38), (nat_lit 0, nat_lit 77, nat_lit 39), (nat_lit 0, nat_lit 79, nat_lit 40), (nat_lit 0, nat_lit 81, nat_lit 41), (nat_lit 0, nat_lit 82, nat_lit 42)], []), (nat_lit 131, nat_lit 3, nat_lit 0, [(.inr (.inr (.inl (nat_lit 7)))), (.inl (nat_lit 0, (.ofNat (nat_lit 4)))), (.inl (nat_lit 1, (.ofNat (nat_lit 0)))), (.inl (nat_lit 2, (.ofNat (nat_lit 0))))], nat_lit 1, [], [])]) (cu := []) (cs := [(nat_lit 0, zPn_wrong, zOn_wrong, zMn_wrong), (nat_lit 1, zPn_token, zOn_token, zMn_token), (nat_lit 2, zPn_number, zOn_number, zMn_number), (nat_lit 3, zPn_find_s, zOn_find_s, zMn_find_s)]) (iv := zVn_scratLine) (po := [zOn_scratLine]) (pr := zPn_scratLine) (mods := zMn_scratLine) (D7 := zDn_scratLine) (D0 := zEn_scratLine) (Dm := zFn_scratLine) (f0 := 95) pCn_scratLine qCn_scratLine iCn_scratLine pPn_scratLine (fun xs η _ y η' => pQn_scratLine xs η y η') zX_low pr_mtR rfl (List.forall_mem_cons.mpr ⟨zn_wrong, List.forall_mem_cons.mpr ⟨zn_token, List.forall_mem_cons.mpr ⟨zn_number, List.forall_mem_cons.mpr ⟨zn_find_s, fun _ h => nomatch h⟩⟩⟩⟩) (by decide +kernel) (by decide +kernel) (by decide +kernel)
    (by
      intro xs η hr hl hp hpp
      match xs, hl, hp, hpp with
      | [], _, hp, hpp =>
        refine List.forall_mem_cons.mpr ⟨?_, List.forall_mem_cons.mpr ⟨?_, List.forall_mem_cons.mpr ⟨?_, List.forall_mem_cons.mpr ⟨?_, List.forall_mem_cons.mpr ⟨?_, List.forall_mem_cons.mpr ⟨?_, List.forall_mem_cons.mpr ⟨?_, List.forall_mem_cons.mpr ⟨?_, List.forall_mem_cons.mpr ⟨?_, List.forall_mem_cons.mpr ⟨?_, List.forall_mem_cons.mpr ⟨?_, List.forall_mem_cons.mpr ⟨?_, List.forall_mem_cons.mpr ⟨?_, List.forall_mem_cons.mpr ⟨?_, List.forall_mem_cons.mpr ⟨?_, List.forall_mem_cons.mpr ⟨?_, List.forall_mem_cons.mpr ⟨?_, fun _ h => nomatch h⟩⟩⟩⟩⟩⟩⟩⟩⟩⟩⟩⟩⟩⟩⟩⟩⟩
        · refine zden_L (n := 1) (ρ := [0]) rfl ?_
          exact zn_scratLine_o0 (ro := ro)  η hp hpp
        · refine zden_L (n := 1) (ρ := [0]) rfl ?_
          exact zn_scratLine_o1 (ro := ro)  η hp hpp
        · refine zden_L (n := 1) (ρ := [0]) rfl ?_
          exact zn_scratLine_o2 (ro := ro)  η hp hpp
        · refine zden_L (n := 1) (ρ := [0]) rfl ?_
          exact zn_scratLine_o3 (ro := ro)  η hp hpp
        · refine zden_L (n := 1) (ρ := [0]) rfl ?_
          exact zn_scratLine_o4 (ro := ro)  η hp hpp
        · refine zden_L (n := 1) (ρ := [0]) rfl ?_
          exact zn_scratLine_o5 (ro := ro)  η hp hpp
        · refine zden_L (n := 1) (ρ := [0]) rfl ?_
          exact zn_scratLine_o6 (ro := ro)  η hp hpp
        · refine zden_L (n := 1) (ρ := [0]) rfl ?_
          exact zn_scratLine_o7 (ro := ro)  η hp hpp
        · refine zden_L (n := 1) (ρ := [0]) rfl ?_
          exact zn_scratLine_o8 (ro := ro)  η hp hpp
        · refine zden_L (n := 1) (ρ := [0]) rfl ?_
          exact zn_scratLine_o9 (ro := ro)  η hp hpp
        · refine zden_L (n := 1) (ρ := [0]) rfl ?_
          exact zn_scratLine_o10 (ro := ro)  η hp hpp
        · refine zden_L (n := 1) (ρ := [0]) rfl ?_
          exact zn_scratLine_o11 (ro := ro)  η hp hpp
        · refine zden_L (n := 1) (ρ := [0]) rfl ?_
          exact zn_scratLine_o12 (ro := ro)  η hp hpp
        · refine zden_L (n := 1) (ρ := [0]) rfl ?_
          exact zn_scratLine_o13 (ro := ro)  η hp hpp
        · refine zden_L (n := 1) (ρ := [0]) rfl ?_
          exact zn_scratLine_o14 (ro := ro)  η hp hpp
        · refine zden_L (n := 1) (ρ := [0]) rfl ?_
          exact zn_scratLine_o15 (ro := ro)  η hp hpp
        · refine zden_L (n := 1) (ρ := [0]) rfl ?_
          exact zn_scratLine_o16 (ro := ro)  η hp hpp
      )
    (fun _ _ _ _ _ _ _ h => nomatch h)
    (fun _ h => nomatch h))
def zPn_guestLine : zPq := ([], [])
def zOn_guestLine : zPo := (((.ofNat (nat_lit 0)), (.ofNat (nat_lit 1))), [], [])
def zMn_guestLine : List zCe := [(nat_lit 0, nat_lit 8), (nat_lit 0, nat_lit 9), (nat_lit 0, nat_lit 10), (nat_lit 0, nat_lit 11), (nat_lit 0, nat_lit 5), (nat_lit 0, nat_lit 6), (nat_lit 0, nat_lit 12), (nat_lit 0, nat_lit 19), (nat_lit 12, nat_lit 0), (nat_lit 13, nat_lit 0), (nat_lit 14, nat_lit 0), (nat_lit 15, nat_lit 0)]
def pPn_guestLine : List Int → zE → Prop := fun _ η => G_n η ∧ ¬ η 0 8 = 0
def pQn_guestLine : List Int → zE → Int → zE → Prop := fun _ η y η' => G_n η' ∧ (¬ y = 0 → 10 * (η' 0 6 - η' 0 7) + η' 0 8 < 10 * (η 0 6 - η 0 7) + η 0 8)
def pCn_guestLine : Nat → List Int → zE → Prop := fun c => match c with
  | 0 => pPn_wrong
  | 1 => pPn_token
  | 2 => pPn_number
  | 3 => pPn_find_g
  | _ => fun _ _ => True
def qCn_guestLine : Nat → List Int → zE → Int → zE → Prop := fun c => match c with
  | 0 => pQn_wrong
  | 1 => pQn_token
  | 2 => pQn_number
  | 3 => pQn_find_g
  | _ => fun _ _ _ _ => True
def iCn_guestLine : List Int → zE → Nat → List Int → zE → Prop := fun xs η0 c => match c with
  | _ => fun _ _ => True
def zVn_guestLine : List zIv := []
def zDn_guestLine : List (List zK) := [[(nat_lit 7, nat_lit 0, [(nat_lit 8, (.ofNat (nat_lit 0))), (nat_lit 0, (.ofNat (nat_lit 8)))]), (nat_lit 4, nat_lit 0, [(nat_lit 0, (.ofNat (nat_lit 0))), (nat_lit 0, (.ofNat (nat_lit 9)))]), (nat_lit 0, nat_lit 1, [(nat_lit 0, (.ofNat (nat_lit 4))), (nat_lit 7, (.ofNat (nat_lit 0)))]), (nat_lit 4, nat_lit 0, [(nat_lit 0, (.ofNat (nat_lit 0))), (nat_lit 0, (.ofNat (nat_lit 18)))]), (nat_lit 6, nat_lit 2, [(nat_lit 6, (.ofNat (nat_lit 0))), (nat_lit 0, (.ofNat (nat_lit 0)))]), (nat_lit 8, nat_lit 3, [(nat_lit 4, (.ofNat (nat_lit 0))), (nat_lit 5, (.ofNat (nat_lit 0)))]), (nat_lit 4, nat_lit 0, [(nat_lit 0, (.ofNat (nat_lit 0))), (nat_lit 0, (.ofNat (nat_lit 9)))]), (nat_lit 4, nat_lit 0, [(nat_lit 0, (.ofNat (nat_lit 0))), (nat_lit 0, (.ofNat (nat_lit 18)))]), (nat_lit 6, nat_lit 0, [(nat_lit 3, (.ofNat (nat_lit 0))), (nat_lit 0, (.ofNat (nat_lit 2)))]), (nat_lit 4, nat_lit 0, [(nat_lit 0, (.ofNat (nat_lit 0))), (nat_lit 0, (.ofNat (nat_lit 8)))]), (nat_lit 8, nat_lit 1, []), (nat_lit 6, nat_lit 1, [(nat_lit 1, (.ofNat (nat_lit 0))), (nat_lit 0, (.ofNat (nat_lit 4)))]), (nat_lit 4, nat_lit 0, [(nat_lit 0, (.ofNat (nat_lit 0))), (nat_lit 0, (.ofNat (nat_lit 18)))])],
  [(nat_lit 7, nat_lit 0, [(nat_lit 8, (.ofNat (nat_lit 0))), (nat_lit 0, (.ofNat (nat_lit 8)))]), (nat_lit 4, nat_lit 0, [(nat_lit 0, (.ofNat (nat_lit 0))), (nat_lit 0, (.ofNat (nat_lit 11)))]), (nat_lit 6, nat_lit 1, [(nat_lit 11, (.ofNat (nat_lit 0))), (nat_lit 0, (.ofNat (nat_lit 0)))]), (nat_lit 8, nat_lit 2, [(nat_lit 0, (.ofNat (nat_lit 1))), (nat_lit 0, (.ofNat (nat_lit 9)))]), (nat_lit 8, nat_lit 1, []), (nat_lit 5, nat_lit 0, [(nat_lit 12, (.ofNat (nat_lit 0))), (nat_lit 8, (.ofNat (nat_lit 0))), (nat_lit 9, (.ofNat (nat_lit 0)))]), (nat_lit 4, nat_lit 0, [(nat_lit 0, (.ofNat (nat_lit 0))), (nat_lit 0, (.ofNat (nat_lit 9)))]), (nat_lit 0, nat_lit 1, [(nat_lit 0, (.ofNat (nat_lit 4))), (nat_lit 7, (.ofNat (nat_lit 0)))]), (nat_lit 4, nat_lit 0, [(nat_lit 0, (.ofNat (nat_lit 0))), (nat_lit 0, (.ofNat (nat_lit 18)))]), (nat_lit 6, nat_lit 2, [(nat_lit 6, (.ofNat (nat_lit 0))), (nat_lit 0, (.ofNat (nat_lit 0)))]), (nat_lit 8, nat_lit 3, [(nat_lit 4, (.ofNat (nat_lit 0))), (nat_lit 5, (.ofNat (nat_lit 0)))]), (nat_lit 4, nat_lit 0, [(nat_lit 0, (.ofNat (nat_lit 0))), (nat_lit 0, (.ofNat (nat_lit 9)))]), (nat_lit 4, nat_lit 0, [(nat_lit 0, (.ofNat (nat_lit 0))), (nat_lit 0, (.ofNat (nat_lit 18)))]), (nat_lit 6, nat_lit 0, [(nat_lit 3, (.ofNat (nat_lit 0))), (nat_lit 0, (.ofNat (nat_lit 2)))]), (nat_lit 4, nat_lit 0, [(nat_lit 0, (.ofNat (nat_lit 0))), (nat_lit 0, (.ofNat (nat_lit 8)))]), (nat_lit 8, nat_lit 1, []), (nat_lit 6, nat_lit 1, [(nat_lit 1, (.ofNat (nat_lit 0))), (nat_lit 0, (.ofNat (nat_lit 4)))]), (nat_lit 4, nat_lit 0, [(nat_lit 0, (.ofNat (nat_lit 0))), (nat_lit 0, (.ofNat (nat_lit 18)))])],
  [(nat_lit 7, nat_lit 0, [(nat_lit 8, (.ofNat (nat_lit 0))), (nat_lit 0, (.ofNat (nat_lit 8)))]), (nat_lit 4, nat_lit 0, [(nat_lit 0, (.ofNat (nat_lit 0))), (nat_lit 0, (.ofNat (nat_lit 11)))]), (nat_lit 6, nat_lit 1, [(nat_lit 13, (.ofNat (nat_lit 0))), (nat_lit 0, (.ofNat (nat_lit 0)))]), (nat_lit 8, nat_lit 2, [(nat_lit 0, (.ofNat (nat_lit 0))), (nat_lit 0, (.ofNat (nat_lit 9)))]), (nat_lit 5, nat_lit 0, [(nat_lit 13, (.ofNat (nat_lit 0))), (nat_lit 8, (.ofNat (nat_lit 0))), (nat_lit 12, (.ofNat (nat_lit 0)))]), (nat_lit 4, nat_lit 0, [(nat_lit 0, (.ofNat (nat_lit 0))), (nat_lit 0, (.ofNat (nat_lit 11)))]), (nat_lit 6, nat_lit 1, [(nat_lit 11, (.ofNat (nat_lit 0))), (nat_lit 0, (.ofNat (nat_lit 0)))]), (nat_lit 8, nat_lit 2, [(nat_lit 0, (.ofNat (nat_lit 1))), (nat_lit 0, (.ofNat (nat_lit 9)))]), (nat_lit 8, nat_lit 1, []), (nat_lit 5, nat_lit 0, [(nat_lit 12, (.ofNat (nat_lit 0))), (nat_lit 8, (.ofNat (nat_lit 0))), (nat_lit 9, (.ofNat (nat_lit 0)))]), (nat_lit 4, nat_lit 0, [(nat_lit 0, (.ofNat (nat_lit 0))), (nat_lit 0, (.ofNat (nat_lit 9)))]), (nat_lit 0, nat_lit 1, [(nat_lit 0, (.ofNat (nat_lit 4))), (nat_lit 7, (.ofNat (nat_lit 0)))]), (nat_lit 4, nat_lit 0, [(nat_lit 0, (.ofNat (nat_lit 0))), (nat_lit 0, (.ofNat (nat_lit 18)))]), (nat_lit 6, nat_lit 2, [(nat_lit 6, (.ofNat (nat_lit 0))), (nat_lit 0, (.ofNat (nat_lit 0)))]), (nat_lit 8, nat_lit 3, [(nat_lit 4, (.ofNat (nat_lit 0))), (nat_lit 5, (.ofNat (nat_lit 0)))]), (nat_lit 4, nat_lit 0, [(nat_lit 0, (.ofNat (nat_lit 0))), (nat_lit 0, (.ofNat (nat_lit 9)))]), (nat_lit 4, nat_lit 0, [(nat_lit 0, (.ofNat (nat_lit 0))), (nat_lit 0, (.ofNat (nat_lit 18)))]), (nat_lit 6, nat_lit 0, [(nat_lit 3, (.ofNat (nat_lit 0))), (nat_lit 0, (.ofNat (nat_lit 2)))]), (nat_lit 4, nat_lit 0, [(nat_lit 0, (.ofNat (nat_lit 0))), (nat_lit 0, (.ofNat (nat_lit 8)))]), (nat_lit 8, nat_lit 1, []), (nat_lit 6, nat_lit 1, [(nat_lit 1, (.ofNat (nat_lit 0))), (nat_lit 0, (.ofNat (nat_lit 4)))]), (nat_lit 4, nat_lit 0, [(nat_lit 0, (.ofNat (nat_lit 0))), (nat_lit 0, (.ofNat (nat_lit 18)))])],
  [(nat_lit 7, nat_lit 0, [(nat_lit 8, (.ofNat (nat_lit 0))), (nat_lit 0, (.ofNat (nat_lit 8)))]), (nat_lit 4, nat_lit 0, [(nat_lit 0, (.ofNat (nat_lit 0))), (nat_lit 0, (.ofNat (nat_lit 11)))]), (nat_lit 6, nat_lit 1, [(nat_lit 15, (.ofNat (nat_lit 0))), (nat_lit 0, (.ofNat (nat_lit 0)))]), (nat_lit 8, nat_lit 2, [(nat_lit 0, (.ofNat (nat_lit 0))), (nat_lit 0, (.ofNat (nat_lit 99)))]), (nat_lit 5, nat_lit 0, [(nat_lit 14, (.ofNat (nat_lit 0))), (nat_lit 8, (.ofNat (nat_lit 0))), (nat_lit 14, (.ofNat (nat_lit 0)))]), (nat_lit 4, nat_lit 0, [(nat_lit 0, (.ofNat (nat_lit 0))), (nat_lit 0, (.ofNat (nat_lit 11)))]), (nat_lit 6, nat_lit 1, [(nat_lit 13, (.ofNat (nat_lit 0))), (nat_lit 0, (.ofNat (nat_lit 0)))]), (nat_lit 8, nat_lit 2, [(nat_lit 0, (.ofNat (nat_lit 0))), (nat_lit 0, (.ofNat (nat_lit 9)))]), (nat_lit 5, nat_lit 0, [(nat_lit 13, (.ofNat (nat_lit 0))), (nat_lit 8, (.ofNat (nat_lit 0))), (nat_lit 12, (.ofNat (nat_lit 0)))]), (nat_lit 4, nat_lit 0, [(nat_lit 0, (.ofNat (nat_lit 0))), (nat_lit 0, (.ofNat (nat_lit 11)))]), (nat_lit 6, nat_lit 1, [(nat_lit 11, (.ofNat (nat_lit 0))), (nat_lit 0, (.ofNat (nat_lit 0)))]), (nat_lit 8, nat_lit 2, [(nat_lit 0, (.ofNat (nat_lit 1))), (nat_lit 0, (.ofNat (nat_lit 9)))]), (nat_lit 8, nat_lit 1, []), (nat_lit 5, nat_lit 0, [(nat_lit 12, (.ofNat (nat_lit 0))), (nat_lit 8, (.ofNat (nat_lit 0))), (nat_lit 9, (.ofNat (nat_lit 0)))]), (nat_lit 4, nat_lit 0, [(nat_lit 0, (.ofNat (nat_lit 0))), (nat_lit 0, (.ofNat (nat_lit 9)))]), (nat_lit 0, nat_lit 1, [(nat_lit 0, (.ofNat (nat_lit 4))), (nat_lit 7, (.ofNat (nat_lit 0)))]), (nat_lit 4, nat_lit 0, [(nat_lit 0, (.ofNat (nat_lit 0))), (nat_lit 0, (.ofNat (nat_lit 18)))]), (nat_lit 6, nat_lit 2, [(nat_lit 6, (.ofNat (nat_lit 0))), (nat_lit 0, (.ofNat (nat_lit 0)))]), (nat_lit 8, nat_lit 3, [(nat_lit 4, (.ofNat (nat_lit 0))), (nat_lit 5, (.ofNat (nat_lit 0)))]), (nat_lit 4, nat_lit 0, [(nat_lit 0, (.ofNat (nat_lit 0))), (nat_lit 0, (.ofNat (nat_lit 9)))]), (nat_lit 4, nat_lit 0, [(nat_lit 0, (.ofNat (nat_lit 0))), (nat_lit 0, (.ofNat (nat_lit 18)))]), (nat_lit 6, nat_lit 0, [(nat_lit 3, (.ofNat (nat_lit 0))), (nat_lit 0, (.ofNat (nat_lit 2)))]), (nat_lit 4, nat_lit 0, [(nat_lit 0, (.ofNat (nat_lit 0))), (nat_lit 0, (.ofNat (nat_lit 8)))]), (nat_lit 8, nat_lit 1, []), (nat_lit 6, nat_lit 1, [(nat_lit 1, (.ofNat (nat_lit 0))), (nat_lit 0, (.ofNat (nat_lit 4)))]), (nat_lit 4, nat_lit 0, [(nat_lit 0, (.ofNat (nat_lit 0))), (nat_lit 0, (.ofNat (nat_lit 18)))])],
  [(nat_lit 7, nat_lit 2, [(nat_lit 0, (.ofNat (nat_lit 1)))]), (nat_lit 5, nat_lit 0, [(nat_lit 0, (.ofNat (nat_lit 0))), (nat_lit 0, (.ofNat (nat_lit 18))), (nat_lit 18, (.ofNat (nat_lit 0)))]), (nat_lit 0, nat_lit 1, [(nat_lit 17, (.ofNat (nat_lit 0))), (nat_lit 0, (.ofNat (nat_lit 1)))]), (nat_lit 4, nat_lit 0, [(nat_lit 0, (.ofNat (nat_lit 0))), (nat_lit 0, (.ofNat (nat_lit 18)))]), (nat_lit 5, nat_lit 0, [(nat_lit 15, (.ofNat (nat_lit 0))), (nat_lit 8, (.ofNat (nat_lit 0))), (nat_lit 16, (.ofNat (nat_lit 0)))]), (nat_lit 4, nat_lit 0, [(nat_lit 0, (.ofNat (nat_lit 0))), (nat_lit 0, (.ofNat (nat_lit 11)))]), (nat_lit 6, nat_lit 1, [(nat_lit 15, (.ofNat (nat_lit 0))), (nat_lit 0, (.ofNat (nat_lit 0)))]), (nat_lit 8, nat_lit 2, [(nat_lit 0, (.ofNat (nat_lit 0))), (nat_lit 0, (.ofNat (nat_lit 99)))]), (nat_lit 5, nat_lit 0, [(nat_lit 14, (.ofNat (nat_lit 0))), (nat_lit 8, (.ofNat (nat_lit 0))), (nat_lit 14, (.ofNat (nat_lit 0)))]), (nat_lit 4, nat_lit 0, [(nat_lit 0, (.ofNat (nat_lit 0))), (nat_lit 0, (.ofNat (nat_lit 11)))]), (nat_lit 6, nat_lit 1, [(nat_lit 13, (.ofNat (nat_lit 0))), (nat_lit 0, (.ofNat (nat_lit 0)))]), (nat_lit 8, nat_lit 2, [(nat_lit 0, (.ofNat (nat_lit 0))), (nat_lit 0, (.ofNat (nat_lit 9)))]), (nat_lit 5, nat_lit 0, [(nat_lit 13, (.ofNat (nat_lit 0))), (nat_lit 8, (.ofNat (nat_lit 0))), (nat_lit 12, (.ofNat (nat_lit 0)))]), (nat_lit 4, nat_lit 0, [(nat_lit 0, (.ofNat (nat_lit 0))), (nat_lit 0, (.ofNat (nat_lit 11)))]), (nat_lit 6, nat_lit 1, [(nat_lit 11, (.ofNat (nat_lit 0))), (nat_lit 0, (.ofNat (nat_lit 0)))]), (nat_lit 8, nat_lit 2, [(nat_lit 0, (.ofNat (nat_lit 1))), (nat_lit 0, (.ofNat (nat_lit 9)))]), (nat_lit 8, nat_lit 1, []), (nat_lit 5, nat_lit 0, [(nat_lit 12, (.ofNat (nat_lit 0))), (nat_lit 8, (.ofNat (nat_lit 0))), (nat_lit 9, (.ofNat (nat_lit 0)))]), (nat_lit 4, nat_lit 0, [(nat_lit 0, (.ofNat (nat_lit 0))), (nat_lit 0, (.ofNat (nat_lit 9)))]), (nat_lit 0, nat_lit 1, [(nat_lit 0, (.ofNat (nat_lit 4))), (nat_lit 7, (.ofNat (nat_lit 0)))]), (nat_lit 4, nat_lit 0, [(nat_lit 0, (.ofNat (nat_lit 0))), (nat_lit 0, (.ofNat (nat_lit 18)))]), (nat_lit 6, nat_lit 2, [(nat_lit 6, (.ofNat (nat_lit 0))), (nat_lit 0, (.ofNat (nat_lit 0)))]), (nat_lit 8, nat_lit 3, [(nat_lit 4, (.ofNat (nat_lit 0))), (nat_lit 5, (.ofNat (nat_lit 0)))]), (nat_lit 4, nat_lit 0, [(nat_lit 0, (.ofNat (nat_lit 0))), (nat_lit 0, (.ofNat (nat_lit 9)))]), (nat_lit 4, nat_lit 0, [(nat_lit 0, (.ofNat (nat_lit 0))), (nat_lit 0, (.ofNat (nat_lit 18)))]), (nat_lit 6, nat_lit 0, [(nat_lit 3, (.ofNat (nat_lit 0))), (nat_lit 0, (.ofNat (nat_lit 2)))]), (nat_lit 4, nat_lit 0, [(nat_lit 0, (.ofNat (nat_lit 0))), (nat_lit 0, (.ofNat (nat_lit 8)))]), (nat_lit 8, nat_lit 1, []), (nat_lit 6, nat_lit 1, [(nat_lit 1, (.ofNat (nat_lit 0))), (nat_lit 0, (.ofNat (nat_lit 4)))]), (nat_lit 4, nat_lit 0, [(nat_lit 0, (.ofNat (nat_lit 0))), (nat_lit 0, (.ofNat (nat_lit 18)))])],
  [(nat_lit 7, nat_lit 2, [(nat_lit 0, (.ofNat (nat_lit 0)))]), (nat_lit 6, nat_lit 0, [(nat_lit 15, (.ofNat (nat_lit 0))), (nat_lit 0, (.ofNat (nat_lit 0)))]), (nat_lit 8, nat_lit 2, [(nat_lit 0, (.ofNat (nat_lit 0))), (nat_lit 0, (.ofNat (nat_lit 99)))]), (nat_lit 5, nat_lit 0, [(nat_lit 14, (.ofNat (nat_lit 0))), (nat_lit 8, (.ofNat (nat_lit 0))), (nat_lit 14, (.ofNat (nat_lit 0)))]), (nat_lit 4, nat_lit 0, [(nat_lit 0, (.ofNat (nat_lit 0))), (nat_lit 0, (.ofNat (nat_lit 11)))]), (nat_lit 6, nat_lit 1, [(nat_lit 13, (.ofNat (nat_lit 0))), (nat_lit 0, (.ofNat (nat_lit 0)))]), (nat_lit 8, nat_lit 2, [(nat_lit 0, (.ofNat (nat_lit 0))), (nat_lit 0, (.ofNat (nat_lit 9)))]), (nat_lit 5, nat_lit 0, [(nat_lit 13, (.ofNat (nat_lit 0))), (nat_lit 8, (.ofNat (nat_lit 0))), (nat_lit 12, (.ofNat (nat_lit 0)))]), (nat_lit 4, nat_lit 0, [(nat_lit 0, (.ofNat (nat_lit 0))), (nat_lit 0, (.ofNat (nat_lit 11)))]), (nat_lit 6, nat_lit 1, [(nat_lit 11, (.ofNat (nat_lit 0))), (nat_lit 0, (.ofNat (nat_lit 0)))]), (nat_lit 8, nat_lit 2, [(nat_lit 0, (.ofNat (nat_lit 1))), (nat_lit 0, (.ofNat (nat_lit 9)))]), (nat_lit 8, nat_lit 1, []), (nat_lit 5, nat_lit 0, [(nat_lit 12, (.ofNat (nat_lit 0))), (nat_lit 8, (.ofNat (nat_lit 0))), (nat_lit 9, (.ofNat (nat_lit 0)))]), (nat_lit 4, nat_lit 0, [(nat_lit 0, (.ofNat (nat_lit 0))), (nat_lit 0, (.ofNat (nat_lit 9)))]), (nat_lit 0, nat_lit 1, [(nat_lit 0, (.ofNat (nat_lit 4))), (nat_lit 7, (.ofNat (nat_lit 0)))]), (nat_lit 4, nat_lit 0, [(nat_lit 0, (.ofNat (nat_lit 0))), (nat_lit 0, (.ofNat (nat_lit 18)))]), (nat_lit 6, nat_lit 2, [(nat_lit 6, (.ofNat (nat_lit 0))), (nat_lit 0, (.ofNat (nat_lit 0)))]), (nat_lit 8, nat_lit 3, [(nat_lit 4, (.ofNat (nat_lit 0))), (nat_lit 5, (.ofNat (nat_lit 0)))]), (nat_lit 4, nat_lit 0, [(nat_lit 0, (.ofNat (nat_lit 0))), (nat_lit 0, (.ofNat (nat_lit 9)))]), (nat_lit 4, nat_lit 0, [(nat_lit 0, (.ofNat (nat_lit 0))), (nat_lit 0, (.ofNat (nat_lit 18)))]), (nat_lit 6, nat_lit 0, [(nat_lit 3, (.ofNat (nat_lit 0))), (nat_lit 0, (.ofNat (nat_lit 2)))]), (nat_lit 4, nat_lit 0, [(nat_lit 0, (.ofNat (nat_lit 0))), (nat_lit 0, (.ofNat (nat_lit 8)))]), (nat_lit 8, nat_lit 1, []), (nat_lit 6, nat_lit 1, [(nat_lit 1, (.ofNat (nat_lit 0))), (nat_lit 0, (.ofNat (nat_lit 4)))]), (nat_lit 4, nat_lit 0, [(nat_lit 0, (.ofNat (nat_lit 0))), (nat_lit 0, (.ofNat (nat_lit 18)))])],
  [(nat_lit 7, nat_lit 2, [(nat_lit 0, (.ofNat (nat_lit 0)))]), (nat_lit 6, nat_lit 0, [(nat_lit 13, (.ofNat (nat_lit 0))), (nat_lit 0, (.ofNat (nat_lit 0)))]), (nat_lit 8, nat_lit 2, [(nat_lit 0, (.ofNat (nat_lit 0))), (nat_lit 0, (.ofNat (nat_lit 9)))]), (nat_lit 5, nat_lit 0, [(nat_lit 13, (.ofNat (nat_lit 0))), (nat_lit 8, (.ofNat (nat_lit 0))), (nat_lit 12, (.ofNat (nat_lit 0)))]), (nat_lit 4, nat_lit 0, [(nat_lit 0, (.ofNat (nat_lit 0))), (nat_lit 0, (.ofNat (nat_lit 11)))]), (nat_lit 6, nat_lit 1, [(nat_lit 11, (.ofNat (nat_lit 0))), (nat_lit 0, (.ofNat (nat_lit 0)))]), (nat_lit 8, nat_lit 2, [(nat_lit 0, (.ofNat (nat_lit 1))), (nat_lit 0, (.ofNat (nat_lit 9)))]), (nat_lit 8, nat_lit 1, []), (nat_lit 5, nat_lit 0, [(nat_lit 12, (.ofNat (nat_lit 0))), (nat_lit 8, (.ofNat (nat_lit 0))), (nat_lit 9, (.ofNat (nat_lit 0)))]), (nat_lit 4, nat_lit 0, [(nat_lit 0, (.ofNat (nat_lit 0))), (nat_lit 0, (.ofNat (nat_lit 9)))]), (nat_lit 0, nat_lit 1, [(nat_lit 0, (.ofNat (nat_lit 4))), (nat_lit 7, (.ofNat (nat_lit 0)))]), (nat_lit 4, nat_lit 0, [(nat_lit 0, (.ofNat (nat_lit 0))), (nat_lit 0, (.ofNat (nat_lit 18)))]), (nat_lit 6, nat_lit 2, [(nat_lit 6, (.ofNat (nat_lit 0))), (nat_lit 0, (.ofNat (nat_lit 0)))]), (nat_lit 8, nat_lit 3, [(nat_lit 4, (.ofNat (nat_lit 0))), (nat_lit 5, (.ofNat (nat_lit 0)))]), (nat_lit 4, nat_lit 0, [(nat_lit 0, (.ofNat (nat_lit 0))), (nat_lit 0, (.ofNat (nat_lit 9)))]), (nat_lit 4, nat_lit 0, [(nat_lit 0, (.ofNat (nat_lit 0))), (nat_lit 0, (.ofNat (nat_lit 18)))]), (nat_lit 6, nat_lit 0, [(nat_lit 3, (.ofNat (nat_lit 0))), (nat_lit 0, (.ofNat (nat_lit 2)))]), (nat_lit 4, nat_lit 0, [(nat_lit 0, (.ofNat (nat_lit 0))), (nat_lit 0, (.ofNat (nat_lit 8)))]), (nat_lit 8, nat_lit 1, []), (nat_lit 6, nat_lit 1, [(nat_lit 1, (.ofNat (nat_lit 0))), (nat_lit 0, (.ofNat (nat_lit 4)))]), (nat_lit 4, nat_lit 0, [(nat_lit 0, (.ofNat (nat_lit 0))), (nat_lit 0, (.ofNat (nat_lit 18)))])],
  [(nat_lit 7, nat_lit 2, [(nat_lit 0, (.ofNat (nat_lit 0)))]), (nat_lit 6, nat_lit 0, [(nat_lit 11, (.ofNat (nat_lit 0))), (nat_lit 0, (.ofNat (nat_lit 0)))]), (nat_lit 8, nat_lit 2, [(nat_lit 0, (.ofNat (nat_lit 1))), (nat_lit 0, (.ofNat (nat_lit 9)))]), (nat_lit 8, nat_lit 1, []), (nat_lit 5, nat_lit 0, [(nat_lit 12, (.ofNat (nat_lit 0))), (nat_lit 8, (.ofNat (nat_lit 0))), (nat_lit 9, (.ofNat (nat_lit 0)))]), (nat_lit 4, nat_lit 0, [(nat_lit 0, (.ofNat (nat_lit 0))), (nat_lit 0, (.ofNat (nat_lit 9)))]), (nat_lit 0, nat_lit 1, [(nat_lit 0, (.ofNat (nat_lit 4))), (nat_lit 7, (.ofNat (nat_lit 0)))]), (nat_lit 4, nat_lit 0, [(nat_lit 0, (.ofNat (nat_lit 0))), (nat_lit 0, (.ofNat (nat_lit 18)))]), (nat_lit 6, nat_lit 2, [(nat_lit 6, (.ofNat (nat_lit 0))), (nat_lit 0, (.ofNat (nat_lit 0)))]), (nat_lit 8, nat_lit 3, [(nat_lit 4, (.ofNat (nat_lit 0))), (nat_lit 5, (.ofNat (nat_lit 0)))]), (nat_lit 4, nat_lit 0, [(nat_lit 0, (.ofNat (nat_lit 0))), (nat_lit 0, (.ofNat (nat_lit 9)))]), (nat_lit 4, nat_lit 0, [(nat_lit 0, (.ofNat (nat_lit 0))), (nat_lit 0, (.ofNat (nat_lit 18)))]), (nat_lit 6, nat_lit 0, [(nat_lit 3, (.ofNat (nat_lit 0))), (nat_lit 0, (.ofNat (nat_lit 2)))]), (nat_lit 4, nat_lit 0, [(nat_lit 0, (.ofNat (nat_lit 0))), (nat_lit 0, (.ofNat (nat_lit 8)))]), (nat_lit 8, nat_lit 1, []), (nat_lit 6, nat_lit 1, [(nat_lit 1, (.ofNat (nat_lit 0))), (nat_lit 0, (.ofNat (nat_lit 4)))]), (nat_lit 4, nat_lit 0, [(nat_lit 0, (.ofNat (nat_lit 0))), (nat_lit 0, (.ofNat (nat_lit 18)))])],
  [(nat_lit 7, nat_lit 2, [(nat_lit 7, (.ofNat (nat_lit 0)))]), (nat_lit 8, nat_lit 0, [(nat_lit 0, (.ofNat (nat_lit 3)))]), (nat_lit 6, nat_lit 3, [(nat_lit 6, (.ofNat (nat_lit 0))), (nat_lit 0, (.ofNat (nat_lit 0)))]), (nat_lit 8, nat_lit 3, [(nat_lit 4, (.ofNat (nat_lit 0))), (nat_lit 5, (.ofNat (nat_lit 0)))]), (nat_lit 4, nat_lit 0, [(nat_lit 0, (.ofNat (nat_lit 0))), (nat_lit 0, (.ofNat (nat_lit 9)))]), (nat_lit 4, nat_lit 0, [(nat_lit 0, (.ofNat (nat_lit 0))), (nat_lit 0, (.ofNat (nat_lit 18)))]), (nat_lit 6, nat_lit 0, [(nat_lit 3, (.ofNat (nat_lit 0))), (nat_lit 0, (.ofNat (nat_lit 2)))]), (nat_lit 4, nat_lit 0, [(nat_lit 0, (.ofNat (nat_lit 0))), (nat_lit 0, (.ofNat (nat_lit 8)))]), (nat_lit 8, nat_lit 1, []), (nat_lit 6, nat_lit 1, [(nat_lit 1, (.ofNat (nat_lit 0))), (nat_lit 0, (.ofNat (nat_lit 4)))]), (nat_lit 4, nat_lit 0, [(nat_lit 0, (.ofNat (nat_lit 0))), (nat_lit 0, (.ofNat (nat_lit 18)))])],
  [(nat_lit 7, nat_lit 2, [(nat_lit 4, (.ofNat (nat_lit 0)))]), (nat_lit 8, nat_lit 0, [(nat_lit 0, (.ofNat (nat_lit 1)))]), (nat_lit 6, nat_lit 1, [(nat_lit 3, (.ofNat (nat_lit 0))), (nat_lit 0, (.ofNat (nat_lit 2)))]), (nat_lit 4, nat_lit 0, [(nat_lit 0, (.ofNat (nat_lit 0))), (nat_lit 0, (.ofNat (nat_lit 8)))]), (nat_lit 8, nat_lit 1, []), (nat_lit 6, nat_lit 1, [(nat_lit 1, (.ofNat (nat_lit 0))), (nat_lit 0, (.ofNat (nat_lit 4)))]), (nat_lit 4, nat_lit 0, [(nat_lit 0, (.ofNat (nat_lit 0))), (nat_lit 0, (.ofNat (nat_lit 18)))])],
  [(nat_lit 7, nat_lit 2, [(nat_lit 2, (.ofNat (nat_lit 0)))]), (nat_lit 8, nat_lit 0, [(nat_lit 0, (.ofNat (nat_lit 2)))]), (nat_lit 6, nat_lit 0, [(nat_lit 1, (.ofNat (nat_lit 0))), (nat_lit 0, (.ofNat (nat_lit 4)))]), (nat_lit 4, nat_lit 0, [(nat_lit 0, (.ofNat (nat_lit 0))), (nat_lit 0, (.ofNat (nat_lit 18)))])]]
def zEn_guestLine : List (List zK) := [[(nat_lit 13, nat_lit 1, []), (nat_lit 6, nat_lit 1, [(nat_lit 1, (.ofNat (nat_lit 0))), (nat_lit 0, (.ofNat (nat_lit 4)))]), (nat_lit 4, nat_lit 0, [(nat_lit 0, (.ofNat (nat_lit 0))), (nat_lit 0, (.ofNat (nat_lit 18)))])],
  [(nat_lit 13, nat_lit 3, [(nat_lit 4, (.ofNat (nat_lit 0))), (nat_lit 5, (.ofNat (nat_lit 0)))]), (nat_lit 4, nat_lit 0, [(nat_lit 0, (.ofNat (nat_lit 0))), (nat_lit 0, (.ofNat (nat_lit 9)))]), (nat_lit 4, nat_lit 0, [(nat_lit 0, (.ofNat (nat_lit 0))), (nat_lit 0, (.ofNat (nat_lit 18)))]), (nat_lit 6, nat_lit 0, [(nat_lit 3, (.ofNat (nat_lit 0))), (nat_lit 0, (.ofNat (nat_lit 2)))]), (nat_lit 4, nat_lit 0, [(nat_lit 0, (.ofNat (nat_lit 0))), (nat_lit 0, (.ofNat (nat_lit 8)))]), (nat_lit 8, nat_lit 1, []), (nat_lit 6, nat_lit 1, [(nat_lit 1, (.ofNat (nat_lit 0))), (nat_lit 0, (.ofNat (nat_lit 4)))]), (nat_lit 4, nat_lit 0, [(nat_lit 0, (.ofNat (nat_lit 0))), (nat_lit 0, (.ofNat (nat_lit 18)))])],
  [(nat_lit 13, nat_lit 1, []), (nat_lit 5, nat_lit 0, [(nat_lit 12, (.ofNat (nat_lit 0))), (nat_lit 8, (.ofNat (nat_lit 0))), (nat_lit 9, (.ofNat (nat_lit 0)))]), (nat_lit 4, nat_lit 0, [(nat_lit 0, (.ofNat (nat_lit 0))), (nat_lit 0, (.ofNat (nat_lit 9)))]), (nat_lit 0, nat_lit 1, [(nat_lit 0, (.ofNat (nat_lit 4))), (nat_lit 7, (.ofNat (nat_lit 0)))]), (nat_lit 4, nat_lit 0, [(nat_lit 0, (.ofNat (nat_lit 0))), (nat_lit 0, (.ofNat (nat_lit 18)))]), (nat_lit 6, nat_lit 2, [(nat_lit 6, (.ofNat (nat_lit 0))), (nat_lit 0, (.ofNat (nat_lit 0)))]), (nat_lit 8, nat_lit 3, [(nat_lit 4, (.ofNat (nat_lit 0))), (nat_lit 5, (.ofNat (nat_lit 0)))]), (nat_lit 4, nat_lit 0, [(nat_lit 0, (.ofNat (nat_lit 0))), (nat_lit 0, (.ofNat (nat_lit 9)))]), (nat_lit 4, nat_lit 0, [(nat_lit 0, (.ofNat (nat_lit 0))), (nat_lit 0, (.ofNat (nat_lit 18)))]), (nat_lit 6, nat_lit 0, [(nat_lit 3, (.ofNat (nat_lit 0))), (nat_lit 0, (.ofNat (nat_lit 2)))]), (nat_lit 4, nat_lit 0, [(nat_lit 0, (.ofNat (nat_lit 0))), (nat_lit 0, (.ofNat (nat_lit 8)))]), (nat_lit 8, nat_lit 1, []), (nat_lit 6, nat_lit 1, [(nat_lit 1, (.ofNat (nat_lit 0))), (nat_lit 0, (.ofNat (nat_lit 4)))]), (nat_lit 4, nat_lit 0, [(nat_lit 0, (.ofNat (nat_lit 0))), (nat_lit 0, (.ofNat (nat_lit 18)))])],
  [(nat_lit 13, nat_lit 2, [(nat_lit 0, (.ofNat (nat_lit 1))), (nat_lit 0, (.ofNat (nat_lit 9)))]), (nat_lit 8, nat_lit 1, []), (nat_lit 5, nat_lit 0, [(nat_lit 12, (.ofNat (nat_lit 0))), (nat_lit 8, (.ofNat (nat_lit 0))), (nat_lit 9, (.ofNat (nat_lit 0)))]), (nat_lit 4, nat_lit 0, [(nat_lit 0, (.ofNat (nat_lit 0))), (nat_lit 0, (.ofNat (nat_lit 9)))]), (nat_lit 0, nat_lit 1, [(nat_lit 0, (.ofNat (nat_lit 4))), (nat_lit 7, (.ofNat (nat_lit 0)))]), (nat_lit 4, nat_lit 0, [(nat_lit 0, (.ofNat (nat_lit 0))), (nat_lit 0, (.ofNat (nat_lit 18)))]), (nat_lit 6, nat_lit 2, [(nat_lit 6, (.ofNat (nat_lit 0))), (nat_lit 0, (.ofNat (nat_lit 0)))]), (nat_lit 8, nat_lit 3, [(nat_lit 4, (.ofNat (nat_lit 0))), (nat_lit 5, (.ofNat (nat_lit 0)))]), (nat_lit 4, nat_lit 0, [(nat_lit 0, (.ofNat (nat_lit 0))), (nat_lit 0, (.ofNat (nat_lit 9)))]), (nat_lit 4, nat_lit 0, [(nat_lit 0, (.ofNat (nat_lit 0))), (nat_lit 0, (.ofNat (nat_lit 18)))]), (nat_lit 6, nat_lit 0, [(nat_lit 3, (.ofNat (nat_lit 0))), (nat_lit 0, (.ofNat (nat_lit 2)))]), (nat_lit 4, nat_lit 0, [(nat_lit 0, (.ofNat (nat_lit 0))), (nat_lit 0, (.ofNat (nat_lit 8)))]), (nat_lit 8, nat_lit 1, []), (nat_lit 6, nat_lit 1, [(nat_lit 1, (.ofNat (nat_lit 0))), (nat_lit 0, (.ofNat (nat_lit 4)))]), (nat_lit 4, nat_lit 0, [(nat_lit 0, (.ofNat (nat_lit 0))), (nat_lit 0, (.ofNat (nat_lit 18)))])],
  [(nat_lit 13, nat_lit 2, [(nat_lit 0, (.ofNat (nat_lit 0))), (nat_lit 0, (.ofNat (nat_lit 9)))]), (nat_lit 5, nat_lit 0, [(nat_lit 13, (.ofNat (nat_lit 0))), (nat_lit 8, (.ofNat (nat_lit 0))), (nat_lit 12, (.ofNat (nat_lit 0)))]), (nat_lit 4, nat_lit 0, [(nat_lit 0, (.ofNat (nat_lit 0))), (nat_lit 0, (.ofNat (nat_lit 11)))]), (nat_lit 6, nat_lit 1, [(nat_lit 11, (.ofNat (nat_lit 0))), (nat_lit 0, (.ofNat (nat_lit 0)))]), (nat_lit 8, nat_lit 2, [(nat_lit 0, (.ofNat (nat_lit 1))), (nat_lit 0, (.ofNat (nat_lit 9)))]), (nat_lit 8, nat_lit 1, []), (nat_lit 5, nat_lit 0, [(nat_lit 12, (.ofNat (nat_lit 0))), (nat_lit 8, (.ofNat (nat_lit 0))), (nat_lit 9, (.ofNat (nat_lit 0)))]), (nat_lit 4, nat_lit 0, [(nat_lit 0, (.ofNat (nat_lit 0))), (nat_lit 0, (.ofNat (nat_lit 9)))]), (nat_lit 0, nat_lit 1, [(nat_lit 0, (.ofNat (nat_lit 4))), (nat_lit 7, (.ofNat (nat_lit 0)))]), (nat_lit 4, nat_lit 0, [(nat_lit 0, (.ofNat (nat_lit 0))), (nat_lit 0, (.ofNat (nat_lit 18)))]), (nat_lit 6, nat_lit 2, [(nat_lit 6, (.ofNat (nat_lit 0))), (nat_lit 0, (.ofNat (nat_lit 0)))]), (nat_lit 8, nat_lit 3, [(nat_lit 4, (.ofNat (nat_lit 0))), (nat_lit 5, (.ofNat (nat_lit 0)))]), (nat_lit 4, nat_lit 0, [(nat_lit 0, (.ofNat (nat_lit 0))), (nat_lit 0, (.ofNat (nat_lit 9)))]), (nat_lit 4, nat_lit 0, [(nat_lit 0, (.ofNat (nat_lit 0))), (nat_lit 0, (.ofNat (nat_lit 18)))]), (nat_lit 6, nat_lit 0, [(nat_lit 3, (.ofNat (nat_lit 0))), (nat_lit 0, (.ofNat (nat_lit 2)))]), (nat_lit 4, nat_lit 0, [(nat_lit 0, (.ofNat (nat_lit 0))), (nat_lit 0, (.ofNat (nat_lit 8)))]), (nat_lit 8, nat_lit 1, []), (nat_lit 6, nat_lit 1, [(nat_lit 1, (.ofNat (nat_lit 0))), (nat_lit 0, (.ofNat (nat_lit 4)))]), (nat_lit 4, nat_lit 0, [(nat_lit 0, (.ofNat (nat_lit 0))), (nat_lit 0, (.ofNat (nat_lit 18)))])],
  [(nat_lit 13, nat_lit 2, [(nat_lit 0, (.ofNat (nat_lit 0))), (nat_lit 0, (.ofNat (nat_lit 99)))]), (nat_lit 5, nat_lit 0, [(nat_lit 14, (.ofNat (nat_lit 0))), (nat_lit 8, (.ofNat (nat_lit 0))), (nat_lit 14, (.ofNat (nat_lit 0)))]), (nat_lit 4, nat_lit 0, [(nat_lit 0, (.ofNat (nat_lit 0))), (nat_lit 0, (.ofNat (nat_lit 11)))]), (nat_lit 6, nat_lit 1, [(nat_lit 13, (.ofNat (nat_lit 0))), (nat_lit 0, (.ofNat (nat_lit 0)))]), (nat_lit 8, nat_lit 2, [(nat_lit 0, (.ofNat (nat_lit 0))), (nat_lit 0, (.ofNat (nat_lit 9)))]), (nat_lit 5, nat_lit 0, [(nat_lit 13, (.ofNat (nat_lit 0))), (nat_lit 8, (.ofNat (nat_lit 0))), (nat_lit 12, (.ofNat (nat_lit 0)))]), (nat_lit 4, nat_lit 0, [(nat_lit 0, (.ofNat (nat_lit 0))), (nat_lit 0, (.ofNat (nat_lit 11)))]), (nat_lit 6, nat_lit 1, [(nat_lit 11, (.ofNat (nat_lit 0))), (nat_lit 0, (.ofNat (nat_lit 0)))]), (nat_lit 8, nat_lit 2, [(nat_lit 0, (.ofNat (nat_lit 1))), (nat_lit 0, (.ofNat (nat_lit 9)))]), (nat_lit 8, nat_lit 1, []), (nat_lit 5, nat_lit 0, [(nat_lit 12, (.ofNat (nat_lit 0))), (nat_lit 8, (.ofNat (nat_lit 0))), (nat_lit 9, (.ofNat (nat_lit 0)))]), (nat_lit 4, nat_lit 0, [(nat_lit 0, (.ofNat (nat_lit 0))), (nat_lit 0, (.ofNat (nat_lit 9)))]), (nat_lit 0, nat_lit 1, [(nat_lit 0, (.ofNat (nat_lit 4))), (nat_lit 7, (.ofNat (nat_lit 0)))]), (nat_lit 4, nat_lit 0, [(nat_lit 0, (.ofNat (nat_lit 0))), (nat_lit 0, (.ofNat (nat_lit 18)))]), (nat_lit 6, nat_lit 2, [(nat_lit 6, (.ofNat (nat_lit 0))), (nat_lit 0, (.ofNat (nat_lit 0)))]), (nat_lit 8, nat_lit 3, [(nat_lit 4, (.ofNat (nat_lit 0))), (nat_lit 5, (.ofNat (nat_lit 0)))]), (nat_lit 4, nat_lit 0, [(nat_lit 0, (.ofNat (nat_lit 0))), (nat_lit 0, (.ofNat (nat_lit 9)))]), (nat_lit 4, nat_lit 0, [(nat_lit 0, (.ofNat (nat_lit 0))), (nat_lit 0, (.ofNat (nat_lit 18)))]), (nat_lit 6, nat_lit 0, [(nat_lit 3, (.ofNat (nat_lit 0))), (nat_lit 0, (.ofNat (nat_lit 2)))]), (nat_lit 4, nat_lit 0, [(nat_lit 0, (.ofNat (nat_lit 0))), (nat_lit 0, (.ofNat (nat_lit 8)))]), (nat_lit 8, nat_lit 1, []), (nat_lit 6, nat_lit 1, [(nat_lit 1, (.ofNat (nat_lit 0))), (nat_lit 0, (.ofNat (nat_lit 4)))]), (nat_lit 4, nat_lit 0, [(nat_lit 0, (.ofNat (nat_lit 0))), (nat_lit 0, (.ofNat (nat_lit 18)))])],
  [(nat_lit 11, nat_lit 0, [(nat_lit 0, (.ofNat (nat_lit 1)))]), (nat_lit 5, nat_lit 0, [(nat_lit 0, (.ofNat (nat_lit 0))), (nat_lit 0, (.ofNat (nat_lit 18))), (nat_lit 18, (.ofNat (nat_lit 0)))]), (nat_lit 0, nat_lit 1, [(nat_lit 17, (.ofNat (nat_lit 0))), (nat_lit 0, (.ofNat (nat_lit 1)))]), (nat_lit 4, nat_lit 0, [(nat_lit 0, (.ofNat (nat_lit 0))), (nat_lit 0, (.ofNat (nat_lit 18)))]), (nat_lit 5, nat_lit 0, [(nat_lit 15, (.ofNat (nat_lit 0))), (nat_lit 8, (.ofNat (nat_lit 0))), (nat_lit 16, (.ofNat (nat_lit 0)))]), (nat_lit 4, nat_lit 0, [(nat_lit 0, (.ofNat (nat_lit 0))), (nat_lit 0, (.ofNat (nat_lit 11)))]), (nat_lit 6, nat_lit 1, [(nat_lit 15, (.ofNat (nat_lit 0))), (nat_lit 0, (.ofNat (nat_lit 0)))]), (nat_lit 8, nat_lit 2, [(nat_lit 0, (.ofNat (nat_lit 0))), (nat_lit 0, (.ofNat (nat_lit 99)))]), (nat_lit 5, nat_lit 0, [(nat_lit 14, (.ofNat (nat_lit 0))), (nat_lit 8, (.ofNat (nat_lit 0))), (nat_lit 14, (.ofNat (nat_lit 0)))]), (nat_lit 4, nat_lit 0, [(nat_lit 0, (.ofNat (nat_lit 0))), (nat_lit 0, (.ofNat (nat_lit 11)))]), (nat_lit 6, nat_lit 1, [(nat_lit 13, (.ofNat (nat_lit 0))), (nat_lit 0, (.ofNat (nat_lit 0)))]), (nat_lit 8, nat_lit 2, [(nat_lit 0, (.ofNat (nat_lit 0))), (nat_lit 0, (.ofNat (nat_lit 9)))]), (nat_lit 5, nat_lit 0, [(nat_lit 13, (.ofNat (nat_lit 0))), (nat_lit 8, (.ofNat (nat_lit 0))), (nat_lit 12, (.ofNat (nat_lit 0)))]), (nat_lit 4, nat_lit 0, [(nat_lit 0, (.ofNat (nat_lit 0))), (nat_lit 0, (.ofNat (nat_lit 11)))]), (nat_lit 6, nat_lit 1, [(nat_lit 11, (.ofNat (nat_lit 0))), (nat_lit 0, (.ofNat (nat_lit 0)))]), (nat_lit 8, nat_lit 2, [(nat_lit 0, (.ofNat (nat_lit 1))), (nat_lit 0, (.ofNat (nat_lit 9)))]), (nat_lit 8, nat_lit 1, []), (nat_lit 5, nat_lit 0, [(nat_lit 12, (.ofNat (nat_lit 0))), (nat_lit 8, (.ofNat (nat_lit 0))), (nat_lit 9, (.ofNat (nat_lit 0)))]), (nat_lit 4, nat_lit 0, [(nat_lit 0, (.ofNat (nat_lit 0))), (nat_lit 0, (.ofNat (nat_lit 9)))]), (nat_lit 0, nat_lit 1, [(nat_lit 0, (.ofNat (nat_lit 4))), (nat_lit 7, (.ofNat (nat_lit 0)))]), (nat_lit 4, nat_lit 0, [(nat_lit 0, (.ofNat (nat_lit 0))), (nat_lit 0, (.ofNat (nat_lit 18)))]), (nat_lit 6, nat_lit 2, [(nat_lit 6, (.ofNat (nat_lit 0))), (nat_lit 0, (.ofNat (nat_lit 0)))]), (nat_lit 8, nat_lit 3, [(nat_lit 4, (.ofNat (nat_lit 0))), (nat_lit 5, (.ofNat (nat_lit 0)))]), (nat_lit 4, nat_lit 0, [(nat_lit 0, (.ofNat (nat_lit 0))), (nat_lit 0, (.ofNat (nat_lit 9)))]), (nat_lit 4, nat_lit 0, [(nat_lit 0, (.ofNat (nat_lit 0))), (nat_lit 0, (.ofNat (nat_lit 18)))]), (nat_lit 6, nat_lit 0, [(nat_lit 3, (.ofNat (nat_lit 0))), (nat_lit 0, (.ofNat (nat_lit 2)))]), (nat_lit 4, nat_lit 0, [(nat_lit 0, (.ofNat (nat_lit 0))), (nat_lit 0, (.ofNat (nat_lit 8)))]), (nat_lit 8, nat_lit 1, []), (nat_lit 6, nat_lit 1, [(nat_lit 1, (.ofNat (nat_lit 0))), (nat_lit 0, (.ofNat (nat_lit 4)))]), (nat_lit 4, nat_lit 0, [(nat_lit 0, (.ofNat (nat_lit 0))), (nat_lit 0, (.ofNat (nat_lit 18)))])],
  [(nat_lit 11, nat_lit 0, [(nat_lit 0, (.ofNat (nat_lit 0)))]), (nat_lit 6, nat_lit 0, [(nat_lit 15, (.ofNat (nat_lit 0))), (nat_lit 0, (.ofNat (nat_lit 0)))]), (nat_lit 8, nat_lit 2, [(nat_lit 0, (.ofNat (nat_lit 0))), (nat_lit 0, (.ofNat (nat_lit 99)))]), (nat_lit 5, nat_lit 0, [(nat_lit 14, (.ofNat (nat_lit 0))), (nat_lit 8, (.ofNat (nat_lit 0))), (nat_lit 14, (.ofNat (nat_lit 0)))]), (nat_lit 4, nat_lit 0, [(nat_lit 0, (.ofNat (nat_lit 0))), (nat_lit 0, (.ofNat (nat_lit 11)))]), (nat_lit 6, nat_lit 1, [(nat_lit 13, (.ofNat (nat_lit 0))), (nat_lit 0, (.ofNat (nat_lit 0)))]), (nat_lit 8, nat_lit 2, [(nat_lit 0, (.ofNat (nat_lit 0))), (nat_lit 0, (.ofNat (nat_lit 9)))]), (nat_lit 5, nat_lit 0, [(nat_lit 13, (.ofNat (nat_lit 0))), (nat_lit 8, (.ofNat (nat_lit 0))), (nat_lit 12, (.ofNat (nat_lit 0)))]), (nat_lit 4, nat_lit 0, [(nat_lit 0, (.ofNat (nat_lit 0))), (nat_lit 0, (.ofNat (nat_lit 11)))]), (nat_lit 6, nat_lit 1, [(nat_lit 11, (.ofNat (nat_lit 0))), (nat_lit 0, (.ofNat (nat_lit 0)))]), (nat_lit 8, nat_lit 2, [(nat_lit 0, (.ofNat (nat_lit 1))), (nat_lit 0, (.ofNat (nat_lit 9)))]), (nat_lit 8, nat_lit 1, []), (nat_lit 5, nat_lit 0, [(nat_lit 12, (.ofNat (nat_lit 0))), (nat_lit 8, (.ofNat (nat_lit 0))), (nat_lit 9, (.ofNat (nat_lit 0)))]), (nat_lit 4, nat_lit 0, [(nat_lit 0, (.ofNat (nat_lit 0))), (nat_lit 0, (.ofNat (nat_lit 9)))]), (nat_lit 0, nat_lit 1, [(nat_lit 0, (.ofNat (nat_lit 4))), (nat_lit 7, (.ofNat (nat_lit 0)))]), (nat_lit 4, nat_lit 0, [(nat_lit 0, (.ofNat (nat_lit 0))), (nat_lit 0, (.ofNat (nat_lit 18)))]), (nat_lit 6, nat_lit 2, [(nat_lit 6, (.ofNat (nat_lit 0))), (nat_lit 0, (.ofNat (nat_lit 0)))]), (nat_lit 8, nat_lit 3, [(nat_lit 4, (.ofNat (nat_lit 0))), (nat_lit 5, (.ofNat (nat_lit 0)))]), (nat_lit 4, nat_lit 0, [(nat_lit 0, (.ofNat (nat_lit 0))), (nat_lit 0, (.ofNat (nat_lit 9)))]), (nat_lit 4, nat_lit 0, [(nat_lit 0, (.ofNat (nat_lit 0))), (nat_lit 0, (.ofNat (nat_lit 18)))]), (nat_lit 6, nat_lit 0, [(nat_lit 3, (.ofNat (nat_lit 0))), (nat_lit 0, (.ofNat (nat_lit 2)))]), (nat_lit 4, nat_lit 0, [(nat_lit 0, (.ofNat (nat_lit 0))), (nat_lit 0, (.ofNat (nat_lit 8)))]), (nat_lit 8, nat_lit 1, []), (nat_lit 6, nat_lit 1, [(nat_lit 1, (.ofNat (nat_lit 0))), (nat_lit 0, (.ofNat (nat_lit 4)))]), (nat_lit 4, nat_lit 0, [(nat_lit 0, (.ofNat (nat_lit 0))), (nat_lit 0, (.ofNat (nat_lit 18)))])],
  [(nat_lit 11, nat_lit 0, [(nat_lit 0, (.ofNat (nat_lit 0)))]), (nat_lit 6, nat_lit 0, [(nat_lit 13, (.ofNat (nat_lit 0))), (nat_lit 0, (.ofNat (nat_lit 0)))]), (nat_lit 8, nat_lit 2, [(nat_lit 0, (.ofNat (nat_lit 0))), (nat_lit 0, (.ofNat (nat_lit 9)))]), (nat_lit 5, nat_lit 0, [(nat_lit 13, (.ofNat (nat_lit 0))), (nat_lit 8, (.ofNat (nat_lit 0))), (nat_lit 12, (.ofNat (nat_lit 0)))]), (nat_lit 4, nat_lit 0, [(nat_lit 0, (.ofNat (nat_lit 0))), (nat_lit 0, (.ofNat (nat_lit 11)))]), (nat_lit 6, nat_lit 1, [(nat_lit 11, (.ofNat (nat_lit 0))), (nat_lit 0, (.ofNat (nat_lit 0)))]), (nat_lit 8, nat_lit 2, [(nat_lit 0, (.ofNat (nat_lit 1))), (nat_lit 0, (.ofNat (nat_lit 9)))]), (nat_lit 8, nat_lit 1, []), (nat_lit 5, nat_lit 0, [(nat_lit 12, (.ofNat (nat_lit 0))), (nat_lit 8, (.ofNat (nat_lit 0))), (nat_lit 9, (.ofNat (nat_lit 0)))]), (nat_lit 4, nat_lit 0, [(nat_lit 0, (.ofNat (nat_lit 0))), (nat_lit 0, (.ofNat (nat_lit 9)))]), (nat_lit 0, nat_lit 1, [(nat_lit 0, (.ofNat (nat_lit 4))), (nat_lit 7, (.ofNat (nat_lit 0)))]), (nat_lit 4, nat_lit 0, [(nat_lit 0, (.ofNat (nat_lit 0))), (nat_lit 0, (.ofNat (nat_lit 18)))]), (nat_lit 6, nat_lit 2, [(nat_lit 6, (.ofNat (nat_lit 0))), (nat_lit 0, (.ofNat (nat_lit 0)))]), (nat_lit 8, nat_lit 3, [(nat_lit 4, (.ofNat (nat_lit 0))), (nat_lit 5, (.ofNat (nat_lit 0)))]), (nat_lit 4, nat_lit 0, [(nat_lit 0, (.ofNat (nat_lit 0))), (nat_lit 0, (.ofNat (nat_lit 9)))]), (nat_lit 4, nat_lit 0, [(nat_lit 0, (.ofNat (nat_lit 0))), (nat_lit 0, (.ofNat (nat_lit 18)))]), (nat_lit 6, nat_lit 0, [(nat_lit 3, (.ofNat (nat_lit 0))), (nat_lit 0, (.ofNat (nat_lit 2)))]), (nat_lit 4, nat_lit 0, [(nat_lit 0, (.ofNat (nat_lit 0))), (nat_lit 0, (.ofNat (nat_lit 8)))]), (nat_lit 8, nat_lit 1, []), (nat_lit 6, nat_lit 1, [(nat_lit 1, (.ofNat (nat_lit 0))), (nat_lit 0, (.ofNat (nat_lit 4)))]), (nat_lit 4, nat_lit 0, [(nat_lit 0, (.ofNat (nat_lit 0))), (nat_lit 0, (.ofNat (nat_lit 18)))])],
  [(nat_lit 11, nat_lit 0, [(nat_lit 0, (.ofNat (nat_lit 0)))]), (nat_lit 6, nat_lit 0, [(nat_lit 11, (.ofNat (nat_lit 0))), (nat_lit 0, (.ofNat (nat_lit 0)))]), (nat_lit 8, nat_lit 2, [(nat_lit 0, (.ofNat (nat_lit 1))), (nat_lit 0, (.ofNat (nat_lit 9)))]), (nat_lit 8, nat_lit 1, []), (nat_lit 5, nat_lit 0, [(nat_lit 12, (.ofNat (nat_lit 0))), (nat_lit 8, (.ofNat (nat_lit 0))), (nat_lit 9, (.ofNat (nat_lit 0)))]), (nat_lit 4, nat_lit 0, [(nat_lit 0, (.ofNat (nat_lit 0))), (nat_lit 0, (.ofNat (nat_lit 9)))]), (nat_lit 0, nat_lit 1, [(nat_lit 0, (.ofNat (nat_lit 4))), (nat_lit 7, (.ofNat (nat_lit 0)))]), (nat_lit 4, nat_lit 0, [(nat_lit 0, (.ofNat (nat_lit 0))), (nat_lit 0, (.ofNat (nat_lit 18)))]), (nat_lit 6, nat_lit 2, [(nat_lit 6, (.ofNat (nat_lit 0))), (nat_lit 0, (.ofNat (nat_lit 0)))]), (nat_lit 8, nat_lit 3, [(nat_lit 4, (.ofNat (nat_lit 0))), (nat_lit 5, (.ofNat (nat_lit 0)))]), (nat_lit 4, nat_lit 0, [(nat_lit 0, (.ofNat (nat_lit 0))), (nat_lit 0, (.ofNat (nat_lit 9)))]), (nat_lit 4, nat_lit 0, [(nat_lit 0, (.ofNat (nat_lit 0))), (nat_lit 0, (.ofNat (nat_lit 18)))]), (nat_lit 6, nat_lit 0, [(nat_lit 3, (.ofNat (nat_lit 0))), (nat_lit 0, (.ofNat (nat_lit 2)))]), (nat_lit 4, nat_lit 0, [(nat_lit 0, (.ofNat (nat_lit 0))), (nat_lit 0, (.ofNat (nat_lit 8)))]), (nat_lit 8, nat_lit 1, []), (nat_lit 6, nat_lit 1, [(nat_lit 1, (.ofNat (nat_lit 0))), (nat_lit 0, (.ofNat (nat_lit 4)))]), (nat_lit 4, nat_lit 0, [(nat_lit 0, (.ofNat (nat_lit 0))), (nat_lit 0, (.ofNat (nat_lit 18)))])],
  [(nat_lit 13, nat_lit 0, [(nat_lit 0, (.ofNat (nat_lit 3)))]), (nat_lit 6, nat_lit 3, [(nat_lit 6, (.ofNat (nat_lit 0))), (nat_lit 0, (.ofNat (nat_lit 0)))]), (nat_lit 8, nat_lit 3, [(nat_lit 4, (.ofNat (nat_lit 0))), (nat_lit 5, (.ofNat (nat_lit 0)))]), (nat_lit 4, nat_lit 0, [(nat_lit 0, (.ofNat (nat_lit 0))), (nat_lit 0, (.ofNat (nat_lit 9)))]), (nat_lit 4, nat_lit 0, [(nat_lit 0, (.ofNat (nat_lit 0))), (nat_lit 0, (.ofNat (nat_lit 18)))]), (nat_lit 6, nat_lit 0, [(nat_lit 3, (.ofNat (nat_lit 0))), (nat_lit 0, (.ofNat (nat_lit 2)))]), (nat_lit 4, nat_lit 0, [(nat_lit 0, (.ofNat (nat_lit 0))), (nat_lit 0, (.ofNat (nat_lit 8)))]), (nat_lit 8, nat_lit 1, []), (nat_lit 6, nat_lit 1, [(nat_lit 1, (.ofNat (nat_lit 0))), (nat_lit 0, (.ofNat (nat_lit 4)))]), (nat_lit 4, nat_lit 0, [(nat_lit 0, (.ofNat (nat_lit 0))), (nat_lit 0, (.ofNat (nat_lit 18)))])],
  [(nat_lit 11, nat_lit 0, [(nat_lit 7, (.ofNat (nat_lit 0)))]), (nat_lit 8, nat_lit 0, [(nat_lit 0, (.ofNat (nat_lit 3)))]), (nat_lit 6, nat_lit 3, [(nat_lit 6, (.ofNat (nat_lit 0))), (nat_lit 0, (.ofNat (nat_lit 0)))]), (nat_lit 8, nat_lit 3, [(nat_lit 4, (.ofNat (nat_lit 0))), (nat_lit 5, (.ofNat (nat_lit 0)))]), (nat_lit 4, nat_lit 0, [(nat_lit 0, (.ofNat (nat_lit 0))), (nat_lit 0, (.ofNat (nat_lit 9)))]), (nat_lit 4, nat_lit 0, [(nat_lit 0, (.ofNat (nat_lit 0))), (nat_lit 0, (.ofNat (nat_lit 18)))]), (nat_lit 6, nat_lit 0, [(nat_lit 3, (.ofNat (nat_lit 0))), (nat_lit 0, (.ofNat (nat_lit 2)))]), (nat_lit 4, nat_lit 0, [(nat_lit 0, (.ofNat (nat_lit 0))), (nat_lit 0, (.ofNat (nat_lit 8)))]), (nat_lit 8, nat_lit 1, []), (nat_lit 6, nat_lit 1, [(nat_lit 1, (.ofNat (nat_lit 0))), (nat_lit 0, (.ofNat (nat_lit 4)))]), (nat_lit 4, nat_lit 0, [(nat_lit 0, (.ofNat (nat_lit 0))), (nat_lit 0, (.ofNat (nat_lit 18)))])],
  [(nat_lit 13, nat_lit 0, [(nat_lit 0, (.ofNat (nat_lit 1)))]), (nat_lit 6, nat_lit 1, [(nat_lit 3, (.ofNat (nat_lit 0))), (nat_lit 0, (.ofNat (nat_lit 2)))]), (nat_lit 4, nat_lit 0, [(nat_lit 0, (.ofNat (nat_lit 0))), (nat_lit 0, (.ofNat (nat_lit 8)))]), (nat_lit 8, nat_lit 1, []), (nat_lit 6, nat_lit 1, [(nat_lit 1, (.ofNat (nat_lit 0))), (nat_lit 0, (.ofNat (nat_lit 4)))]), (nat_lit 4, nat_lit 0, [(nat_lit 0, (.ofNat (nat_lit 0))), (nat_lit 0, (.ofNat (nat_lit 18)))])],
  [(nat_lit 11, nat_lit 0, [(nat_lit 4, (.ofNat (nat_lit 0)))]), (nat_lit 8, nat_lit 0, [(nat_lit 0, (.ofNat (nat_lit 1)))]), (nat_lit 6, nat_lit 1, [(nat_lit 3, (.ofNat (nat_lit 0))), (nat_lit 0, (.ofNat (nat_lit 2)))]), (nat_lit 4, nat_lit 0, [(nat_lit 0, (.ofNat (nat_lit 0))), (nat_lit 0, (.ofNat (nat_lit 8)))]), (nat_lit 8, nat_lit 1, []), (nat_lit 6, nat_lit 1, [(nat_lit 1, (.ofNat (nat_lit 0))), (nat_lit 0, (.ofNat (nat_lit 4)))]), (nat_lit 4, nat_lit 0, [(nat_lit 0, (.ofNat (nat_lit 0))), (nat_lit 0, (.ofNat (nat_lit 18)))])],
  [(nat_lit 13, nat_lit 0, [(nat_lit 0, (.ofNat (nat_lit 2)))]), (nat_lit 6, nat_lit 0, [(nat_lit 1, (.ofNat (nat_lit 0))), (nat_lit 0, (.ofNat (nat_lit 4)))]), (nat_lit 4, nat_lit 0, [(nat_lit 0, (.ofNat (nat_lit 0))), (nat_lit 0, (.ofNat (nat_lit 18)))])],
  [(nat_lit 11, nat_lit 0, [(nat_lit 2, (.ofNat (nat_lit 0)))]), (nat_lit 8, nat_lit 0, [(nat_lit 0, (.ofNat (nat_lit 2)))]), (nat_lit 6, nat_lit 0, [(nat_lit 1, (.ofNat (nat_lit 0))), (nat_lit 0, (.ofNat (nat_lit 4)))]), (nat_lit 4, nat_lit 0, [(nat_lit 0, (.ofNat (nat_lit 0))), (nat_lit 0, (.ofNat (nat_lit 18)))])]]
def zFn_guestLine : List (List zK) := []
set_option maxHeartbeats 8000000 in
theorem zn_guestLine_o0 {ro : Nat → List Int32} (η : zE) (hp : sP wl_n zTr zPn_guestLine [] η) (hpp : pPn_guestLine [] η) : ∀ x1 : Int, x1 = η 0 (Int.toNat 18) → zok 0 x1 → (¬ x1 = 4) → ((gC2 wl_n [(nat_lit 0, zPn_wrong, zOn_wrong, zMn_wrong), (nat_lit 1, zPn_token, zOn_token, zMn_token), (nat_lit 2, zPn_number, zOn_number, zMn_number), (nat_lit 3, zPn_find_g, zOn_find_g, zMn_find_g)] pCn_guestLine qCn_guestLine) 1).1 [] η := by
  have hk : ¬ η 0 8 = 0 := hpp.2
  intro x1 e1 r1 c1
  have w0_0_18 : (0 : Int) ≤ η 0 18 ∧ η 0 18 ≤ 4 := wf_ok (a := 18) (b := 18) (z := (0, 4)) hp.1 (by decide +kernel) (Nat.le_refl _) (Nat.le_refl _)
  replace e1 : x1 = η 0 18 := e1
  have w0_0_7 : (0 : Int) ≤ η 0 7 ∧ η 0 7 ≤ 700 := wf_ok (a := 7) (b := 7) (z := (0, 700)) hp.1 (by decide +kernel) (Nat.le_refl _) (Nat.le_refl _)
  have f0_7 : η 0 7 = η 0 7 := rfl
  have w0_0_6 : (0 : Int) ≤ η 0 6 ∧ η 0 6 ≤ 700 := wf_ok (a := 6) (b := 6) (z := (0, 700)) hp.1 (by decide +kernel) (Nat.le_refl _) (Nat.le_refl _)
  have f0_6 : η 0 6 = η 0 6 := rfl
  have w0_0_8 : (0 : Int) ≤ η 0 8 ∧ η 0 8 ≤ 6 := wf_ok (a := 8) (b := 8) (z := (0, 6)) hp.1 (by decide +kernel) (Nat.le_refl _) (Nat.le_refl _)
  have f0_8 : η 0 8 = η 0 8 := rfl
  exact hpp.1
set_option maxHeartbeats 8000000 in
theorem zn_guestLine_o1 {ro : Nat → List Int32} (η : zE) (hp : sP wl_n zTr zPn_guestLine [] η) (hpp : pPn_guestLine [] η) : ∀ x1 : Int, x1 = η 0 (Int.toNat 18) → zok 0 x1 → (¬ x1 = 4) → ∀ (x2 : Int) (η1 : zE), ((gC2 wl_n [(nat_lit 0, zPn_wrong, zOn_wrong, zMn_wrong), (nat_lit 1, zPn_token, zOn_token, zMn_token), (nat_lit 2, zPn_number, zOn_number, zMn_number), (nat_lit 3, zPn_find_g, zOn_find_g, zMn_find_g)] pCn_guestLine qCn_guestLine) 1).2 [] η x2 η1 → ∀ x3 : Int, x3 = η1 0 (Int.toNat 8) → zok 0 x3 → (x3 = 2) → ∀ x4 : Int, x4 = η1 0 (Int.toNat 18) → zok 0 x4 → ∀ x5 : Int, x5 = η1 0 (Int.toNat 9) → zok 0 x5 → ((gC2 wl_n [(nat_lit 0, zPn_wrong, zOn_wrong, zMn_wrong), (nat_lit 1, zPn_token, zOn_token, zMn_token), (nat_lit 2, zPn_number, zOn_number, zMn_number), (nat_lit 3, zPn_find_g, zOn_find_g, zMn_find_g)] pCn_guestLine qCn_guestLine) 3).1 [x4, x5] η1 := by
  have hk : ¬ η 0 8 = 0 := hpp.2
  intro x1 e1 r1 c1 x2 η1 h2 x3 e3 r3 c2 x4 e4 r4 x5 e5 r5
  have k2 : sQ wl_n zTr zOn_token zMn_token [] η x2 η1 ∧ pQn_token [] η x2 η1 := h2
  have w0_0_18 : (0 : Int) ≤ η 0 18 ∧ η 0 18 ≤ 4 := wf_ok (a := 18) (b := 18) (z := (0, 4)) hp.1 (by decide +kernel) (Nat.le_refl _) (Nat.le_refl _)
  replace e1 : x1 = η 0 18 := e1
  have w0_0_7 : (0 : Int) ≤ η 0 7 ∧ η 0 7 ≤ 700 := wf_ok (a := 7) (b := 7) (z := (0, 700)) hp.1 (by decide +kernel) (Nat.le_refl _) (Nat.le_refl _)
  have c0_0_7 : η 0 7 = η 0 7 := rfl
  have w0_0_6 : (0 : Int) ≤ η 0 6 ∧ η 0 6 ≤ 700 := wf_ok (a := 6) (b := 6) (z := (0, 700)) hp.1 (by decide +kernel) (Nat.le_refl _) (Nat.le_refl _)
  have c0_0_6 : η 0 6 = η 0 6 := rfl
  have w0_0_8 : (0 : Int) ≤ η 0 8 ∧ η 0 8 ≤ 6 := wf_ok (a := 8) (b := 8) (z := (0, 6)) hp.1 (by decide +kernel) (Nat.le_refl _) (Nat.le_refl _)
  have c0_0_8 : η 0 8 = η 0 8 := rfl
  have bx2 : (0 : Int) ≤ x2 ∧ x2 ≤ 0 := k2.1.2.1
  have w1_0_7 : (0 : Int) ≤ η1 0 7 ∧ η1 0 7 ≤ 700 := wf_ok (a := 7) (b := 7) (z := (0, 700)) k2.1.1 (by decide +kernel) (Nat.le_refl _) (Nat.le_refl _)
  have d1_0_7 : η1 0 7 = η1 0 7 := rfl
  have v5 : zEq (η1 0 6) (η 0 6) := (k2.1.2.2.2.1 0 6 (by decide +kernel)).trans rfl
  have d1_0_6 : η1 0 6 = η 0 6 := v5
  have w1_0_8 : (0 : Int) ≤ η1 0 8 ∧ η1 0 8 ≤ 6 := wf_ok (a := 8) (b := 8) (z := (0, 6)) k2.1.1 (by decide +kernel) (Nat.le_refl _) (Nat.le_refl _)
  have d1_0_8 : η1 0 8 = η1 0 8 := rfl
  replace e3 : x3 = η1 0 8 := e3
  have v7 : zEq (η1 0 18) (η 0 18) := (k2.1.2.2.2.1 0 18 (by decide +kernel)).trans rfl
  replace e4 : x4 = η 0 18 := e4.trans v7
  replace e5 : x5 = η1 0 9 := e5
  replace r5 : -2147483648 ≤ x5 ∧ x5 ≤ 2147483647 := r5
  have f0_7 : η1 0 7 = η1 0 7 := rfl
  have f0_6 : η1 0 6 = η 0 6 := v5
  have f0_8 : η1 0 8 = η1 0 8 := rfl
  have qt2 : ¬ η 0 8 = 0 → 10 * (η1 0 6 - η1 0 7) + η1 0 8 < 10 * (η 0 6 - η 0 7) + η 0 8 := k2.2.2
  exact k2.2.1
set_option maxHeartbeats 8000000 in
theorem zn_guestLine_o2 {ro : Nat → List Int32} (η : zE) (hp : sP wl_n zTr zPn_guestLine [] η) (hpp : pPn_guestLine [] η) : ∀ x1 : Int, x1 = η 0 (Int.toNat 18) → zok 0 x1 → (¬ x1 = 4) → ∀ (x2 : Int) (η1 : zE), ((gC2 wl_n [(nat_lit 0, zPn_wrong, zOn_wrong, zMn_wrong), (nat_lit 1, zPn_token, zOn_token, zMn_token), (nat_lit 2, zPn_number, zOn_number, zMn_number), (nat_lit 3, zPn_find_g, zOn_find_g, zMn_find_g)] pCn_guestLine qCn_guestLine) 1).2 [] η x2 η1 → ∀ x3 : Int, x3 = η1 0 (Int.toNat 8) → zok 0 x3 → (x3 = 2) → ∀ x4 : Int, x4 = η1 0 (Int.toNat 18) → zok 0 x4 → ∀ x5 : Int, x5 = η1 0 (Int.toNat 9) → zok 0 x5 → ∀ (x6 : Int) (η2 : zE), ((gC2 wl_n [(nat_lit 0, zPn_wrong, zOn_wrong, zMn_wrong), (nat_lit 1, zPn_token, zOn_token, zMn_token), (nat_lit 2, zPn_number, zOn_number, zMn_number), (nat_lit 3, zPn_find_g, zOn_find_g, zMn_find_g)] pCn_guestLine qCn_guestLine) 3).2 [x4, x5] η1 x6 η2 → (x6 < 0) → ∀ x7 : Int, x7 = η2 0 (Int.toNat 18) → zok 0 x7 → ∀ x8 : Int, x8 = zd 0 1 4 x7 → ∀ x9 : Int, x9 = η2 0 (Int.toNat 9) → zok 0 x9 → ∀ η3 : zE, η3 = zup η2 12 (Int.toNat x8) x9 → ((gC2 wl_n [(nat_lit 0, zPn_wrong, zOn_wrong, zMn_wrong), (nat_lit 1, zPn_token, zOn_token, zMn_token), (nat_lit 2, zPn_number, zOn_number, zMn_number), (nat_lit 3, zPn_find_g, zOn_find_g, zMn_find_g)] pCn_guestLine qCn_guestLine) 1).1 [] η3 := by
  intro x1 e1 r1 c1 x2 η1 h2 x3 e3 r3 c2 x4 e4 r4 x5 e5 r5 x6 η2 h6 c3 x7 e7 r7 x8 e8 x9 e9 r9 η3 eη3
  have k2 : sQ wl_n zTr zOn_token zMn_token [] η x2 η1 ∧ pQn_token [] η x2 η1 := h2
  have k6 : sQ wl_n zTr zOn_find_g zMn_find_g [x4, x5] η1 x6 η2 ∧ pQn_find_g [x4, x5] η1 x6 η2 := h6
  have g1 : G_n η3 := by rw [eη3]; exact zGk_up gk_n k6.2 (by decide +kernel)
  exact g1
set_option maxHeartbeats 8000000 in
theorem zn_guestLine_o3 {ro : Nat → List Int32} (η : zE) (hp : sP wl_n zTr zPn_guestLine [] η) (hpp : pPn_guestLine [] η) : ∀ x1 : Int, x1 = η 0 (Int.toNat 18) → zok 0 x1 → (¬ x1 = 4) → ∀ (x2 : Int) (η1 : zE), ((gC2 wl_n [(nat_lit 0, zPn_wrong, zOn_wrong, zMn_wrong), (nat_lit 1, zPn_token, zOn_token, zMn_token), (nat_lit 2, zPn_number, zOn_number, zMn_number), (nat_lit 3, zPn_find_g, zOn_find_g, zMn_find_g)] pCn_guestLine qCn_guestLine) 1).2 [] η x2 η1 → ∀ x3 : Int, x3 = η1 0 (Int.toNat 8) → zok 0 x3 → (x3 = 2) → ∀ x4 : Int, x4 = η1 0 (Int.toNat 18) → zok 0 x4 → ∀ x5 : Int, x5 = η1 0 (Int.toNat 9) → zok 0 x5 → ∀ (x6 : Int) (η2 : zE), ((gC2 wl_n [(nat_lit 0, zPn_wrong, zOn_wrong, zMn_wrong), (nat_lit 1, zPn_token, zOn_token, zMn_token), (nat_lit 2, zPn_number, zOn_number, zMn_number), (nat_lit 3, zPn_find_g, zOn_find_g, zMn_find_g)] pCn_guestLine qCn_guestLine) 3).2 [x4, x5] η1 x6 η2 → (x6 < 0) → ∀ x7 : Int, x7 = η2 0 (Int.toNat 18) → zok 0 x7 → ∀ x8 : Int, x8 = zd 0 1 4 x7 → ∀ x9 : Int, x9 = η2 0 (Int.toNat 9) → zok 0 x9 → ∀ η3 : zE, η3 = zup η2 12 (Int.toNat x8) x9 → ∀ (x10 : Int) (η4 : zE), ((gC2 wl_n [(nat_lit 0, zPn_wrong, zOn_wrong, zMn_wrong), (nat_lit 1, zPn_token, zOn_token, zMn_token), (nat_lit 2, zPn_number, zOn_number, zMn_number), (nat_lit 3, zPn_find_g, zOn_find_g, zMn_find_g)] pCn_guestLine qCn_guestLine) 1).2 [] η3 x10 η4 → ((gC2 wl_n [(nat_lit 0, zPn_wrong, zOn_wrong, zMn_wrong), (nat_lit 1, zPn_token, zOn_token, zMn_token), (nat_lit 2, zPn_number, zOn_number, zMn_number), (nat_lit 3, zPn_find_g, zOn_find_g, zMn_find_g)] pCn_guestLine qCn_guestLine) 2).1 [1, 9] η4 := by
  have hk : ¬ η 0 8 = 0 := hpp.2
  intro x1 e1 r1 c1 x2 η1 h2 x3 e3 r3 c2 x4 e4 r4 x5 e5 r5 x6 η2 h6 c3 x7 e7 r7 x8 e8 x9 e9 r9 η3 eη3 x10 η4 h10
  replace e8 := zEq_i e8
  have k2 : sQ wl_n zTr zOn_token zMn_token [] η x2 η1 ∧ pQn_token [] η x2 η1 := h2
  have k6 : sQ wl_n zTr zOn_find_g zMn_find_g [x4, x5] η1 x6 η2 ∧ pQn_find_g [x4, x5] η1 x6 η2 := h6
  have k10 : sQ wl_n zTr zOn_token zMn_token [] η3 x10 η4 ∧ pQn_token [] η3 x10 η4 := h10
  have w0_0_18 : (0 : Int) ≤ η 0 18 ∧ η 0 18 ≤ 4 := wf_ok (a := 18) (b := 18) (z := (0, 4)) hp.1 (by decide +kernel) (Nat.le_refl _) (Nat.le_refl _)
  replace e1 : x1 = η 0 18 := e1
  have w0_0_7 : (0 : Int) ≤ η 0 7 ∧ η 0 7 ≤ 700 := wf_ok (a := 7) (b := 7) (z := (0, 700)) hp.1 (by decide +kernel) (Nat.le_refl _) (Nat.le_refl _)
  have c0_0_7 : η 0 7 = η 0 7 := rfl
  have w0_0_6 : (0 : Int) ≤ η 0 6 ∧ η 0 6 ≤ 700 := wf_ok (a := 6) (b := 6) (z := (0, 700)) hp.1 (by decide +kernel) (Nat.le_refl _) (Nat.le_refl _)
  have c0_0_6 : η 0 6 = η 0 6 := rfl
  have w0_0_8 : (0 : Int) ≤ η 0 8 ∧ η 0 8 ≤ 6 := wf_ok (a := 8) (b := 8) (z := (0, 6)) hp.1 (by decide +kernel) (Nat.le_refl _) (Nat.le_refl _)
  have c0_0_8 : η 0 8 = η 0 8 := rfl
  have bx2 : (0 : Int) ≤ x2 ∧ x2 ≤ 0 := k2.1.2.1
  have w1_0_7 : (0 : Int) ≤ η1 0 7 ∧ η1 0 7 ≤ 700 := wf_ok (a := 7) (b := 7) (z := (0, 700)) k2.1.1 (by decide +kernel) (Nat.le_refl _) (Nat.le_refl _)
  have d1_0_7 : η1 0 7 = η1 0 7 := rfl
  have v5 : zEq (η1 0 6) (η 0 6) := (k2.1.2.2.2.1 0 6 (by decide +kernel)).trans rfl
  have d1_0_6 : η1 0 6 = η 0 6 := v5
  have w1_0_8 : (0 : Int) ≤ η1 0 8 ∧ η1 0 8 ≤ 6 := wf_ok (a := 8) (b := 8) (z := (0, 6)) k2.1.1 (by decide +kernel) (Nat.le_refl _) (Nat.le_refl _)
  have d1_0_8 : η1 0 8 = η1 0 8 := rfl
  replace e3 : x3 = η1 0 8 := e3
  have v7 : zEq (η1 0 18) (η 0 18) := (k2.1.2.2.2.1 0 18 (by decide +kernel)).trans rfl
  replace e4 : x4 = η 0 18 := e4.trans v7
  replace e5 : x5 = η1 0 9 := e5
  replace r5 : -2147483648 ≤ x5 ∧ x5 ≤ 2147483647 := r5
  have c1_0_7 : η1 0 7 = η1 0 7 := rfl
  have c1_0_6 : η1 0 6 = η 0 6 := v5
  have c1_0_8 : η1 0 8 = η1 0 8 := rfl
  have bx6 : ((-1) : Int) ≤ x6 ∧ x6 ≤ 3 := k6.1.2.1
  have v9 : zEq (η2 0 7) (η1 0 7) := (k6.1.2.2.2.1 0 7 (by decide +kernel)).trans rfl
  have d2_0_7 : η2 0 7 = η1 0 7 := v9
  have v10 : zEq (η2 0 6) (η 0 6) := (k6.1.2.2.2.1 0 6 (by decide +kernel)).trans v5
  have d2_0_6 : η2 0 6 = η 0 6 := v10
  have v11 : zEq (η2 0 8) (η1 0 8) := (k6.1.2.2.2.1 0 8 (by decide +kernel)).trans rfl
  have d2_0_8 : η2 0 8 = η1 0 8 := v11
  have v12 : zEq (η2 0 18) (η 0 18) := (k6.1.2.2.2.1 0 18 (by decide +kernel)).trans v7
  replace e7 : x7 = η 0 18 := e7.trans v12
  first
  | replace e8 : x8 = 4 + x7 := zd_a2 (zEq_o e8) (by clear e8; exact ⟨by omega, by omega⟩)
  | clear e8
  have v13 : zEq (η2 0 9) (η1 0 9) := (k6.1.2.2.2.1 0 9 (by decide +kernel)).trans rfl
  replace e9 : x9 = η1 0 9 := e9.trans v13
  replace r9 : -2147483648 ≤ x9 ∧ x9 ≤ 2147483647 := r9
  have v14 : zEq (η3 0 7) (η1 0 7) := by rw [eη3]; exact (zup_ne (fun e _ => absurd e (by decide))).trans v9
  have c3_0_7 : η3 0 7 = η1 0 7 := v14
  have v15 : zEq (η3 0 6) (η 0 6) := by rw [eη3]; exact (zup_ne (fun e _ => absurd e (by decide))).trans v10
  have c3_0_6 : η3 0 6 = η 0 6 := v15
  have v16 : zEq (η3 0 8) (η1 0 8) := by rw [eη3]; exact (zup_ne (fun e _ => absurd e (by decide))).trans v11
  have c3_0_8 : η3 0 8 = η1 0 8 := v16
  have bx10 : (0 : Int) ≤ x10 ∧ x10 ≤ 0 := k10.1.2.1
  have w4_0_7 : (0 : Int) ≤ η4 0 7 ∧ η4 0 7 ≤ 700 := wf_ok (a := 7) (b := 7) (z := (0, 700)) k10.1.1 (by decide +kernel) (Nat.le_refl _) (Nat.le_refl _)
  have d4_0_7 : η4 0 7 = η4 0 7 := rfl
  have v18 : zEq (η4 0 6) (η 0 6) := (k10.1.2.2.2.1 0 6 (by decide +kernel)).trans v15
  have d4_0_6 : η4 0 6 = η 0 6 := v18
  have w4_0_8 : (0 : Int) ≤ η4 0 8 ∧ η4 0 8 ≤ 6 := wf_ok (a := 8) (b := 8) (z := (0, 6)) k10.1.1 (by decide +kernel) (Nat.le_refl _) (Nat.le_refl _)
  have d4_0_8 : η4 0 8 = η4 0 8 := rfl
  have f0_7 : η4 0 7 = η4 0 7 := rfl
  have f0_6 : η4 0 6 = η 0 6 := v18
  have f0_8 : η4 0 8 = η4 0 8 := rfl
  have qt2 : ¬ η 0 8 = 0 → 10 * (η1 0 6 - η1 0 7) + η1 0 8 < 10 * (η 0 6 - η 0 7) + η 0 8 := k2.2.2
  have g3 : G_n η3 := by rw [eη3]; exact zGk_up gk_n k6.2 (by decide +kernel)
  have qt10 : ¬ η3 0 8 = 0 → 10 * (η4 0 6 - η4 0 7) + η4 0 8 < 10 * (η3 0 6 - η3 0 7) + η3 0 8 := k10.2.2
  exact k10.2.1
set_option maxHeartbeats 8000000 in
theorem zn_guestLine_o4 {ro : Nat → List Int32} (η : zE) (hp : sP wl_n zTr zPn_guestLine [] η) (hpp : pPn_guestLine [] η) : ∀ x1 : Int, x1 = η 0 (Int.toNat 18) → zok 0 x1 → (¬ x1 = 4) → ∀ (x2 : Int) (η1 : zE), ((gC2 wl_n [(nat_lit 0, zPn_wrong, zOn_wrong, zMn_wrong), (nat_lit 1, zPn_token, zOn_token, zMn_token), (nat_lit 2, zPn_number, zOn_number, zMn_number), (nat_lit 3, zPn_find_g, zOn_find_g, zMn_find_g)] pCn_guestLine qCn_guestLine) 1).2 [] η x2 η1 → ∀ x3 : Int, x3 = η1 0 (Int.toNat 8) → zok 0 x3 → (x3 = 2) → ∀ x4 : Int, x4 = η1 0 (Int.toNat 18) → zok 0 x4 → ∀ x5 : Int, x5 = η1 0 (Int.toNat 9) → zok 0 x5 → ∀ (x6 : Int) (η2 : zE), ((gC2 wl_n [(nat_lit 0, zPn_wrong, zOn_wrong, zMn_wrong), (nat_lit 1, zPn_token, zOn_token, zMn_token), (nat_lit 2, zPn_number, zOn_number, zMn_number), (nat_lit 3, zPn_find_g, zOn_find_g, zMn_find_g)] pCn_guestLine qCn_guestLine) 3).2 [x4, x5] η1 x6 η2 → (x6 < 0) → ∀ x7 : Int, x7 = η2 0 (Int.toNat 18) → zok 0 x7 → ∀ x8 : Int, x8 = zd 0 1 4 x7 → ∀ x9 : Int, x9 = η2 0 (Int.toNat 9) → zok 0 x9 → ∀ η3 : zE, η3 = zup η2 12 (Int.toNat x8) x9 → ∀ (x10 : Int) (η4 : zE), ((gC2 wl_n [(nat_lit 0, zPn_wrong, zOn_wrong, zMn_wrong), (nat_lit 1, zPn_token, zOn_token, zMn_token), (nat_lit 2, zPn_number, zOn_number, zMn_number), (nat_lit 3, zPn_find_g, zOn_find_g, zMn_find_g)] pCn_guestLine qCn_guestLine) 1).2 [] η3 x10 η4 → ∀ (x11 : Int) (η5 : zE), ((gC2 wl_n [(nat_lit 0, zPn_wrong, zOn_wrong, zMn_wrong), (nat_lit 1, zPn_token, zOn_token, zMn_token), (nat_lit 2, zPn_number, zOn_number, zMn_number), (nat_lit 3, zPn_find_g, zOn_find_g, zMn_find_g)] pCn_guestLine qCn_guestLine) 2).2 [1, 9] η4 x11 η5 → (¬ x11 = 0) → ∀ x12 : Int, x12 = η5 0 (Int.toNat 11) → zok 0 x12 → ∀ η6 : zE, η6 = zup η5 13 (Int.toNat x8) x12 → ((gC2 wl_n [(nat_lit 0, zPn_wrong, zOn_wrong, zMn_wrong), (nat_lit 1, zPn_token, zOn_token, zMn_token), (nat_lit 2, zPn_number, zOn_number, zMn_number), (nat_lit 3, zPn_find_g, zOn_find_g, zMn_find_g)] pCn_guestLine qCn_guestLine) 2).1 [0, 9] η6 := by
  have hk : ¬ η 0 8 = 0 := hpp.2
  intro x1 e1 r1 c1 x2 η1 h2 x3 e3 r3 c2 x4 e4 r4 x5 e5 r5 x6 η2 h6 c3 x7 e7 r7 x8 e8 x9 e9 r9 η3 eη3 x10 η4 h10 x11 η5 h11 c4 x12 e12 r12 η6 eη6
  replace e8 := zEq_i e8
  have k2 : sQ wl_n zTr zOn_token zMn_token [] η x2 η1 ∧ pQn_token [] η x2 η1 := h2
  have k6 : sQ wl_n zTr zOn_find_g zMn_find_g [x4, x5] η1 x6 η2 ∧ pQn_find_g [x4, x5] η1 x6 η2 := h6
  have k10 : sQ wl_n zTr zOn_token zMn_token [] η3 x10 η4 ∧ pQn_token [] η3 x10 η4 := h10
  have k11 : sQ wl_n zTr zOn_number zMn_number [1, 9] η4 x11 η5 ∧ pQn_number [1, 9] η4 x11 η5 := h11
  have w0_0_18 : (0 : Int) ≤ η 0 18 ∧ η 0 18 ≤ 4 := wf_ok (a := 18) (b := 18) (z := (0, 4)) hp.1 (by decide +kernel) (Nat.le_refl _) (Nat.le_refl _)
  replace e1 : x1 = η 0 18 := e1
  have w0_0_7 : (0 : Int) ≤ η 0 7 ∧ η 0 7 ≤ 700 := wf_ok (a := 7) (b := 7) (z := (0, 700)) hp.1 (by decide +kernel) (Nat.le_refl _) (Nat.le_refl _)
  have c0_0_7 : η 0 7 = η 0 7 := rfl
  have w0_0_6 : (0 : Int) ≤ η 0 6 ∧ η 0 6 ≤ 700 := wf_ok (a := 6) (b := 6) (z := (0, 700)) hp.1 (by decide +kernel) (Nat.le_refl _) (Nat.le_refl _)
  have c0_0_6 : η 0 6 = η 0 6 := rfl
  have w0_0_8 : (0 : Int) ≤ η 0 8 ∧ η 0 8 ≤ 6 := wf_ok (a := 8) (b := 8) (z := (0, 6)) hp.1 (by decide +kernel) (Nat.le_refl _) (Nat.le_refl _)
  have c0_0_8 : η 0 8 = η 0 8 := rfl
  have bx2 : (0 : Int) ≤ x2 ∧ x2 ≤ 0 := k2.1.2.1
  have w1_0_7 : (0 : Int) ≤ η1 0 7 ∧ η1 0 7 ≤ 700 := wf_ok (a := 7) (b := 7) (z := (0, 700)) k2.1.1 (by decide +kernel) (Nat.le_refl _) (Nat.le_refl _)
  have d1_0_7 : η1 0 7 = η1 0 7 := rfl
  have v5 : zEq (η1 0 6) (η 0 6) := (k2.1.2.2.2.1 0 6 (by decide +kernel)).trans rfl
  have d1_0_6 : η1 0 6 = η 0 6 := v5
  have w1_0_8 : (0 : Int) ≤ η1 0 8 ∧ η1 0 8 ≤ 6 := wf_ok (a := 8) (b := 8) (z := (0, 6)) k2.1.1 (by decide +kernel) (Nat.le_refl _) (Nat.le_refl _)
  have d1_0_8 : η1 0 8 = η1 0 8 := rfl
  replace e3 : x3 = η1 0 8 := e3
  have v7 : zEq (η1 0 18) (η 0 18) := (k2.1.2.2.2.1 0 18 (by decide +kernel)).trans rfl
  replace e4 : x4 = η 0 18 := e4.trans v7
  replace e5 : x5 = η1 0 9 := e5
  replace r5 : -2147483648 ≤ x5 ∧ x5 ≤ 2147483647 := r5
  have c1_0_7 : η1 0 7 = η1 0 7 := rfl
  have c1_0_6 : η1 0 6 = η 0 6 := v5
  have c1_0_8 : η1 0 8 = η1 0 8 := rfl
  have bx6 : ((-1) : Int) ≤ x6 ∧ x6 ≤ 3 := k6.1.2.1
  have v9 : zEq (η2 0 7) (η1 0 7) := (k6.1.2.2.2.1 0 7 (by decide +kernel)).trans rfl
  have d2_0_7 : η2 0 7 = η1 0 7 := v9
  have v10 : zEq (η2 0 6) (η 0 6) := (k6.1.2.2.2.1 0 6 (by decide +kernel)).trans v5
  have d2_0_6 : η2 0 6 = η 0 6 := v10
  have v11 : zEq (η2 0 8) (η1 0 8) := (k6.1.2.2.2.1 0 8 (by decide +kernel)).trans rfl
  have d2_0_8 : η2 0 8 = η1 0 8 := v11
  have v12 : zEq (η2 0 18) (η 0 18) := (k6.1.2.2.2.1 0 18 (by decide +kernel)).trans v7
  replace e7 : x7 = η 0 18 := e7.trans v12
  first
  | replace e8 : x8 = 4 + x7 := zd_a2 (zEq_o e8) (by clear e8; exact ⟨by omega, by omega⟩)
  | clear e8
  have v13 : zEq (η2 0 9) (η1 0 9) := (k6.1.2.2.2.1 0 9 (by decide +kernel)).trans rfl
  replace e9 : x9 = η1 0 9 := e9.trans v13
  replace r9 : -2147483648 ≤ x9 ∧ x9 ≤ 2147483647 := r9
  have v14 : zEq (η3 0 7) (η1 0 7) := by rw [eη3]; exact (zup_ne (fun e _ => absurd e (by decide))).trans v9
  have c3_0_7 : η3 0 7 = η1 0 7 := v14
  have v15 : zEq (η3 0 6) (η 0 6) := by rw [eη3]; exact (zup_ne (fun e _ => absurd e (by decide))).trans v10
  have c3_0_6 : η3 0 6 = η 0 6 := v15
  have v16 : zEq (η3 0 8) (η1 0 8) := by rw [eη3]; exact (zup_ne (fun e _ => absurd e (by decide))).trans v11
  have c3_0_8 : η3 0 8 = η1 0 8 := v16
  have bx10 : (0 : Int) ≤ x10 ∧ x10 ≤ 0 := k10.1.2.1
  have w4_0_7 : (0 : Int) ≤ η4 0 7 ∧ η4 0 7 ≤ 700 := wf_ok (a := 7) (b := 7) (z := (0, 700)) k10.1.1 (by decide +kernel) (Nat.le_refl _) (Nat.le_refl _)
  have d4_0_7 : η4 0 7 = η4 0 7 := rfl
  have v18 : zEq (η4 0 6) (η 0 6) := (k10.1.2.2.2.1 0 6 (by decide +kernel)).trans v15
  have d4_0_6 : η4 0 6 = η 0 6 := v18
  have w4_0_8 : (0 : Int) ≤ η4 0 8 ∧ η4 0 8 ≤ 6 := wf_ok (a := 8) (b := 8) (z := (0, 6)) k10.1.1 (by decide +kernel) (Nat.le_refl _) (Nat.le_refl _)
  have d4_0_8 : η4 0 8 = η4 0 8 := rfl
  have c4_0_7 : η4 0 7 = η4 0 7 := rfl
  have c4_0_6 : η4 0 6 = η 0 6 := v18
  have c4_0_8 : η4 0 8 = η4 0 8 := rfl
  have bx11 : (0 : Int) ≤ x11 ∧ x11 ≤ 1 := k11.1.2.1
  have w5_0_7 : (0 : Int) ≤ η5 0 7 ∧ η5 0 7 ≤ 700 := wf_ok (a := 7) (b := 7) (z := (0, 700)) k11.1.1 (by decide +kernel) (Nat.le_refl _) (Nat.le_refl _)
  have d5_0_7 : η5 0 7 = η5 0 7 := rfl
  have v21 : zEq (η5 0 6) (η 0 6) := (k11.1.2.2.2.1 0 6 (by decide +kernel)).trans v18
  have d5_0_6 : η5 0 6 = η 0 6 := v21
  have w5_0_8 : (0 : Int) ≤ η5 0 8 ∧ η5 0 8 ≤ 6 := wf_ok (a := 8) (b := 8) (z := (0, 6)) k11.1.1 (by decide +kernel) (Nat.le_refl _) (Nat.le_refl _)
  have d5_0_8 : η5 0 8 = η5 0 8 := rfl
  replace e12 : x12 = η5 0 11 := e12
  replace r12 : -2147483648 ≤ x12 ∧ x12 ≤ 2147483647 := r12
  have v24 : zEq (η6 0 7) (η5 0 7) := by rw [eη6]; exact (zup_ne (fun e _ => absurd e (by decide))).trans rfl
  have f0_7 : η6 0 7 = η5 0 7 := v24
  have v25 : zEq (η6 0 6) (η 0 6) := by rw [eη6]; exact (zup_ne (fun e _ => absurd e (by decide))).trans v21
  have f0_6 : η6 0 6 = η 0 6 := v25
  have v26 : zEq (η6 0 8) (η5 0 8) := by rw [eη6]; exact (zup_ne (fun e _ => absurd e (by decide))).trans rfl
  have f0_8 : η6 0 8 = η5 0 8 := v26
  have qt2 : ¬ η 0 8 = 0 → 10 * (η1 0 6 - η1 0 7) + η1 0 8 < 10 * (η 0 6 - η 0 7) + η 0 8 := k2.2.2
  have g3 : G_n η3 := by rw [eη3]; exact zGk_up gk_n k6.2 (by decide +kernel)
  have qt10 : ¬ η3 0 8 = 0 → 10 * (η4 0 6 - η4 0 7) + η4 0 8 < 10 * (η3 0 6 - η3 0 7) + η3 0 8 := k10.2.2
  have qn11 : ¬ x11 = 0 → 10 * (η5 0 6 - η5 0 7) + η5 0 8 < 10 * (η4 0 6 - η4 0 7) + η4 0 8 := k11.2.2
  have g6 : G_n η6 := by rw [eη6]; exact zGk_up gk_n k11.2.1 (by decide +kernel)
  exact g6
set_option maxHeartbeats 8000000 in
theorem zn_guestLine_o5 {ro : Nat → List Int32} (η : zE) (hp : sP wl_n zTr zPn_guestLine [] η) (hpp : pPn_guestLine [] η) : ∀ x1 : Int, x1 = η 0 (Int.toNat 18) → zok 0 x1 → (¬ x1 = 4) → ∀ (x2 : Int) (η1 : zE), ((gC2 wl_n [(nat_lit 0, zPn_wrong, zOn_wrong, zMn_wrong), (nat_lit 1, zPn_token, zOn_token, zMn_token), (nat_lit 2, zPn_number, zOn_number, zMn_number), (nat_lit 3, zPn_find_g, zOn_find_g, zMn_find_g)] pCn_guestLine qCn_guestLine) 1).2 [] η x2 η1 → ∀ x3 : Int, x3 = η1 0 (Int.toNat 8) → zok 0 x3 → (x3 = 2) → ∀ x4 : Int, x4 = η1 0 (Int.toNat 18) → zok 0 x4 → ∀ x5 : Int, x5 = η1 0 (Int.toNat 9) → zok 0 x5 → ∀ (x6 : Int) (η2 : zE), ((gC2 wl_n [(nat_lit 0, zPn_wrong, zOn_wrong, zMn_wrong), (nat_lit 1, zPn_token, zOn_token, zMn_token), (nat_lit 2, zPn_number, zOn_number, zMn_number), (nat_lit 3, zPn_find_g, zOn_find_g, zMn_find_g)] pCn_guestLine qCn_guestLine) 3).2 [x4, x5] η1 x6 η2 → (x6 < 0) → ∀ x7 : Int, x7 = η2 0 (Int.toNat 18) → zok 0 x7 → ∀ x8 : Int, x8 = zd 0 1 4 x7 → ∀ x9 : Int, x9 = η2 0 (Int.toNat 9) → zok 0 x9 → ∀ η3 : zE, η3 = zup η2 12 (Int.toNat x8) x9 → ∀ (x10 : Int) (η4 : zE), ((gC2 wl_n [(nat_lit 0, zPn_wrong, zOn_wrong, zMn_wrong), (nat_lit 1, zPn_token, zOn_token, zMn_token), (nat_lit 2, zPn_number, zOn_number, zMn_number), (nat_lit 3, zPn_find_g, zOn_find_g, zMn_find_g)] pCn_guestLine qCn_guestLine) 1).2 [] η3 x10 η4 → ∀ (x11 : Int) (η5 : zE), ((gC2 wl_n [(nat_lit 0, zPn_wrong, zOn_wrong, zMn_wrong), (nat_lit 1, zPn_token, zOn_token, zMn_token), (nat_lit 2, zPn_number, zOn_number, zMn_number), (nat_lit 3, zPn_find_g, zOn_find_g, zMn_find_g)] pCn_guestLine qCn_guestLine) 2).2 [1, 9] η4 x11 η5 → (¬ x11 = 0) → ∀ x12 : Int, x12 = η5 0 (Int.toNat 11) → zok 0 x12 → ∀ η6 : zE, η6 = zup η5 13 (Int.toNat x8) x12 → ∀ (x13 : Int) (η7 : zE), ((gC2 wl_n [(nat_lit 0, zPn_wrong, zOn_wrong, zMn_wrong), (nat_lit 1, zPn_token, zOn_token, zMn_token), (nat_lit 2, zPn_number, zOn_number, zMn_number), (nat_lit 3, zPn_find_g, zOn_find_g, zMn_find_g)] pCn_guestLine qCn_guestLine) 2).2 [0, 9] η6 x13 η7 → (¬ x13 = 0) → ∀ x14 : Int, x14 = η7 0 (Int.toNat 11) → zok 0 x14 → ∀ η8 : zE, η8 = zup η7 14 (Int.toNat x8) x14 → ((gC2 wl_n [(nat_lit 0, zPn_wrong, zOn_wrong, zMn_wrong), (nat_lit 1, zPn_token, zOn_token, zMn_token), (nat_lit 2, zPn_number, zOn_number, zMn_number), (nat_lit 3, zPn_find_g, zOn_find_g, zMn_find_g)] pCn_guestLine qCn_guestLine) 2).1 [0, 99] η8 := by
  have hk : ¬ η 0 8 = 0 := hpp.2
  intro x1 e1 r1 c1 x2 η1 h2 x3 e3 r3 c2 x4 e4 r4 x5 e5 r5 x6 η2 h6 c3 x7 e7 r7 x8 e8 x9 e9 r9 η3 eη3 x10 η4 h10 x11 η5 h11 c4 x12 e12 r12 η6 eη6 x13 η7 h13 c5 x14 e14 r14 η8 eη8
  replace e8 := zEq_i e8
  have k2 : sQ wl_n zTr zOn_token zMn_token [] η x2 η1 ∧ pQn_token [] η x2 η1 := h2
  have k6 : sQ wl_n zTr zOn_find_g zMn_find_g [x4, x5] η1 x6 η2 ∧ pQn_find_g [x4, x5] η1 x6 η2 := h6
  have k10 : sQ wl_n zTr zOn_token zMn_token [] η3 x10 η4 ∧ pQn_token [] η3 x10 η4 := h10
  have k11 : sQ wl_n zTr zOn_number zMn_number [1, 9] η4 x11 η5 ∧ pQn_number [1, 9] η4 x11 η5 := h11
  have k13 : sQ wl_n zTr zOn_number zMn_number [0, 9] η6 x13 η7 ∧ pQn_number [0, 9] η6 x13 η7 := h13
  have w0_0_18 : (0 : Int) ≤ η 0 18 ∧ η 0 18 ≤ 4 := wf_ok (a := 18) (b := 18) (z := (0, 4)) hp.1 (by decide +kernel) (Nat.le_refl _) (Nat.le_refl _)
  replace e1 : x1 = η 0 18 := e1
  have w0_0_7 : (0 : Int) ≤ η 0 7 ∧ η 0 7 ≤ 700 := wf_ok (a := 7) (b := 7) (z := (0, 700)) hp.1 (by decide +kernel) (Nat.le_refl _) (Nat.le_refl _)
  have c0_0_7 : η 0 7 = η 0 7 := rfl
  have w0_0_6 : (0 : Int) ≤ η 0 6 ∧ η 0 6 ≤ 700 := wf_ok (a := 6) (b := 6) (z := (0, 700)) hp.1 (by decide +kernel) (Nat.le_refl _) (Nat.le_refl _)
  have c0_0_6 : η 0 6 = η 0 6 := rfl
  have w0_0_8 : (0 : Int) ≤ η 0 8 ∧ η 0 8 ≤ 6 := wf_ok (a := 8) (b := 8) (z := (0, 6)) hp.1 (by decide +kernel) (Nat.le_refl _) (Nat.le_refl _)
  have c0_0_8 : η 0 8 = η 0 8 := rfl
  have bx2 : (0 : Int) ≤ x2 ∧ x2 ≤ 0 := k2.1.2.1
  have w1_0_7 : (0 : Int) ≤ η1 0 7 ∧ η1 0 7 ≤ 700 := wf_ok (a := 7) (b := 7) (z := (0, 700)) k2.1.1 (by decide +kernel) (Nat.le_refl _) (Nat.le_refl _)
  have d1_0_7 : η1 0 7 = η1 0 7 := rfl
  have v5 : zEq (η1 0 6) (η 0 6) := (k2.1.2.2.2.1 0 6 (by decide +kernel)).trans rfl
  have d1_0_6 : η1 0 6 = η 0 6 := v5
  have w1_0_8 : (0 : Int) ≤ η1 0 8 ∧ η1 0 8 ≤ 6 := wf_ok (a := 8) (b := 8) (z := (0, 6)) k2.1.1 (by decide +kernel) (Nat.le_refl _) (Nat.le_refl _)
  have d1_0_8 : η1 0 8 = η1 0 8 := rfl
  replace e3 : x3 = η1 0 8 := e3
  have v7 : zEq (η1 0 18) (η 0 18) := (k2.1.2.2.2.1 0 18 (by decide +kernel)).trans rfl
  replace e4 : x4 = η 0 18 := e4.trans v7
  replace e5 : x5 = η1 0 9 := e5
  replace r5 : -2147483648 ≤ x5 ∧ x5 ≤ 2147483647 := r5
  have c1_0_7 : η1 0 7 = η1 0 7 := rfl
  have c1_0_6 : η1 0 6 = η 0 6 := v5
  have c1_0_8 : η1 0 8 = η1 0 8 := rfl
  have bx6 : ((-1) : Int) ≤ x6 ∧ x6 ≤ 3 := k6.1.2.1
  have v9 : zEq (η2 0 7) (η1 0 7) := (k6.1.2.2.2.1 0 7 (by decide +kernel)).trans rfl
  have d2_0_7 : η2 0 7 = η1 0 7 := v9
  have v10 : zEq (η2 0 6) (η 0 6) := (k6.1.2.2.2.1 0 6 (by decide +kernel)).trans v5
  have d2_0_6 : η2 0 6 = η 0 6 := v10
  have v11 : zEq (η2 0 8) (η1 0 8) := (k6.1.2.2.2.1 0 8 (by decide +kernel)).trans rfl
  have d2_0_8 : η2 0 8 = η1 0 8 := v11
  have v12 : zEq (η2 0 18) (η 0 18) := (k6.1.2.2.2.1 0 18 (by decide +kernel)).trans v7
  replace e7 : x7 = η 0 18 := e7.trans v12
  first
  | replace e8 : x8 = 4 + x7 := zd_a2 (zEq_o e8) (by clear e8; exact ⟨by omega, by omega⟩)
  | clear e8
  have v13 : zEq (η2 0 9) (η1 0 9) := (k6.1.2.2.2.1 0 9 (by decide +kernel)).trans rfl
  replace e9 : x9 = η1 0 9 := e9.trans v13
  replace r9 : -2147483648 ≤ x9 ∧ x9 ≤ 2147483647 := r9
  have v14 : zEq (η3 0 7) (η1 0 7) := by rw [eη3]; exact (zup_ne (fun e _ => absurd e (by decide))).trans v9
  have c3_0_7 : η3 0 7 = η1 0 7 := v14
  have v15 : zEq (η3 0 6) (η 0 6) := by rw [eη3]; exact (zup_ne (fun e _ => absurd e (by decide))).trans v10
  have c3_0_6 : η3 0 6 = η 0 6 := v15
  have v16 : zEq (η3 0 8) (η1 0 8) := by rw [eη3]; exact (zup_ne (fun e _ => absurd e (by decide))).trans v11
  have c3_0_8 : η3 0 8 = η1 0 8 := v16
  have bx10 : (0 : Int) ≤ x10 ∧ x10 ≤ 0 := k10.1.2.1
  have w4_0_7 : (0 : Int) ≤ η4 0 7 ∧ η4 0 7 ≤ 700 := wf_ok (a := 7) (b := 7) (z := (0, 700)) k10.1.1 (by decide +kernel) (Nat.le_refl _) (Nat.le_refl _)
  have d4_0_7 : η4 0 7 = η4 0 7 := rfl
  have v18 : zEq (η4 0 6) (η 0 6) := (k10.1.2.2.2.1 0 6 (by decide +kernel)).trans v15
  have d4_0_6 : η4 0 6 = η 0 6 := v18
  have w4_0_8 : (0 : Int) ≤ η4 0 8 ∧ η4 0 8 ≤ 6 := wf_ok (a := 8) (b := 8) (z := (0, 6)) k10.1.1 (by decide +kernel) (Nat.le_refl _) (Nat.le_refl _)
  have d4_0_8 : η4 0 8 = η4 0 8 := rfl
  have c4_0_7 : η4 0 7 = η4 0 7 := rfl
  have c4_0_6 : η4 0 6 = η 0 6 := v18
  have c4_0_8 : η4 0 8 = η4 0 8 := rfl
  have bx11 : (0 : Int) ≤ x11 ∧ x11 ≤ 1 := k11.1.2.1
  have w5_0_7 : (0 : Int) ≤ η5 0 7 ∧ η5 0 7 ≤ 700 := wf_ok (a := 7) (b := 7) (z := (0, 700)) k11.1.1 (by decide +kernel) (Nat.le_refl _) (Nat.le_refl _)
  have d5_0_7 : η5 0 7 = η5 0 7 := rfl
  have v21 : zEq (η5 0 6) (η 0 6) := (k11.1.2.2.2.1 0 6 (by decide +kernel)).trans v18
  have d5_0_6 : η5 0 6 = η 0 6 := v21
  have w5_0_8 : (0 : Int) ≤ η5 0 8 ∧ η5 0 8 ≤ 6 := wf_ok (a := 8) (b := 8) (z := (0, 6)) k11.1.1 (by decide +kernel) (Nat.le_refl _) (Nat.le_refl _)
  have d5_0_8 : η5 0 8 = η5 0 8 := rfl
  replace e12 : x12 = η5 0 11 := e12
  replace r12 : -2147483648 ≤ x12 ∧ x12 ≤ 2147483647 := r12
  have v24 : zEq (η6 0 7) (η5 0 7) := by rw [eη6]; exact (zup_ne (fun e _ => absurd e (by decide))).trans rfl
  have c6_0_7 : η6 0 7 = η5 0 7 := v24
  have v25 : zEq (η6 0 6) (η 0 6) := by rw [eη6]; exact (zup_ne (fun e _ => absurd e (by decide))).trans v21
  have c6_0_6 : η6 0 6 = η 0 6 := v25
  have v26 : zEq (η6 0 8) (η5 0 8) := by rw [eη6]; exact (zup_ne (fun e _ => absurd e (by decide))).trans rfl
  have c6_0_8 : η6 0 8 = η5 0 8 := v26
  have bx13 : (0 : Int) ≤ x13 ∧ x13 ≤ 1 := k13.1.2.1
  have w7_0_7 : (0 : Int) ≤ η7 0 7 ∧ η7 0 7 ≤ 700 := wf_ok (a := 7) (b := 7) (z := (0, 700)) k13.1.1 (by decide +kernel) (Nat.le_refl _) (Nat.le_refl _)
  have d7_0_7 : η7 0 7 = η7 0 7 := rfl
  have v28 : zEq (η7 0 6) (η 0 6) := (k13.1.2.2.2.1 0 6 (by decide +kernel)).trans v25
  have d7_0_6 : η7 0 6 = η 0 6 := v28
  have w7_0_8 : (0 : Int) ≤ η7 0 8 ∧ η7 0 8 ≤ 6 := wf_ok (a := 8) (b := 8) (z := (0, 6)) k13.1.1 (by decide +kernel) (Nat.le_refl _) (Nat.le_refl _)
  have d7_0_8 : η7 0 8 = η7 0 8 := rfl
  replace e14 : x14 = η7 0 11 := e14
  replace r14 : -2147483648 ≤ x14 ∧ x14 ≤ 2147483647 := r14
  have v31 : zEq (η8 0 7) (η7 0 7) := by rw [eη8]; exact (zup_ne (fun e _ => absurd e (by decide))).trans rfl
  have f0_7 : η8 0 7 = η7 0 7 := v31
  have v32 : zEq (η8 0 6) (η 0 6) := by rw [eη8]; exact (zup_ne (fun e _ => absurd e (by decide))).trans v28
  have f0_6 : η8 0 6 = η 0 6 := v32
  have v33 : zEq (η8 0 8) (η7 0 8) := by rw [eη8]; exact (zup_ne (fun e _ => absurd e (by decide))).trans rfl
  have f0_8 : η8 0 8 = η7 0 8 := v33
  have qt2 : ¬ η 0 8 = 0 → 10 * (η1 0 6 - η1 0 7) + η1 0 8 < 10 * (η 0 6 - η 0 7) + η 0 8 := k2.2.2
  have g3 : G_n η3 := by rw [eη3]; exact zGk_up gk_n k6.2 (by decide +kernel)
  have qt10 : ¬ η3 0 8 = 0 → 10 * (η4 0 6 - η4 0 7) + η4 0 8 < 10 * (η3 0 6 - η3 0 7) + η3 0 8 := k10.2.2
  have qn11 : ¬ x11 = 0 → 10 * (η5 0 6 - η5 0 7) + η5 0 8 < 10 * (η4 0 6 - η4 0 7) + η4 0 8 := k11.2.2
  have g6 : G_n η6 := by rw [eη6]; exact zGk_up gk_n k11.2.1 (by decide +kernel)
  have qn13 : ¬ x13 = 0 → 10 * (η7 0 6 - η7 0 7) + η7 0 8 < 10 * (η6 0 6 - η6 0 7) + η6 0 8 := k13.2.2
  have g8 : G_n η8 := by rw [eη8]; exact zGk_up gk_n k13.2.1 (by decide +kernel)
  exact g8
set_option maxHeartbeats 8000000 in
theorem zn_guestLine_o6 {ro : Nat → List Int32} (η : zE) (hp : sP wl_n zTr zPn_guestLine [] η) (hpp : pPn_guestLine [] η) : ∀ x1 : Int, x1 = η 0 (Int.toNat 18) → zok 0 x1 → (¬ x1 = 4) → ∀ (x2 : Int) (η1 : zE), ((gC2 wl_n [(nat_lit 0, zPn_wrong, zOn_wrong, zMn_wrong), (nat_lit 1, zPn_token, zOn_token, zMn_token), (nat_lit 2, zPn_number, zOn_number, zMn_number), (nat_lit 3, zPn_find_g, zOn_find_g, zMn_find_g)] pCn_guestLine qCn_guestLine) 1).2 [] η x2 η1 → ∀ x3 : Int, x3 = η1 0 (Int.toNat 8) → zok 0 x3 → (x3 = 2) → ∀ x4 : Int, x4 = η1 0 (Int.toNat 18) → zok 0 x4 → ∀ x5 : Int, x5 = η1 0 (Int.toNat 9) → zok 0 x5 → ∀ (x6 : Int) (η2 : zE), ((gC2 wl_n [(nat_lit 0, zPn_wrong, zOn_wrong, zMn_wrong), (nat_lit 1, zPn_token, zOn_token, zMn_token), (nat_lit 2, zPn_number, zOn_number, zMn_number), (nat_lit 3, zPn_find_g, zOn_find_g, zMn_find_g)] pCn_guestLine qCn_guestLine) 3).2 [x4, x5] η1 x6 η2 → (x6 < 0) → ∀ x7 : Int, x7 = η2 0 (Int.toNat 18) → zok 0 x7 → ∀ x8 : Int, x8 = zd 0 1 4 x7 → ∀ x9 : Int, x9 = η2 0 (Int.toNat 9) → zok 0 x9 → ∀ η3 : zE, η3 = zup η2 12 (Int.toNat x8) x9 → ∀ (x10 : Int) (η4 : zE), ((gC2 wl_n [(nat_lit 0, zPn_wrong, zOn_wrong, zMn_wrong), (nat_lit 1, zPn_token, zOn_token, zMn_token), (nat_lit 2, zPn_number, zOn_number, zMn_number), (nat_lit 3, zPn_find_g, zOn_find_g, zMn_find_g)] pCn_guestLine qCn_guestLine) 1).2 [] η3 x10 η4 → ∀ (x11 : Int) (η5 : zE), ((gC2 wl_n [(nat_lit 0, zPn_wrong, zOn_wrong, zMn_wrong), (nat_lit 1, zPn_token, zOn_token, zMn_token), (nat_lit 2, zPn_number, zOn_number, zMn_number), (nat_lit 3, zPn_find_g, zOn_find_g, zMn_find_g)] pCn_guestLine qCn_guestLine) 2).2 [1, 9] η4 x11 η5 → (¬ x11 = 0) → ∀ x12 : Int, x12 = η5 0 (Int.toNat 11) → zok 0 x12 → ∀ η6 : zE, η6 = zup η5 13 (Int.toNat x8) x12 → ∀ (x13 : Int) (η7 : zE), ((gC2 wl_n [(nat_lit 0, zPn_wrong, zOn_wrong, zMn_wrong), (nat_lit 1, zPn_token, zOn_token, zMn_token), (nat_lit 2, zPn_number, zOn_number, zMn_number), (nat_lit 3, zPn_find_g, zOn_find_g, zMn_find_g)] pCn_guestLine qCn_guestLine) 2).2 [0, 9] η6 x13 η7 → (¬ x13 = 0) → ∀ x14 : Int, x14 = η7 0 (Int.toNat 11) → zok 0 x14 → ∀ η8 : zE, η8 = zup η7 14 (Int.toNat x8) x14 → ∀ (x15 : Int) (η9 : zE), ((gC2 wl_n [(nat_lit 0, zPn_wrong, zOn_wrong, zMn_wrong), (nat_lit 1, zPn_token, zOn_token, zMn_token), (nat_lit 2, zPn_number, zOn_number, zMn_number), (nat_lit 3, zPn_find_g, zOn_find_g, zMn_find_g)] pCn_guestLine qCn_guestLine) 2).2 [0, 99] η8 x15 η9 → (¬ x15 = 0) → ∀ x16 : Int, x16 = η9 0 (Int.toNat 11) → zok 0 x16 → ∀ η10 : zE, η10 = zup η9 15 (Int.toNat x8) x16 → ∀ x17 : Int, x17 = η10 0 (Int.toNat 18) → zok 0 x17 → ∀ x18 : Int, x18 = zd 0 1 x17 1 → ∀ η11 : zE, η11 = zup η10 0 (Int.toNat 18) x18 → (fun (_ : Nat) (y : Int) (η' : zE) => pQn_guestLine [] η y η') 0 1 η11 := by
  have hk : ¬ η 0 8 = 0 := hpp.2
  intro x1 e1 r1 c1 x2 η1 h2 x3 e3 r3 c2 x4 e4 r4 x5 e5 r5 x6 η2 h6 c3 x7 e7 r7 x8 e8 x9 e9 r9 η3 eη3 x10 η4 h10 x11 η5 h11 c4 x12 e12 r12 η6 eη6 x13 η7 h13 c5 x14 e14 r14 η8 eη8 x15 η9 h15 c6 x16 e16 r16 η10 eη10 x17 e17 r17 x18 e18 η11 eη11
  replace e8 := zEq_i e8
  replace e18 := zEq_i e18
  have k2 : sQ wl_n zTr zOn_token zMn_token [] η x2 η1 ∧ pQn_token [] η x2 η1 := h2
  have k6 : sQ wl_n zTr zOn_find_g zMn_find_g [x4, x5] η1 x6 η2 ∧ pQn_find_g [x4, x5] η1 x6 η2 := h6
  have k10 : sQ wl_n zTr zOn_token zMn_token [] η3 x10 η4 ∧ pQn_token [] η3 x10 η4 := h10
  have k11 : sQ wl_n zTr zOn_number zMn_number [1, 9] η4 x11 η5 ∧ pQn_number [1, 9] η4 x11 η5 := h11
  have k13 : sQ wl_n zTr zOn_number zMn_number [0, 9] η6 x13 η7 ∧ pQn_number [0, 9] η6 x13 η7 := h13
  have k15 : sQ wl_n zTr zOn_number zMn_number [0, 99] η8 x15 η9 ∧ pQn_number [0, 99] η8 x15 η9 := h15
  have w0_0_18 : (0 : Int) ≤ η 0 18 ∧ η 0 18 ≤ 4 := wf_ok (a := 18) (b := 18) (z := (0, 4)) hp.1 (by decide +kernel) (Nat.le_refl _) (Nat.le_refl _)
  replace e1 : x1 = η 0 18 := e1
  have w0_0_7 : (0 : Int) ≤ η 0 7 ∧ η 0 7 ≤ 700 := wf_ok (a := 7) (b := 7) (z := (0, 700)) hp.1 (by decide +kernel) (Nat.le_refl _) (Nat.le_refl _)
  have c0_0_7 : η 0 7 = η 0 7 := rfl
  have w0_0_6 : (0 : Int) ≤ η 0 6 ∧ η 0 6 ≤ 700 := wf_ok (a := 6) (b := 6) (z := (0, 700)) hp.1 (by decide +kernel) (Nat.le_refl _) (Nat.le_refl _)
  have c0_0_6 : η 0 6 = η 0 6 := rfl
  have w0_0_8 : (0 : Int) ≤ η 0 8 ∧ η 0 8 ≤ 6 := wf_ok (a := 8) (b := 8) (z := (0, 6)) hp.1 (by decide +kernel) (Nat.le_refl _) (Nat.le_refl _)
  have c0_0_8 : η 0 8 = η 0 8 := rfl
  have bx2 : (0 : Int) ≤ x2 ∧ x2 ≤ 0 := k2.1.2.1
  have w1_0_7 : (0 : Int) ≤ η1 0 7 ∧ η1 0 7 ≤ 700 := wf_ok (a := 7) (b := 7) (z := (0, 700)) k2.1.1 (by decide +kernel) (Nat.le_refl _) (Nat.le_refl _)
  have d1_0_7 : η1 0 7 = η1 0 7 := rfl
  have v5 : zEq (η1 0 6) (η 0 6) := (k2.1.2.2.2.1 0 6 (by decide +kernel)).trans rfl
  have d1_0_6 : η1 0 6 = η 0 6 := v5
  have w1_0_8 : (0 : Int) ≤ η1 0 8 ∧ η1 0 8 ≤ 6 := wf_ok (a := 8) (b := 8) (z := (0, 6)) k2.1.1 (by decide +kernel) (Nat.le_refl _) (Nat.le_refl _)
  have d1_0_8 : η1 0 8 = η1 0 8 := rfl
  replace e3 : x3 = η1 0 8 := e3
  have v7 : zEq (η1 0 18) (η 0 18) := (k2.1.2.2.2.1 0 18 (by decide +kernel)).trans rfl
  replace e4 : x4 = η 0 18 := e4.trans v7
  replace e5 : x5 = η1 0 9 := e5
  replace r5 : -2147483648 ≤ x5 ∧ x5 ≤ 2147483647 := r5
  have c1_0_7 : η1 0 7 = η1 0 7 := rfl
  have c1_0_6 : η1 0 6 = η 0 6 := v5
  have c1_0_8 : η1 0 8 = η1 0 8 := rfl
  have bx6 : ((-1) : Int) ≤ x6 ∧ x6 ≤ 3 := k6.1.2.1
  have v9 : zEq (η2 0 7) (η1 0 7) := (k6.1.2.2.2.1 0 7 (by decide +kernel)).trans rfl
  have d2_0_7 : η2 0 7 = η1 0 7 := v9
  have v10 : zEq (η2 0 6) (η 0 6) := (k6.1.2.2.2.1 0 6 (by decide +kernel)).trans v5
  have d2_0_6 : η2 0 6 = η 0 6 := v10
  have v11 : zEq (η2 0 8) (η1 0 8) := (k6.1.2.2.2.1 0 8 (by decide +kernel)).trans rfl
  have d2_0_8 : η2 0 8 = η1 0 8 := v11
  have v12 : zEq (η2 0 18) (η 0 18) := (k6.1.2.2.2.1 0 18 (by decide +kernel)).trans v7
  replace e7 : x7 = η 0 18 := e7.trans v12
  first
  | replace e8 : x8 = 4 + x7 := zd_a2 (zEq_o e8) (by clear e8; exact ⟨by omega, by omega⟩)
  | clear e8
  have v13 : zEq (η2 0 9) (η1 0 9) := (k6.1.2.2.2.1 0 9 (by decide +kernel)).trans rfl
  replace e9 : x9 = η1 0 9 := e9.trans v13
  replace r9 : -2147483648 ≤ x9 ∧ x9 ≤ 2147483647 := r9
  have v14 : zEq (η3 0 7) (η1 0 7) := by rw [eη3]; exact (zup_ne (fun e _ => absurd e (by decide))).trans v9
  have c3_0_7 : η3 0 7 = η1 0 7 := v14
  have v15 : zEq (η3 0 6) (η 0 6) := by rw [eη3]; exact (zup_ne (fun e _ => absurd e (by decide))).trans v10
  have c3_0_6 : η3 0 6 = η 0 6 := v15
  have v16 : zEq (η3 0 8) (η1 0 8) := by rw [eη3]; exact (zup_ne (fun e _ => absurd e (by decide))).trans v11
  have c3_0_8 : η3 0 8 = η1 0 8 := v16
  have bx10 : (0 : Int) ≤ x10 ∧ x10 ≤ 0 := k10.1.2.1
  have w4_0_7 : (0 : Int) ≤ η4 0 7 ∧ η4 0 7 ≤ 700 := wf_ok (a := 7) (b := 7) (z := (0, 700)) k10.1.1 (by decide +kernel) (Nat.le_refl _) (Nat.le_refl _)
  have d4_0_7 : η4 0 7 = η4 0 7 := rfl
  have v18 : zEq (η4 0 6) (η 0 6) := (k10.1.2.2.2.1 0 6 (by decide +kernel)).trans v15
  have d4_0_6 : η4 0 6 = η 0 6 := v18
  have w4_0_8 : (0 : Int) ≤ η4 0 8 ∧ η4 0 8 ≤ 6 := wf_ok (a := 8) (b := 8) (z := (0, 6)) k10.1.1 (by decide +kernel) (Nat.le_refl _) (Nat.le_refl _)
  have d4_0_8 : η4 0 8 = η4 0 8 := rfl
  have c4_0_7 : η4 0 7 = η4 0 7 := rfl
  have c4_0_6 : η4 0 6 = η 0 6 := v18
  have c4_0_8 : η4 0 8 = η4 0 8 := rfl
  have bx11 : (0 : Int) ≤ x11 ∧ x11 ≤ 1 := k11.1.2.1
  have w5_0_7 : (0 : Int) ≤ η5 0 7 ∧ η5 0 7 ≤ 700 := wf_ok (a := 7) (b := 7) (z := (0, 700)) k11.1.1 (by decide +kernel) (Nat.le_refl _) (Nat.le_refl _)
  have d5_0_7 : η5 0 7 = η5 0 7 := rfl
  have v21 : zEq (η5 0 6) (η 0 6) := (k11.1.2.2.2.1 0 6 (by decide +kernel)).trans v18
  have d5_0_6 : η5 0 6 = η 0 6 := v21
  have w5_0_8 : (0 : Int) ≤ η5 0 8 ∧ η5 0 8 ≤ 6 := wf_ok (a := 8) (b := 8) (z := (0, 6)) k11.1.1 (by decide +kernel) (Nat.le_refl _) (Nat.le_refl _)
  have d5_0_8 : η5 0 8 = η5 0 8 := rfl
  replace e12 : x12 = η5 0 11 := e12
  replace r12 : -2147483648 ≤ x12 ∧ x12 ≤ 2147483647 := r12
  have v24 : zEq (η6 0 7) (η5 0 7) := by rw [eη6]; exact (zup_ne (fun e _ => absurd e (by decide))).trans rfl
  have c6_0_7 : η6 0 7 = η5 0 7 := v24
  have v25 : zEq (η6 0 6) (η 0 6) := by rw [eη6]; exact (zup_ne (fun e _ => absurd e (by decide))).trans v21
  have c6_0_6 : η6 0 6 = η 0 6 := v25
  have v26 : zEq (η6 0 8) (η5 0 8) := by rw [eη6]; exact (zup_ne (fun e _ => absurd e (by decide))).trans rfl
  have c6_0_8 : η6 0 8 = η5 0 8 := v26
  have bx13 : (0 : Int) ≤ x13 ∧ x13 ≤ 1 := k13.1.2.1
  have w7_0_7 : (0 : Int) ≤ η7 0 7 ∧ η7 0 7 ≤ 700 := wf_ok (a := 7) (b := 7) (z := (0, 700)) k13.1.1 (by decide +kernel) (Nat.le_refl _) (Nat.le_refl _)
  have d7_0_7 : η7 0 7 = η7 0 7 := rfl
  have v28 : zEq (η7 0 6) (η 0 6) := (k13.1.2.2.2.1 0 6 (by decide +kernel)).trans v25
  have d7_0_6 : η7 0 6 = η 0 6 := v28
  have w7_0_8 : (0 : Int) ≤ η7 0 8 ∧ η7 0 8 ≤ 6 := wf_ok (a := 8) (b := 8) (z := (0, 6)) k13.1.1 (by decide +kernel) (Nat.le_refl _) (Nat.le_refl _)
  have d7_0_8 : η7 0 8 = η7 0 8 := rfl
  replace e14 : x14 = η7 0 11 := e14
  replace r14 : -2147483648 ≤ x14 ∧ x14 ≤ 2147483647 := r14
  have v31 : zEq (η8 0 7) (η7 0 7) := by rw [eη8]; exact (zup_ne (fun e _ => absurd e (by decide))).trans rfl
  have c8_0_7 : η8 0 7 = η7 0 7 := v31
  have v32 : zEq (η8 0 6) (η 0 6) := by rw [eη8]; exact (zup_ne (fun e _ => absurd e (by decide))).trans v28
  have c8_0_6 : η8 0 6 = η 0 6 := v32
  have v33 : zEq (η8 0 8) (η7 0 8) := by rw [eη8]; exact (zup_ne (fun e _ => absurd e (by decide))).trans rfl
  have c8_0_8 : η8 0 8 = η7 0 8 := v33
  have bx15 : (0 : Int) ≤ x15 ∧ x15 ≤ 1 := k15.1.2.1
  have w9_0_7 : (0 : Int) ≤ η9 0 7 ∧ η9 0 7 ≤ 700 := wf_ok (a := 7) (b := 7) (z := (0, 700)) k15.1.1 (by decide +kernel) (Nat.le_refl _) (Nat.le_refl _)
  have d9_0_7 : η9 0 7 = η9 0 7 := rfl
  have v35 : zEq (η9 0 6) (η 0 6) := (k15.1.2.2.2.1 0 6 (by decide +kernel)).trans v32
  have d9_0_6 : η9 0 6 = η 0 6 := v35
  have w9_0_8 : (0 : Int) ≤ η9 0 8 ∧ η9 0 8 ≤ 6 := wf_ok (a := 8) (b := 8) (z := (0, 6)) k15.1.1 (by decide +kernel) (Nat.le_refl _) (Nat.le_refl _)
  have d9_0_8 : η9 0 8 = η9 0 8 := rfl
  replace e16 : x16 = η9 0 11 := e16
  replace r16 : -2147483648 ≤ x16 ∧ x16 ≤ 2147483647 := r16
  have v38 : zEq (η3 0 18) (η 0 18) := by rw [eη3]; exact (zup_ne (fun e _ => absurd e (by decide))).trans v12
  have v39 : zEq (η4 0 18) (η 0 18) := (k10.1.2.2.2.1 0 18 (by decide +kernel)).trans v38
  have v40 : zEq (η5 0 18) (η 0 18) := (k11.1.2.2.2.1 0 18 (by decide +kernel)).trans v39
  have v41 : zEq (η6 0 18) (η 0 18) := by rw [eη6]; exact (zup_ne (fun e _ => absurd e (by decide))).trans v40
  have v42 : zEq (η7 0 18) (η 0 18) := (k13.1.2.2.2.1 0 18 (by decide +kernel)).trans v41
  have v43 : zEq (η8 0 18) (η 0 18) := by rw [eη8]; exact (zup_ne (fun e _ => absurd e (by decide))).trans v42
  have v44 : zEq (η9 0 18) (η 0 18) := (k15.1.2.2.2.1 0 18 (by decide +kernel)).trans v43
  have v45 : zEq (η10 0 18) (η 0 18) := by rw [eη10]; exact (zup_ne (fun e _ => absurd e (by decide))).trans v44
  replace e17 : x17 = η 0 18 := e17.trans v45
  first
  | replace e18 : x18 = x17 + 1 := zd_a2 (zEq_o e18) (by clear e18; exact ⟨by omega, by omega⟩)
  | clear e18
  have v46 : zEq (η10 0 7) (η9 0 7) := by rw [eη10]; exact (zup_ne (fun e _ => absurd e (by decide))).trans rfl
  have v47 : zEq (η11 0 7) (η9 0 7) := by rw [eη11]; exact (zup_ne (fun _ e => absurd e (by decide))).trans v46
  have f0_7 : η11 0 7 = η9 0 7 := v47
  have v48 : zEq (η10 0 6) (η 0 6) := by rw [eη10]; exact (zup_ne (fun e _ => absurd e (by decide))).trans v35
  have v49 : zEq (η11 0 6) (η 0 6) := by rw [eη11]; exact (zup_ne (fun _ e => absurd e (by decide))).trans v48
  have f0_6 : η11 0 6 = η 0 6 := v49
  have v50 : zEq (η10 0 8) (η9 0 8) := by rw [eη10]; exact (zup_ne (fun e _ => absurd e (by decide))).trans rfl
  have v51 : zEq (η11 0 8) (η9 0 8) := by rw [eη11]; exact (zup_ne (fun _ e => absurd e (by decide))).trans v50
  have f0_8 : η11 0 8 = η9 0 8 := v51
  have qt2 : ¬ η 0 8 = 0 → 10 * (η1 0 6 - η1 0 7) + η1 0 8 < 10 * (η 0 6 - η 0 7) + η 0 8 := k2.2.2
  have g3 : G_n η3 := by rw [eη3]; exact zGk_up gk_n k6.2 (by decide +kernel)
  have qt10 : ¬ η3 0 8 = 0 → 10 * (η4 0 6 - η4 0 7) + η4 0 8 < 10 * (η3 0 6 - η3 0 7) + η3 0 8 := k10.2.2
  have qn11 : ¬ x11 = 0 → 10 * (η5 0 6 - η5 0 7) + η5 0 8 < 10 * (η4 0 6 - η4 0 7) + η4 0 8 := k11.2.2
  have g6 : G_n η6 := by rw [eη6]; exact zGk_up gk_n k11.2.1 (by decide +kernel)
  have qn13 : ¬ x13 = 0 → 10 * (η7 0 6 - η7 0 7) + η7 0 8 < 10 * (η6 0 6 - η6 0 7) + η6 0 8 := k13.2.2
  have g8 : G_n η8 := by rw [eη8]; exact zGk_up gk_n k13.2.1 (by decide +kernel)
  have qn15 : ¬ x15 = 0 → 10 * (η9 0 6 - η9 0 7) + η9 0 8 < 10 * (η8 0 6 - η8 0 7) + η8 0 8 := k15.2.2
  have g10 : G_n η10 := by rw [eη10]; exact zGk_up gk_n k15.2.1 (by decide +kernel)
  have g11 : G_n η11 := by rw [eη11]; exact zGk_upc gk_n g10 (by decide +kernel)
  exact ⟨g11, fun _ => show 10 * (η11 0 6 - η11 0 7) + η11 0 8 < 10 * (η 0 6 - η 0 7) + η 0 8 by omega⟩
