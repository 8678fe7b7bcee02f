set_option maxHeartbeats 8000000 in
theorem zn_scratLine_o0 {ro : Nat → List Int32} (η : zE) (hp : sP wl_n zTr zPn_scratLine [] η) (hpp : pPn_scratLine [] η) : ∀ x1 : Int, x1 = η 0 (Int.toNat 17) → zok 0 x1 → (¬ x1 = 4) → ((gC2 wl_n [(nat_lit 0, zPn_wrong, zOn_wrong, zMn_wrong), (nat_lit 1, zPn_token, zOn_token, zMn_token), (nat_lit 2, zPn_number, zOn_number, zMn_number), (nat_lit 3, zPn_find_s, zOn_find_s, zMn_find_s)] pCn_scratLine qCn_scratLine) 1).1 [] η := by
  have hk : ¬ η 0 8 = 0 := hpp.2
  intro x1 e1 r1 c1
  have w0_0_17 : (0 : Int) ≤ η 0 17 ∧ η 0 17 ≤ 4 := wf_ok (a := 17) (b := 17) (z := (0, 4)) hp.1 (by decide +kernel) (Nat.le_refl _) (Nat.le_refl _)
  replace e1 : x1 = η 0 17 := e1
  have w0_0_7 : (0 : Int) ≤ η 0 7 ∧ η 0 7 ≤ 700 := wf_ok (a := 7) (b := 7) (z := (0, 700)) hp.1 (by decide +kernel) (Nat.le_refl _) (Nat.le_refl _)
  have f0_7 : η 0 7 = η 0 7 := rfl
  have w0_0_6 : (0 : Int) ≤ η 0 6 ∧ η 0 6 ≤ 700 := wf_ok (a := 6) (b := 6) (z := (0, 700)) hp.1 (by decide +kernel) (Nat.le_refl _) (Nat.le_refl _)
  have f0_6 : η 0 6 = η 0 6 := rfl
  have w0_0_8 : (0 : Int) ≤ η 0 8 ∧ η 0 8 ≤ 6 := wf_ok (a := 8) (b := 8) (z := (0, 6)) hp.1 (by decide +kernel) (Nat.le_refl _) (Nat.le_refl _)
  have f0_8 : η 0 8 = η 0 8 := rfl
  exact hpp.1
set_option maxHeartbeats 8000000 in
theorem zn_scratLine_o1 {ro : Nat → List Int32} (η : zE) (hp : sP wl_n zTr zPn_scratLine [] η) (hpp : pPn_scratLine [] η) : ∀ x1 : Int, x1 = η 0 (Int.toNat 17) → zok 0 x1 → (¬ x1 = 4) → ∀ (x2 : Int) (η1 : zE), ((gC2 wl_n [(nat_lit 0, zPn_wrong, zOn_wrong, zMn_wrong), (nat_lit 1, zPn_token, zOn_token, zMn_token), (nat_lit 2, zPn_number, zOn_number, zMn_number), (nat_lit 3, zPn_find_s, zOn_find_s, zMn_find_s)] pCn_scratLine qCn_scratLine) 1).2 [] η x2 η1 → ∀ x3 : Int, x3 = η1 0 (Int.toNat 17) → zok 0 x3 → ∀ x4 : Int, x4 = zd 0 1 4 x3 → ∀ x5 : Int, x5 = η1 0 (Int.toNat 10) → zok 0 x5 → ((gC2 wl_n [(nat_lit 0, zPn_wrong, zOn_wrong, zMn_wrong), (nat_lit 1, zPn_token, zOn_token, zMn_token), (nat_lit 2, zPn_number, zOn_number, zMn_number), (nat_lit 3, zPn_find_s, zOn_find_s, zMn_find_s)] pCn_scratLine qCn_scratLine) 2).1 [0, 11] η1 := by
  have hk : ¬ η 0 8 = 0 := hpp.2
  intro x1 e1 r1 c1 x2 η1 h2 x3 e3 r3 x4 e4 x5 e5 r5
  replace e4 := zEq_i e4
  have k2 : sQ wl_n zTr zOn_token zMn_token [] η x2 η1 ∧ pQn_token [] η x2 η1 := h2
  have w0_0_17 : (0 : Int) ≤ η 0 17 ∧ η 0 17 ≤ 4 := wf_ok (a := 17) (b := 17) (z := (0, 4)) hp.1 (by decide +kernel) (Nat.le_refl _) (Nat.le_refl _)
  replace e1 : x1 = η 0 17 := e1
  have w0_0_7 : (0 : Int) ≤ η 0 7 ∧ η 0 7 ≤ 700 := wf_ok (a := 7) (b := 7) (z := (0, 700)) hp.1 (by decide +kernel) (Nat.le_refl _) (Nat.le_refl _)
  have c0_0_7 : η 0 7 = η 0 7 := rfl
  have w0_0_6 : (0 : Int) ≤ η 0 6 ∧ η 0 6 ≤ 700 := wf_ok (a := 6) (b := 6) (z := (0, 700)) hp.1 (by decide +kernel) (Nat.le_refl _) (Nat.le_refl _)
  have c0_0_6 : η 0 6 = η 0 6 := rfl
  have w0_0_8 : (0 : Int) ≤ η 0 8 ∧ η 0 8 ≤ 6 := wf_ok (a := 8) (b := 8) (z := (0, 6)) hp.1 (by decide +kernel) (Nat.le_refl _) (Nat.le_refl _)
  have c0_0_8 : η 0 8 = η 0 8 := rfl
  have bx2 : (0 : Int) ≤ x2 ∧ x2 ≤ 0 := k2.1.2.1
  have w1_0_7 : (0 : Int) ≤ η1 0 7 ∧ η1 0 7 ≤ 700 := wf_ok (a := 7) (b := 7) (z := (0, 700)) k2.1.1 (by decide +kernel) (Nat.le_refl _) (Nat.le_refl _)
  have d1_0_7 : η1 0 7 = η1 0 7 := rfl
  have v5 : zEq (η1 0 6) (η 0 6) := (k2.1.2.2.2.1 0 6 (by decide +kernel)).trans rfl
  have d1_0_6 : η1 0 6 = η 0 6 := v5
  have w1_0_8 : (0 : Int) ≤ η1 0 8 ∧ η1 0 8 ≤ 6 := wf_ok (a := 8) (b := 8) (z := (0, 6)) k2.1.1 (by decide +kernel) (Nat.le_refl _) (Nat.le_refl _)
  have d1_0_8 : η1 0 8 = η1 0 8 := rfl
  have v7 : zEq (η1 0 17) (η 0 17) := (k2.1.2.2.2.1 0 17 (by decide +kernel)).trans rfl
  replace e3 : x3 = η 0 17 := e3.trans v7
  first
  | replace e4 : x4 = 4 + x3 := zd_a2 (zEq_o e4) (by clear e4; exact ⟨by omega, by omega⟩)
  | clear e4
  have w1_0_10 : (0 : Int) ≤ η1 0 10 ∧ η1 0 10 ≤ 700 := wf_ok (a := 10) (b := 10) (z := (0, 700)) k2.1.1 (by decide +kernel) (Nat.le_refl _) (Nat.le_refl _)
  replace e5 : x5 = η1 0 10 := e5
  have f0_7 : η1 0 7 = η1 0 7 := rfl
  have f0_6 : η1 0 6 = η 0 6 := v5
  have f0_8 : η1 0 8 = η1 0 8 := rfl
  have qt2 : ¬ η 0 8 = 0 → 10 * (η1 0 6 - η1 0 7) + η1 0 8 < 10 * (η 0 6 - η 0 7) + η 0 8 := k2.2.2
  exact k2.2.1
set_option maxHeartbeats 8000000 in
theorem zn_scratLine_o2 {ro : Nat → List Int32} (η : zE) (hp : sP wl_n zTr zPn_scratLine [] η) (hpp : pPn_scratLine [] η) : ∀ x1 : Int, x1 = η 0 (Int.toNat 17) → zok 0 x1 → (¬ x1 = 4) → ∀ (x2 : Int) (η1 : zE), ((gC2 wl_n [(nat_lit 0, zPn_wrong, zOn_wrong, zMn_wrong), (nat_lit 1, zPn_token, zOn_token, zMn_token), (nat_lit 2, zPn_number, zOn_number, zMn_number), (nat_lit 3, zPn_find_s, zOn_find_s, zMn_find_s)] pCn_scratLine qCn_scratLine) 1).2 [] η x2 η1 → ∀ x3 : Int, x3 = η1 0 (Int.toNat 17) → zok 0 x3 → ∀ x4 : Int, x4 = zd 0 1 4 x3 → ∀ x5 : Int, x5 = η1 0 (Int.toNat 10) → zok 0 x5 → ∀ (x6 : Int) (η2 : zE), ((gC2 wl_n [(nat_lit 0, zPn_wrong, zOn_wrong, zMn_wrong), (nat_lit 1, zPn_token, zOn_token, zMn_token), (nat_lit 2, zPn_number, zOn_number, zMn_number), (nat_lit 3, zPn_find_s, zOn_find_s, zMn_find_s)] pCn_scratLine qCn_scratLine) 2).2 [0, 11] η1 x6 η2 → (¬ x6 = 0) → ∀ x7 : Int, x7 = η2 0 (Int.toNat 17) → zok 0 x7 → ∀ x8 : Int, x8 = η2 0 (Int.toNat 11) → zok 0 x8 → ((gC2 wl_n [(nat_lit 0, zPn_wrong, zOn_wrong, zMn_wrong), (nat_lit 1, zPn_token, zOn_token, zMn_token), (nat_lit 2, zPn_number, zOn_number, zMn_number), (nat_lit 3, zPn_find_s, zOn_find_s, zMn_find_s)] pCn_scratLine qCn_scratLine) 3).1 [x7, x8] η2 := by
  have hk : ¬ η 0 8 = 0 := hpp.2
  intro x1 e1 r1 c1 x2 η1 h2 x3 e3 r3 x4 e4 x5 e5 r5 x6 η2 h6 c2 x7 e7 r7 x8 e8 r8
  replace e4 := zEq_i e4
  have k2 : sQ wl_n zTr zOn_token zMn_token [] η x2 η1 ∧ pQn_token [] η x2 η1 := h2
  have k6 : sQ wl_n zTr zOn_number zMn_number [0, 11] η1 x6 η2 ∧ pQn_number [0, 11] η1 x6 η2 := h6
  have w0_0_17 : (0 : Int) ≤ η 0 17 ∧ η 0 17 ≤ 4 := wf_ok (a := 17) (b := 17) (z := (0, 4)) hp.1 (by decide +kernel) (Nat.le_refl _) (Nat.le_refl _)
  replace e1 : x1 = η 0 17 := e1
  have w0_0_7 : (0 : Int) ≤ η 0 7 ∧ η 0 7 ≤ 700 := wf_ok (a := 7) (b := 7) (z := (0, 700)) hp.1 (by decide +kernel) (Nat.le_refl _) (Nat.le_refl _)
  have c0_0_7 : η 0 7 = η 0 7 := rfl
  have w0_0_6 : (0 : Int) ≤ η 0 6 ∧ η 0 6 ≤ 700 := wf_ok (a := 6) (b := 6) (z := (0, 700)) hp.1 (by decide +kernel) (Nat.le_refl _) (Nat.le_refl _)
  have c0_0_6 : η 0 6 = η 0 6 := rfl
  have w0_0_8 : (0 : Int) ≤ η 0 8 ∧ η 0 8 ≤ 6 := wf_ok (a := 8) (b := 8) (z := (0, 6)) hp.1 (by decide +kernel) (Nat.le_refl _) (Nat.le_refl _)
  have c0_0_8 : η 0 8 = η 0 8 := rfl
  have bx2 : (0 : Int) ≤ x2 ∧ x2 ≤ 0 := k2.1.2.1
  have w1_0_7 : (0 : Int) ≤ η1 0 7 ∧ η1 0 7 ≤ 700 := wf_ok (a := 7) (b := 7) (z := (0, 700)) k2.1.1 (by decide +kernel) (Nat.le_refl _) (Nat.le_refl _)
  have d1_0_7 : η1 0 7 = η1 0 7 := rfl
  have v5 : zEq (η1 0 6) (η 0 6) := (k2.1.2.2.2.1 0 6 (by decide +kernel)).trans rfl
  have d1_0_6 : η1 0 6 = η 0 6 := v5
  have w1_0_8 : (0 : Int) ≤ η1 0 8 ∧ η1 0 8 ≤ 6 := wf_ok (a := 8) (b := 8) (z := (0, 6)) k2.1.1 (by decide +kernel) (Nat.le_refl _) (Nat.le_refl _)
  have d1_0_8 : η1 0 8 = η1 0 8 := rfl
  have v7 : zEq (η1 0 17) (η 0 17) := (k2.1.2.2.2.1 0 17 (by decide +kernel)).trans rfl
  replace e3 : x3 = η 0 17 := e3.trans v7
  first
  | replace e4 : x4 = 4 + x3 := zd_a2 (zEq_o e4) (by clear e4; exact ⟨by omega, by omega⟩)
  | clear e4
  have w1_0_10 : (0 : Int) ≤ η1 0 10 ∧ η1 0 10 ≤ 700 := wf_ok (a := 10) (b := 10) (z := (0, 700)) k2.1.1 (by decide +kernel) (Nat.le_refl _) (Nat.le_refl _)
  replace e5 : x5 = η1 0 10 := e5
  have c1_0_7 : η1 0 7 = η1 0 7 := rfl
  have c1_0_6 : η1 0 6 = η 0 6 := v5
  have c1_0_8 : η1 0 8 = η1 0 8 := rfl
  have bx6 : (0 : Int) ≤ x6 ∧ x6 ≤ 1 := k6.1.2.1
  have w2_0_7 : (0 : Int) ≤ η2 0 7 ∧ η2 0 7 ≤ 700 := wf_ok (a := 7) (b := 7) (z := (0, 700)) k6.1.1 (by decide +kernel) (Nat.le_refl _) (Nat.le_refl _)
  have d2_0_7 : η2 0 7 = η2 0 7 := rfl
  have v10 : zEq (η2 0 6) (η 0 6) := (k6.1.2.2.2.1 0 6 (by decide +kernel)).trans v5
  have d2_0_6 : η2 0 6 = η 0 6 := v10
  have w2_0_8 : (0 : Int) ≤ η2 0 8 ∧ η2 0 8 ≤ 6 := wf_ok (a := 8) (b := 8) (z := (0, 6)) k6.1.1 (by decide +kernel) (Nat.le_refl _) (Nat.le_refl _)
  have d2_0_8 : η2 0 8 = η2 0 8 := rfl
  have v12 : zEq (η2 0 17) (η 0 17) := (k6.1.2.2.2.1 0 17 (by decide +kernel)).trans v7
  replace e7 : x7 = η 0 17 := e7.trans v12
  replace e8 : x8 = η2 0 11 := e8
  replace r8 : -2147483648 ≤ x8 ∧ x8 ≤ 2147483647 := r8
  have f0_7 : η2 0 7 = η2 0 7 := rfl
  have f0_6 : η2 0 6 = η 0 6 := v10
  have f0_8 : η2 0 8 = η2 0 8 := rfl
  have qt2 : ¬ η 0 8 = 0 → 10 * (η1 0 6 - η1 0 7) + η1 0 8 < 10 * (η 0 6 - η 0 7) + η 0 8 := k2.2.2
  have qn6 : ¬ x6 = 0 → 10 * (η2 0 6 - η2 0 7) + η2 0 8 < 10 * (η1 0 6 - η1 0 7) + η1 0 8 := k6.2.2
  exact k6.2.1
set_option maxHeartbeats 8000000 in
theorem zn_scratLine_o3 {ro : Nat → List Int32} (η : zE) (hp : sP wl_n zTr zPn_scratLine [] η) (hpp : pPn_scratLine [] η) : ∀ x1 : Int, x1 = η 0 (Int.toNat 17) → zok 0 x1 → (¬ x1 = 4) → ∀ (x2 : Int) (η1 : zE), ((gC2 wl_n [(nat_lit 0, zPn_wrong, zOn_wrong, zMn_wrong), (nat_lit 1, zPn_token, zOn_token, zMn_token), (nat_lit 2, zPn_number, zOn_number, zMn_number), (nat_lit 3, zPn_find_s, zOn_find_s, zMn_find_s)] pCn_scratLine qCn_scratLine) 1).2 [] η x2 η1 → ∀ x3 : Int, x3 = η1 0 (Int.toNat 17) → zok 0 x3 → ∀ x4 : Int, x4 = zd 0 1 4 x3 → ∀ x5 : Int, x5 = η1 0 (Int.toNat 10) → zok 0 x5 → ∀ (x6 : Int) (η2 : zE), ((gC2 wl_n [(nat_lit 0, zPn_wrong, zOn_wrong, zMn_wrong), (nat_lit 1, zPn_token, zOn_token, zMn_token), (nat_lit 2, zPn_number, zOn_number, zMn_number), (nat_lit 3, zPn_find_s, zOn_find_s, zMn_find_s)] pCn_scratLine qCn_scratLine) 2).2 [0, 11] η1 x6 η2 → (¬ x6 = 0) → ∀ x7 : Int, x7 = η2 0 (Int.toNat 17) → zok 0 x7 → ∀ x8 : Int, x8 = η2 0 (Int.toNat 11) → zok 0 x8 → ∀ (x9 : Int) (η3 : zE), ((gC2 wl_n [(nat_lit 0, zPn_wrong, zOn_wrong, zMn_wrong), (nat_lit 1, zPn_token, zOn_token, zMn_token), (nat_lit 2, zPn_number, zOn_number, zMn_number), (nat_lit 3, zPn_find_s, zOn_find_s, zMn_find_s)] pCn_scratLine qCn_scratLine) 3).2 [x7, x8] η2 x9 η3 → (x9 < 0) → ∀ x10 : Int, x10 = η3 0 (Int.toNat 11) → zok 0 x10 → ∀ η4 : zE, η4 = zup η3 7 (Int.toNat x4) x10 → ((gC2 wl_n [(nat_lit 0, zPn_wrong, zOn_wrong, zMn_wrong), (nat_lit 1, zPn_token, zOn_token, zMn_token), (nat_lit 2, zPn_number, zOn_number, zMn_number), (nat_lit 3, zPn_find_s, zOn_find_s, zMn_find_s)] pCn_scratLine qCn_scratLine) 2).1 [0, 100] η4 := by
  intro x1 e1 r1 c1 x2 η1 h2 x3 e3 r3 x4 e4 x5 e5 r5 x6 η2 h6 c2 x7 e7 r7 x8 e8 r8 x9 η3 h9 c3 x10 e10 r10 η4 eη4
  have k2 : sQ wl_n zTr zOn_token zMn_token [] η x2 η1 ∧ pQn_token [] η x2 η1 := h2
  have k6 : sQ wl_n zTr zOn_number zMn_number [0, 11] η1 x6 η2 ∧ pQn_number [0, 11] η1 x6 η2 := h6
  have k9 : sQ wl_n zTr zOn_find_s zMn_find_s [x7, x8] η2 x9 η3 ∧ pQn_find_s [x7, x8] η2 x9 η3 := h9
  have g1 : G_n η4 := by rw [eη4]; exact zGk_up gk_n k9.2 (by decide +kernel)
  exact g1
set_option maxHeartbeats 8000000 in
theorem zn_scratLine_o4 {ro : Nat → List Int32} (η : zE) (hp : sP wl_n zTr zPn_scratLine [] η) (hpp : pPn_scratLine [] η) : ∀ x1 : Int, x1 = η 0 (Int.toNat 17) → zok 0 x1 → (¬ x1 = 4) → ∀ (x2 : Int) (η1 : zE), ((gC2 wl_n [(nat_lit 0, zPn_wrong, zOn_wrong, zMn_wrong), (nat_lit 1, zPn_token, zOn_token, zMn_token), (nat_lit 2, zPn_number, zOn_number, zMn_number), (nat_lit 3, zPn_find_s, zOn_find_s, zMn_find_s)] pCn_scratLine qCn_scratLine) 1).2 [] η x2 η1 → ∀ x3 : Int, x3 = η1 0 (Int.toNat 17) → zok 0 x3 → ∀ x4 : Int, x4 = zd 0 1 4 x3 → ∀ x5 : Int, x5 = η1 0 (Int.toNat 10) → zok 0 x5 → ∀ (x6 : Int) (η2 : zE), ((gC2 wl_n [(nat_lit 0, zPn_wrong, zOn_wrong, zMn_wrong), (nat_lit 1, zPn_token, zOn_token, zMn_token), (nat_lit 2, zPn_number, zOn_number, zMn_number), (nat_lit 3, zPn_find_s, zOn_find_s, zMn_find_s)] pCn_scratLine qCn_scratLine) 2).2 [0, 11] η1 x6 η2 → (¬ x6 = 0) → ∀ x7 : Int, x7 = η2 0 (Int.toNat 17) → zok 0 x7 → ∀ x8 : Int, x8 = η2 0 (Int.toNat 11) → zok 0 x8 → ∀ (x9 : Int) (η3 : zE), ((gC2 wl_n [(nat_lit 0, zPn_wrong, zOn_wrong, zMn_wrong), (nat_lit 1, zPn_token, zOn_token, zMn_token), (nat_lit 2, zPn_number, zOn_number, zMn_number), (nat_lit 3, zPn_find_s, zOn_find_s, zMn_find_s)] pCn_scratLine qCn_scratLine) 3).2 [x7, x8] η2 x9 η3 → (x9 < 0) → ∀ x10 : Int, x10 = η3 0 (Int.toNat 11) → zok 0 x10 → ∀ η4 : zE, η4 = zup η3 7 (Int.toNat x4) x10 → ∀ (x11 : Int) (η5 : zE), ((gC2 wl_n [(nat_lit 0, zPn_wrong, zOn_wrong, zMn_wrong), (nat_lit 1, zPn_token, zOn_token, zMn_token), (nat_lit 2, zPn_number, zOn_number, zMn_number), (nat_lit 3, zPn_find_s, zOn_find_s, zMn_find_s)] pCn_scratLine qCn_scratLine) 2).2 [0, 100] η4 x11 η5 → (¬ x11 = 0) → ∀ x12 : Int, x12 = η5 0 (Int.toNat 11) → zok 0 x12 → ∀ η6 : zE, η6 = zup η5 8 (Int.toNat x4) x12 → ((gC2 wl_n [(nat_lit 0, zPn_wrong, zOn_wrong, zMn_wrong), (nat_lit 1, zPn_token, zOn_token, zMn_token), (nat_lit 2, zPn_number, zOn_number, zMn_number), (nat_lit 3, zPn_find_s, zOn_find_s, zMn_find_s)] pCn_scratLine qCn_scratLine) 2).1 [1, 9] η6 := by
  have hk : ¬ η 0 8 = 0 := hpp.2
  intro x1 e1 r1 c1 x2 η1 h2 x3 e3 r3 x4 e4 x5 e5 r5 x6 η2 h6 c2 x7 e7 r7 x8 e8 r8 x9 η3 h9 c3 x10 e10 r10 η4 eη4 x11 η5 h11 c4 x12 e12 r12 η6 eη6
  replace e4 := zEq_i e4
  have k2 : sQ wl_n zTr zOn_token zMn_token [] η x2 η1 ∧ pQn_token [] η x2 η1 := h2
  have k6 : sQ wl_n zTr zOn_number zMn_number [0, 11] η1 x6 η2 ∧ pQn_number [0, 11] η1 x6 η2 := h6
  have k9 : sQ wl_n zTr zOn_find_s zMn_find_s [x7, x8] η2 x9 η3 ∧ pQn_find_s [x7, x8] η2 x9 η3 := h9
  have k11 : sQ wl_n zTr zOn_number zMn_number [0, 100] η4 x11 η5 ∧ pQn_number [0, 100] η4 x11 η5 := h11
  have w0_0_17 : (0 : Int) ≤ η 0 17 ∧ η 0 17 ≤ 4 := wf_ok (a := 17) (b := 17) (z := (0, 4)) hp.1 (by decide +kernel) (Nat.le_refl _) (Nat.le_refl _)
  replace e1 : x1 = η 0 17 := e1
  have w0_0_7 : (0 : Int) ≤ η 0 7 ∧ η 0 7 ≤ 700 := wf_ok (a := 7) (b := 7) (z := (0, 700)) hp.1 (by decide +kernel) (Nat.le_refl _) (Nat.le_refl _)
  have c0_0_7 : η 0 7 = η 0 7 := rfl
  have w0_0_6 : (0 : Int) ≤ η 0 6 ∧ η 0 6 ≤ 700 := wf_ok (a := 6) (b := 6) (z := (0, 700)) hp.1 (by decide +kernel) (Nat.le_refl _) (Nat.le_refl _)
  have c0_0_6 : η 0 6 = η 0 6 := rfl
  have w0_0_8 : (0 : Int) ≤ η 0 8 ∧ η 0 8 ≤ 6 := wf_ok (a := 8) (b := 8) (z := (0, 6)) hp.1 (by decide +kernel) (Nat.le_refl _) (Nat.le_refl _)
  have c0_0_8 : η 0 8 = η 0 8 := rfl
  have bx2 : (0 : Int) ≤ x2 ∧ x2 ≤ 0 := k2.1.2.1
  have w1_0_7 : (0 : Int) ≤ η1 0 7 ∧ η1 0 7 ≤ 700 := wf_ok (a := 7) (b := 7) (z := (0, 700)) k2.1.1 (by decide +kernel) (Nat.le_refl _) (Nat.le_refl _)
  have d1_0_7 : η1 0 7 = η1 0 7 := rfl
  have v5 : zEq (η1 0 6) (η 0 6) := (k2.1.2.2.2.1 0 6 (by decide +kernel)).trans rfl
  have d1_0_6 : η1 0 6 = η 0 6 := v5
  have w1_0_8 : (0 : Int) ≤ η1 0 8 ∧ η1 0 8 ≤ 6 := wf_ok (a := 8) (b := 8) (z := (0, 6)) k2.1.1 (by decide +kernel) (Nat.le_refl _) (Nat.le_refl _)
  have d1_0_8 : η1 0 8 = η1 0 8 := rfl
  have v7 : zEq (η1 0 17) (η 0 17) := (k2.1.2.2.2.1 0 17 (by decide +kernel)).trans rfl
  replace e3 : x3 = η 0 17 := e3.trans v7
  first
  | replace e4 : x4 = 4 + x3 := zd_a2 (zEq_o e4) (by clear e4; exact ⟨by omega, by omega⟩)
  | clear e4
  have w1_0_10 : (0 : Int) ≤ η1 0 10 ∧ η1 0 10 ≤ 700 := wf_ok (a := 10) (b := 10) (z := (0, 700)) k2.1.1 (by decide +kernel) (Nat.le_refl _) (Nat.le_refl _)
  replace e5 : x5 = η1 0 10 := e5
  have c1_0_7 : η1 0 7 = η1 0 7 := rfl
  have c1_0_6 : η1 0 6 = η 0 6 := v5
  have c1_0_8 : η1 0 8 = η1 0 8 := rfl
  have bx6 : (0 : Int) ≤ x6 ∧ x6 ≤ 1 := k6.1.2.1
  have w2_0_7 : (0 : Int) ≤ η2 0 7 ∧ η2 0 7 ≤ 700 := wf_ok (a := 7) (b := 7) (z := (0, 700)) k6.1.1 (by decide +kernel) (Nat.le_refl _) (Nat.le_refl _)
  have d2_0_7 : η2 0 7 = η2 0 7 := rfl
  have v10 : zEq (η2 0 6) (η 0 6) := (k6.1.2.2.2.1 0 6 (by decide +kernel)).trans v5
  have d2_0_6 : η2 0 6 = η 0 6 := v10
  have w2_0_8 : (0 : Int) ≤ η2 0 8 ∧ η2 0 8 ≤ 6 := wf_ok (a := 8) (b := 8) (z := (0, 6)) k6.1.1 (by decide +kernel) (Nat.le_refl _) (Nat.le_refl _)
  have d2_0_8 : η2 0 8 = η2 0 8 := rfl
  have v12 : zEq (η2 0 17) (η 0 17) := (k6.1.2.2.2.1 0 17 (by decide +kernel)).trans v7
  replace e7 : x7 = η 0 17 := e7.trans v12
  replace e8 : x8 = η2 0 11 := e8
  replace r8 : -2147483648 ≤ x8 ∧ x8 ≤ 2147483647 := r8
  have c2_0_7 : η2 0 7 = η2 0 7 := rfl
  have c2_0_6 : η2 0 6 = η 0 6 := v10
  have c2_0_8 : η2 0 8 = η2 0 8 := rfl
  have bx9 : ((-1) : Int) ≤ x9 ∧ x9 ≤ 3 := k9.1.2.1
  have v14 : zEq (η3 0 7) (η2 0 7) := (k9.1.2.2.2.1 0 7 (by decide +kernel)).trans rfl
  have d3_0_7 : η3 0 7 = η2 0 7 := v14
  have v15 : zEq (η3 0 6) (η 0 6) := (k9.1.2.2.2.1 0 6 (by decide +kernel)).trans v10
  have d3_0_6 : η3 0 6 = η 0 6 := v15
  have v16 : zEq (η3 0 8) (η2 0 8) := (k9.1.2.2.2.1 0 8 (by decide +kernel)).trans rfl
  have d3_0_8 : η3 0 8 = η2 0 8 := v16
  have v17 : zEq (η3 0 11) (η2 0 11) := (k9.1.2.2.2.1 0 11 (by decide +kernel)).trans rfl
  replace e10 : x10 = η2 0 11 := e10.trans v17
  replace r10 : -2147483648 ≤ x10 ∧ x10 ≤ 2147483647 := r10
  have v18 : zEq (η4 0 7) (η2 0 7) := by rw [eη4]; exact (zup_ne (fun e _ => absurd e (by decide))).trans v14
  have c4_0_7 : η4 0 7 = η2 0 7 := v18
  have v19 : zEq (η4 0 6) (η 0 6) := by rw [eη4]; exact (zup_ne (fun e _ => absurd e (by decide))).trans v15
  have c4_0_6 : η4 0 6 = η 0 6 := v19
  have v20 : zEq (η4 0 8) (η2 0 8) := by rw [eη4]; exact (zup_ne (fun e _ => absurd e (by decide))).trans v16
  have c4_0_8 : η4 0 8 = η2 0 8 := v20
  have bx11 : (0 : Int) ≤ x11 ∧ x11 ≤ 1 := k11.1.2.1
  have w5_0_7 : (0 : Int) ≤ η5 0 7 ∧ η5 0 7 ≤ 700 := wf_ok (a := 7) (b := 7) (z := (0, 700)) k11.1.1 (by decide +kernel) (Nat.le_refl _) (Nat.le_refl _)
  have d5_0_7 : η5 0 7 = η5 0 7 := rfl
  have v22 : zEq (η5 0 6) (η 0 6) := (k11.1.2.2.2.1 0 6 (by decide +kernel)).trans v19
  have d5_0_6 : η5 0 6 = η 0 6 := v22
  have w5_0_8 : (0 : Int) ≤ η5 0 8 ∧ η5 0 8 ≤ 6 := wf_ok (a := 8) (b := 8) (z := (0, 6)) k11.1.1 (by decide +kernel) (Nat.le_refl _) (Nat.le_refl _)
  have d5_0_8 : η5 0 8 = η5 0 8 := rfl
  replace e12 : x12 = η5 0 11 := e12
  replace r12 : -2147483648 ≤ x12 ∧ x12 ≤ 2147483647 := r12
  have v25 : zEq (η6 0 7) (η5 0 7) := by rw [eη6]; exact (zup_ne (fun e _ => absurd e (by decide))).trans rfl
  have f0_7 : η6 0 7 = η5 0 7 := v25
  have v26 : zEq (η6 0 6) (η 0 6) := by rw [eη6]; exact (zup_ne (fun e _ => absurd e (by decide))).trans v22
  have f0_6 : η6 0 6 = η 0 6 := v26
  have v27 : zEq (η6 0 8) (η5 0 8) := by rw [eη6]; exact (zup_ne (fun e _ => absurd e (by decide))).trans rfl
  have f0_8 : η6 0 8 = η5 0 8 := v27
  have qt2 : ¬ η 0 8 = 0 → 10 * (η1 0 6 - η1 0 7) + η1 0 8 < 10 * (η 0 6 - η 0 7) + η 0 8 := k2.2.2
  have qn6 : ¬ x6 = 0 → 10 * (η2 0 6 - η2 0 7) + η2 0 8 < 10 * (η1 0 6 - η1 0 7) + η1 0 8 := k6.2.2
  have g4 : G_n η4 := by rw [eη4]; exact zGk_up gk_n k9.2 (by decide +kernel)
  have qn11 : ¬ x11 = 0 → 10 * (η5 0 6 - η5 0 7) + η5 0 8 < 10 * (η4 0 6 - η4 0 7) + η4 0 8 := k11.2.2
  have g6 : G_n η6 := by rw [eη6]; exact zGk_up gk_n k11.2.1 (by decide +kernel)
  exact g6
set_option maxHeartbeats 8000000 in
theorem zn_scratLine_o5 {ro : Nat → List Int32} (η : zE) (hp : sP wl_n zTr zPn_scratLine [] η) (hpp : pPn_scratLine [] η) : ∀ x1 : Int, x1 = η 0 (Int.toNat 17) → zok 0 x1 → (¬ x1 = 4) → ∀ (x2 : Int) (η1 : zE), ((gC2 wl_n [(nat_lit 0, zPn_wrong, zOn_wrong, zMn_wrong), (nat_lit 1, zPn_token, zOn_token, zMn_token), (nat_lit 2, zPn_number, zOn_number, zMn_number), (nat_lit 3, zPn_find_s, zOn_find_s, zMn_find_s)] pCn_scratLine qCn_scratLine) 1).2 [] η x2 η1 → ∀ x3 : Int, x3 = η1 0 (Int.toNat 17) → zok 0 x3 → ∀ x4 : Int, x4 = zd 0 1 4 x3 → ∀ x5 : Int, x5 = η1 0 (Int.toNat 10) → zok 0 x5 → ∀ (x6 : Int) (η2 : zE), ((gC2 wl_n [(nat_lit 0, zPn_wrong, zOn_wrong, zMn_wrong), (nat_lit 1, zPn_token, zOn_token, zMn_token), (nat_lit 2, zPn_number, zOn_number, zMn_number), (nat_lit 3, zPn_find_s, zOn_find_s, zMn_find_s)] pCn_scratLine qCn_scratLine) 2).2 [0, 11] η1 x6 η2 → (¬ x6 = 0) → ∀ x7 : Int, x7 = η2 0 (Int.toNat 17) → zok 0 x7 → ∀ x8 : Int, x8 = η2 0 (Int.toNat 11) → zok 0 x8 → ∀ (x9 : Int) (η3 : zE), ((gC2 wl_n [(nat_lit 0, zPn_wrong, zOn_wrong, zMn_wrong), (nat_lit 1, zPn_token, zOn_token, zMn_token), (nat_lit 2, zPn_number, zOn_number, zMn_number), (nat_lit 3, zPn_find_s, zOn_find_s, zMn_find_s)] pCn_scratLine qCn_scratLine) 3).2 [x7, x8] η2 x9 η3 → (x9 < 0) → ∀ x10 : Int, x10 = η3 0 (Int.toNat 11) → zok 0 x10 → ∀ η4 : zE, η4 = zup η3 7 (Int.toNat x4) x10 → ∀ (x11 : Int) (η5 : zE), ((gC2 wl_n [(nat_lit 0, zPn_wrong, zOn_wrong, zMn_wrong), (nat_lit 1, zPn_token, zOn_token, zMn_token), (nat_lit 2, zPn_number, zOn_number, zMn_number), (nat_lit 3, zPn_find_s, zOn_find_s, zMn_find_s)] pCn_scratLine qCn_scratLine) 2).2 [0, 100] η4 x11 η5 → (¬ x11 = 0) → ∀ x12 : Int, x12 = η5 0 (Int.toNat 11) → zok 0 x12 → ∀ η6 : zE, η6 = zup η5 8 (Int.toNat x4) x12 → ∀ (x13 : Int) (η7 : zE), ((gC2 wl_n [(nat_lit 0, zPn_wrong, zOn_wrong, zMn_wrong), (nat_lit 1, zPn_token, zOn_token, zMn_token), (nat_lit 2, zPn_number, zOn_number, zMn_number), (nat_lit 3, zPn_find_s, zOn_find_s, zMn_find_s)] pCn_scratLine qCn_scratLine) 2).2 [1, 9] η6 x13 η7 → (¬ x13 = 0) → ∀ x14 : Int, x14 = η7 0 (Int.toNat 11) → zok 0 x14 → ∀ η8 : zE, η8 = zup η7 9 (Int.toNat x4) x14 → ∀ x15 : Int, x15 = η8 8 (Int.toNat x4) → zok 0 x15 → ∀ x16 : Int, x16 = zd 0 2 100 x15 → ((gC2 wl_n [(nat_lit 0, zPn_wrong, zOn_wrong, zMn_wrong), (nat_lit 1, zPn_token, zOn_token, zMn_token), (nat_lit 2, zPn_number, zOn_number, zMn_number), (nat_lit 3, zPn_find_s, zOn_find_s, zMn_find_s)] pCn_scratLine qCn_scratLine) 2).1 [0, x16] η8 := by
  have hk : ¬ η 0 8 = 0 := hpp.2
  intro x1 e1 r1 c1 x2 η1 h2 x3 e3 r3 x4 e4 x5 e5 r5 x6 η2 h6 c2 x7 e7 r7 x8 e8 r8 x9 η3 h9 c3 x10 e10 r10 η4 eη4 x11 η5 h11 c4 x12 e12 r12 η6 eη6 x13 η7 h13 c5 x14 e14 r14 η8 eη8 x15 e15 r15 x16 e16
  replace e4 := zEq_i e4
  replace e16 := zEq_i e16
  have k2 : sQ wl_n zTr zOn_token zMn_token [] η x2 η1 ∧ pQn_token [] η x2 η1 := h2
  have k6 : sQ wl_n zTr zOn_number zMn_number [0, 11] η1 x6 η2 ∧ pQn_number [0, 11] η1 x6 η2 := h6
  have k9 : sQ wl_n zTr zOn_find_s zMn_find_s [x7, x8] η2 x9 η3 ∧ pQn_find_s [x7, x8] η2 x9 η3 := h9
  have k11 : sQ wl_n zTr zOn_number zMn_number [0, 100] η4 x11 η5 ∧ pQn_number [0, 100] η4 x11 η5 := h11
  have k13 : sQ wl_n zTr zOn_number zMn_number [1, 9] η6 x13 η7 ∧ pQn_number [1, 9] η6 x13 η7 := h13
  have w0_0_17 : (0 : Int) ≤ η 0 17 ∧ η 0 17 ≤ 4 := wf_ok (a := 17) (b := 17) (z := (0, 4)) hp.1 (by decide +kernel) (Nat.le_refl _) (Nat.le_refl _)
  replace e1 : x1 = η 0 17 := e1
  have w0_0_7 : (0 : Int) ≤ η 0 7 ∧ η 0 7 ≤ 700 := wf_ok (a := 7) (b := 7) (z := (0, 700)) hp.1 (by decide +kernel) (Nat.le_refl _) (Nat.le_refl _)
  have c0_0_7 : η 0 7 = η 0 7 := rfl
  have w0_0_6 : (0 : Int) ≤ η 0 6 ∧ η 0 6 ≤ 700 := wf_ok (a := 6) (b := 6) (z := (0, 700)) hp.1 (by decide +kernel) (Nat.le_refl _) (Nat.le_refl _)
  have c0_0_6 : η 0 6 = η 0 6 := rfl
  have w0_0_8 : (0 : Int) ≤ η 0 8 ∧ η 0 8 ≤ 6 := wf_ok (a := 8) (b := 8) (z := (0, 6)) hp.1 (by decide +kernel) (Nat.le_refl _) (Nat.le_refl _)
  have c0_0_8 : η 0 8 = η 0 8 := rfl
  have bx2 : (0 : Int) ≤ x2 ∧ x2 ≤ 0 := k2.1.2.1
  have w1_0_7 : (0 : Int) ≤ η1 0 7 ∧ η1 0 7 ≤ 700 := wf_ok (a := 7) (b := 7) (z := (0, 700)) k2.1.1 (by decide +kernel) (Nat.le_refl _) (Nat.le_refl _)
  have d1_0_7 : η1 0 7 = η1 0 7 := rfl
  have v5 : zEq (η1 0 6) (η 0 6) := (k2.1.2.2.2.1 0 6 (by decide +kernel)).trans rfl
  have d1_0_6 : η1 0 6 = η 0 6 := v5
  have w1_0_8 : (0 : Int) ≤ η1 0 8 ∧ η1 0 8 ≤ 6 := wf_ok (a := 8) (b := 8) (z := (0, 6)) k2.1.1 (by decide +kernel) (Nat.le_refl _) (Nat.le_refl _)
  have d1_0_8 : η1 0 8 = η1 0 8 := rfl
  have v7 : zEq (η1 0 17) (η 0 17) := (k2.1.2.2.2.1 0 17 (by decide +kernel)).trans rfl
  replace e3 : x3 = η 0 17 := e3.trans v7
  first
  | replace e4 : x4 = 4 + x3 := zd_a2 (zEq_o e4) (by clear e4; exact ⟨by omega, by omega⟩)
  | clear e4
  have w1_0_10 : (0 : Int) ≤ η1 0 10 ∧ η1 0 10 ≤ 700 := wf_ok (a := 10) (b := 10) (z := (0, 700)) k2.1.1 (by decide +kernel) (Nat.le_refl _) (Nat.le_refl _)
  replace e5 : x5 = η1 0 10 := e5
  have c1_0_7 : η1 0 7 = η1 0 7 := rfl
  have c1_0_6 : η1 0 6 = η 0 6 := v5
  have c1_0_8 : η1 0 8 = η1 0 8 := rfl
  have bx6 : (0 : Int) ≤ x6 ∧ x6 ≤ 1 := k6.1.2.1
  have w2_0_7 : (0 : Int) ≤ η2 0 7 ∧ η2 0 7 ≤ 700 := wf_ok (a := 7) (b := 7) (z := (0, 700)) k6.1.1 (by decide +kernel) (Nat.le_refl _) (Nat.le_refl _)
  have d2_0_7 : η2 0 7 = η2 0 7 := rfl
  have v10 : zEq (η2 0 6) (η 0 6) := (k6.1.2.2.2.1 0 6 (by decide +kernel)).trans v5
  have d2_0_6 : η2 0 6 = η 0 6 := v10
  have w2_0_8 : (0 : Int) ≤ η2 0 8 ∧ η2 0 8 ≤ 6 := wf_ok (a := 8) (b := 8) (z := (0, 6)) k6.1.1 (by decide +kernel) (Nat.le_refl _) (Nat.le_refl _)
  have d2_0_8 : η2 0 8 = η2 0 8 := rfl
  have v12 : zEq (η2 0 17) (η 0 17) := (k6.1.2.2.2.1 0 17 (by decide +kernel)).trans v7
  replace e7 : x7 = η 0 17 := e7.trans v12
  replace e8 : x8 = η2 0 11 := e8
  replace r8 : -2147483648 ≤ x8 ∧ x8 ≤ 2147483647 := r8
  have c2_0_7 : η2 0 7 = η2 0 7 := rfl
  have c2_0_6 : η2 0 6 = η 0 6 := v10
  have c2_0_8 : η2 0 8 = η2 0 8 := rfl
  have bx9 : ((-1) : Int) ≤ x9 ∧ x9 ≤ 3 := k9.1.2.1
  have v14 : zEq (η3 0 7) (η2 0 7) := (k9.1.2.2.2.1 0 7 (by decide +kernel)).trans rfl
  have d3_0_7 : η3 0 7 = η2 0 7 := v14
  have v15 : zEq (η3 0 6) (η 0 6) := (k9.1.2.2.2.1 0 6 (by decide +kernel)).trans v10
  have d3_0_6 : η3 0 6 = η 0 6 := v15
  have v16 : zEq (η3 0 8) (η2 0 8) := (k9.1.2.2.2.1 0 8 (by decide +kernel)).trans rfl
  have d3_0_8 : η3 0 8 = η2 0 8 := v16
  have v17 : zEq (η3 0 11) (η2 0 11) := (k9.1.2.2.2.1 0 11 (by decide +kernel)).trans rfl
  replace e10 : x10 = η2 0 11 := e10.trans v17
  replace r10 : -2147483648 ≤ x10 ∧ x10 ≤ 2147483647 := r10
  have v18 : zEq (η4 0 7) (η2 0 7) := by rw [eη4]; exact (zup_ne (fun e _ => absurd e (by decide))).trans v14
  have c4_0_7 : η4 0 7 = η2 0 7 := v18
  have v19 : zEq (η4 0 6) (η 0 6) := by rw [eη4]; exact (zup_ne (fun e _ => absurd e (by decide))).trans v15
  have c4_0_6 : η4 0 6 = η 0 6 := v19
  have v20 : zEq (η4 0 8) (η2 0 8) := by rw [eη4]; exact (zup_ne (fun e _ => absurd e (by decide))).trans v16
  have c4_0_8 : η4 0 8 = η2 0 8 := v20
  have bx11 : (0 : Int) ≤ x11 ∧ x11 ≤ 1 := k11.1.2.1
  have w5_0_7 : (0 : Int) ≤ η5 0 7 ∧ η5 0 7 ≤ 700 := wf_ok (a := 7) (b := 7) (z := (0, 700)) k11.1.1 (by decide +kernel) (Nat.le_refl _) (Nat.le_refl _)
  have d5_0_7 : η5 0 7 = η5 0 7 := rfl
  have v22 : zEq (η5 0 6) (η 0 6) := (k11.1.2.2.2.1 0 6 (by decide +kernel)).trans v19
  have d5_0_6 : η5 0 6 = η 0 6 := v22
  have w5_0_8 : (0 : Int) ≤ η5 0 8 ∧ η5 0 8 ≤ 6 := wf_ok (a := 8) (b := 8) (z := (0, 6)) k11.1.1 (by decide +kernel) (Nat.le_refl _) (Nat.le_refl _)
  have d5_0_8 : η5 0 8 = η5 0 8 := rfl
  replace e12 : x12 = η5 0 11 := e12
  replace r12 : -2147483648 ≤ x12 ∧ x12 ≤ 2147483647 := r12
  have v25 : zEq (η6 0 7) (η5 0 7) := by rw [eη6]; exact (zup_ne (fun e _ => absurd e (by decide))).trans rfl
  have c6_0_7 : η6 0 7 = η5 0 7 := v25
  have v26 : zEq (η6 0 6) (η 0 6) := by rw [eη6]; exact (zup_ne (fun e _ => absurd e (by decide))).trans v22
  have c6_0_6 : η6 0 6 = η 0 6 := v26
  have v27 : zEq (η6 0 8) (η5 0 8) := by rw [eη6]; exact (zup_ne (fun e _ => absurd e (by decide))).trans rfl
  have c6_0_8 : η6 0 8 = η5 0 8 := v27
  have bx13 : (0 : Int) ≤ x13 ∧ x13 ≤ 1 := k13.1.2.1
  have w7_0_7 : (0 : Int) ≤ η7 0 7 ∧ η7 0 7 ≤ 700 := wf_ok (a := 7) (b := 7) (z := (0, 700)) k13.1.1 (by decide +kernel) (Nat.le_refl _) (Nat.le_refl _)
  have d7_0_7 : η7 0 7 = η7 0 7 := rfl
  have v29 : zEq (η7 0 6) (η 0 6) := (k13.1.2.2.2.1 0 6 (by decide +kernel)).trans v26
  have d7_0_6 : η7 0 6 = η 0 6 := v29
  have w7_0_8 : (0 : Int) ≤ η7 0 8 ∧ η7 0 8 ≤ 6 := wf_ok (a := 8) (b := 8) (z := (0, 6)) k13.1.1 (by decide +kernel) (Nat.le_refl _) (Nat.le_refl _)
  have d7_0_8 : η7 0 8 = η7 0 8 := rfl
  replace e14 : x14 = η7 0 11 := e14
  replace r14 : -2147483648 ≤ x14 ∧ x14 ≤ 2147483647 := r14
  have v32 : zEq (η6 8 (Int.toNat x4)) (x12) := by rw [eη6]; exact zup_eq
  have v33 : zEq (η7 8 (Int.toNat x4)) (x12) := (k13.1.2.2.2.1 8 _ (zinr_not (by decide +kernel))).trans v32
  have v34 : zEq (η8 8 (Int.toNat x4)) (x12) := by rw [eη8]; exact (zup_ne (fun e _ => absurd e (by decide))).trans v33
  replace e15 : x15 = x12 := e15.trans v34
  replace r15 : -2147483648 ≤ x15 ∧ x15 ≤ 2147483647 := r15
  first
  | replace e16 : x16 = 100 - x15 := zd_s2 (zEq_o e16) (by clear e16; exact ⟨by omega, by omega⟩)
  | clear e16
  have v35 : zEq (η8 0 7) (η7 0 7) := by rw [eη8]; exact (zup_ne (fun e _ => absurd e (by decide))).trans rfl
  have f0_7 : η8 0 7 = η7 0 7 := v35
  have v36 : zEq (η8 0 6) (η 0 6) := by rw [eη8]; exact (zup_ne (fun e _ => absurd e (by decide))).trans v29
  have f0_6 : η8 0 6 = η 0 6 := v36
  have v37 : zEq (η8 0 8) (η7 0 8) := by rw [eη8]; exact (zup_ne (fun e _ => absurd e (by decide))).trans rfl
  have f0_8 : η8 0 8 = η7 0 8 := v37
  have qt2 : ¬ η 0 8 = 0 → 10 * (η1 0 6 - η1 0 7) + η1 0 8 < 10 * (η 0 6 - η 0 7) + η 0 8 := k2.2.2
  have qn6 : ¬ x6 = 0 → 10 * (η2 0 6 - η2 0 7) + η2 0 8 < 10 * (η1 0 6 - η1 0 7) + η1 0 8 := k6.2.2
  have g4 : G_n η4 := by rw [eη4]; exact zGk_up gk_n k9.2 (by decide +kernel)
  have qn11 : ¬ x11 = 0 → 10 * (η5 0 6 - η5 0 7) + η5 0 8 < 10 * (η4 0 6 - η4 0 7) + η4 0 8 := k11.2.2
  have g6 : G_n η6 := by rw [eη6]; exact zGk_up gk_n k11.2.1 (by decide +kernel)
  have qn13 : ¬ x13 = 0 → 10 * (η7 0 6 - η7 0 7) + η7 0 8 < 10 * (η6 0 6 - η6 0 7) + η6 0 8 := k13.2.2
  have g8 : G_n η8 := by rw [eη8]; exact zGk_up gk_n k13.2.1 (by decide +kernel)
  exact g8
set_option maxHeartbeats 8000000 in
theorem zn_scratLine_o6 {ro : Nat → List Int32} (η : zE) (hp : sP wl_n zTr zPn_scratLine [] η) (hpp : pPn_scratLine [] η) : ∀ x1 : Int, x1 = η 0 (Int.toNat 17) → zok 0 x1 → (¬ x1 = 4) → ∀ (x2 : Int) (η1 : zE), ((gC2 wl_n [(nat_lit 0, zPn_wrong, zOn_wrong, zMn_wrong), (nat_lit 1, zPn_token, zOn_token, zMn_token), (nat_lit 2, zPn_number, zOn_number, zMn_number), (nat_lit 3, zPn_find_s, zOn_find_s, zMn_find_s)] pCn_scratLine qCn_scratLine) 1).2 [] η x2 η1 → ∀ x3 : Int, x3 = η1 0 (Int.toNat 17) → zok 0 x3 → ∀ x4 : Int, x4 = zd 0 1 4 x3 → ∀ x5 : Int, x5 = η1 0 (Int.toNat 10) → zok 0 x5 → ∀ (x6 : Int) (η2 : zE), ((gC2 wl_n [(nat_lit 0, zPn_wrong, zOn_wrong, zMn_wrong), (nat_lit 1, zPn_token, zOn_token, zMn_token), (nat_lit 2, zPn_number, zOn_number, zMn_number), (nat_lit 3, zPn_find_s, zOn_find_s, zMn_find_s)] pCn_scratLine qCn_scratLine) 2).2 [0, 11] η1 x6 η2 → (¬ x6 = 0) → ∀ x7 : Int, x7 = η2 0 (Int.toNat 17) → zok 0 x7 → ∀ x8 : Int, x8 = η2 0 (Int.toNat 11) → zok 0 x8 → ∀ (x9 : Int) (η3 : zE), ((gC2 wl_n [(nat_lit 0, zPn_wrong, zOn_wrong, zMn_wrong), (nat_lit 1, zPn_token, zOn_token, zMn_token), (nat_lit 2, zPn_number, zOn_number, zMn_number), (nat_lit 3, zPn_find_s, zOn_find_s, zMn_find_s)] pCn_scratLine qCn_scratLine) 3).2 [x7, x8] η2 x9 η3 → (x9 < 0) → ∀ x10 : Int, x10 = η3 0 (Int.toNat 11) → zok 0 x10 → ∀ η4 : zE, η4 = zup η3 7 (Int.toNat x4) x10 → ∀ (x11 : Int) (η5 : zE), ((gC2 wl_n [(nat_lit 0, zPn_wrong, zOn_wrong, zMn_wrong), (nat_lit 1, zPn_token, zOn_token, zMn_token), (nat_lit 2, zPn_number, zOn_number, zMn_number), (nat_lit 3, zPn_find_s, zOn_find_s, zMn_find_s)] pCn_scratLine qCn_scratLine) 2).2 [0, 100] η4 x11 η5 → (¬ x11 = 0) → ∀ x12 : Int, x12 = η5 0 (Int.toNat 11) → zok 0 x12 → ∀ η6 : zE, η6 = zup η5 8 (Int.toNat x4) x12 → ∀ (x13 : Int) (η7 : zE), ((gC2 wl_n [(nat_lit 0, zPn_wrong, zOn_wrong, zMn_wrong), (nat_lit 1, zPn_token, zOn_token, zMn_token), (nat_lit 2, zPn_number, zOn_number, zMn_number), (nat_lit 3, zPn_find_s, zOn_find_s, zMn_find_s)] pCn_scratLine qCn_scratLine) 2).2 [1, 9] η6 x13 η7 → (¬ x13 = 0) → ∀ x14 : Int, x14 = η7 0 (Int.toNat 11) → zok 0 x14 → ∀ η8 : zE, η8 = zup η7 9 (Int.toNat x4) x14 → ∀ x15 : Int, x15 = η8 8 (Int.toNat x4) → zok 0 x15 → ∀ x16 : Int, x16 = zd 0 2 100 x15 → ∀ (x17 : Int) (η9 : zE), ((gC2 wl_n [(nat_lit 0, zPn_wrong, zOn_wrong, zMn_wrong), (nat_lit 1, zPn_token, zOn_token, zMn_token), (nat_lit 2, zPn_number, zOn_number, zMn_number), (nat_lit 3, zPn_find_s, zOn_find_s, zMn_find_s)] pCn_scratLine qCn_scratLine) 2).2 [0, x16] η8 x17 η9 → (¬ x17 = 0) → ∀ x18 : Int, x18 = η9 0 (Int.toNat 11) → zok 0 x18 → ∀ η10 : zE, η10 = zup η9 10 (Int.toNat x4) x18 → ((gC2 wl_n [(nat_lit 0, zPn_wrong, zOn_wrong, zMn_wrong), (nat_lit 1, zPn_token, zOn_token, zMn_token), (nat_lit 2, zPn_number, zOn_number, zMn_number), (nat_lit 3, zPn_find_s, zOn_find_s, zMn_find_s)] pCn_scratLine qCn_scratLine) 2).1 [1, 9] η10 := by
  have hk : ¬ η 0 8 = 0 := hpp.2
  intro x1 e1 r1 c1 x2 η1 h2 x3 e3 r3 x4 e4 x5 e5 r5 x6 η2 h6 c2 x7 e7 r7 x8 e8 r8 x9 η3 h9 c3 x10 e10 r10 η4 eη4 x11 η5 h11 c4 x12 e12 r12 η6 eη6 x13 η7 h13 c5 x14 e14 r14 η8 eη8 x15 e15 r15 x16 e16 x17 η9 h17 c6 x18 e18 r18 η10 eη10
  replace e4 := zEq_i e4
  replace e16 := zEq_i e16
  have k2 : sQ wl_n zTr zOn_token zMn_token [] η x2 η1 ∧ pQn_token [] η x2 η1 := h2
  have k6 : sQ wl_n zTr zOn_number zMn_number [0, 11] η1 x6 η2 ∧ pQn_number [0, 11] η1 x6 η2 := h6
  have k9 : sQ wl_n zTr zOn_find_s zMn_find_s [x7, x8] η2 x9 η3 ∧ pQn_find_s [x7, x8] η2 x9 η3 := h9
  have k11 : sQ wl_n zTr zOn_number zMn_number [0, 100] η4 x11 η5 ∧ pQn_number [0, 100] η4 x11 η5 := h11
  have k13 : sQ wl_n zTr zOn_number zMn_number [1, 9] η6 x13 η7 ∧ pQn_number [1, 9] η6 x13 η7 := h13
  have k17 : sQ wl_n zTr zOn_number zMn_number [0, x16] η8 x17 η9 ∧ pQn_number [0, x16] η8 x17 η9 := h17
  have w0_0_17 : (0 : Int) ≤ η 0 17 ∧ η 0 17 ≤ 4 := wf_ok (a := 17) (b := 17) (z := (0, 4)) hp.1 (by decide +kernel) (Nat.le_refl _) (Nat.le_refl _)
  replace e1 : x1 = η 0 17 := e1
  have w0_0_7 : (0 : Int) ≤ η 0 7 ∧ η 0 7 ≤ 700 := wf_ok (a := 7) (b := 7) (z := (0, 700)) hp.1 (by decide +kernel) (Nat.le_refl _) (Nat.le_refl _)
  have c0_0_7 : η 0 7 = η 0 7 := rfl
  have w0_0_6 : (0 : Int) ≤ η 0 6 ∧ η 0 6 ≤ 700 := wf_ok (a := 6) (b := 6) (z := (0, 700)) hp.1 (by decide +kernel) (Nat.le_refl _) (Nat.le_refl _)
  have c0_0_6 : η 0 6 = η 0 6 := rfl
  have w0_0_8 : (0 : Int) ≤ η 0 8 ∧ η 0 8 ≤ 6 := wf_ok (a := 8) (b := 8) (z := (0, 6)) hp.1 (by decide +kernel) (Nat.le_refl _) (Nat.le_refl _)
  have c0_0_8 : η 0 8 = η 0 8 := rfl
  have bx2 : (0 : Int) ≤ x2 ∧ x2 ≤ 0 := k2.1.2.1
  have w1_0_7 : (0 : Int) ≤ η1 0 7 ∧ η1 0 7 ≤ 700 := wf_ok (a := 7) (b := 7) (z := (0, 700)) k2.1.1 (by decide +kernel) (Nat.le_refl _) (Nat.le_refl _)
  have d1_0_7 : η1 0 7 = η1 0 7 := rfl
  have v5 : zEq (η1 0 6) (η 0 6) := (k2.1.2.2.2.1 0 6 (by decide +kernel)).trans rfl
  have d1_0_6 : η1 0 6 = η 0 6 := v5
  have w1_0_8 : (0 : Int) ≤ η1 0 8 ∧ η1 0 8 ≤ 6 := wf_ok (a := 8) (b := 8) (z := (0, 6)) k2.1.1 (by decide +kernel) (Nat.le_refl _) (Nat.le_refl _)
  have d1_0_8 : η1 0 8 = η1 0 8 := rfl
  have v7 : zEq (η1 0 17) (η 0 17) := (k2.1.2.2.2.1 0 17 (by decide +kernel)).trans rfl
  replace e3 : x3 = η 0 17 := e3.trans v7
  first
  | replace e4 : x4 = 4 + x3 := zd_a2 (zEq_o e4) (by clear e4; exact ⟨by omega, by omega⟩)
  | clear e4
  have w1_0_10 : (0 : Int) ≤ η1 0 10 ∧ η1 0 10 ≤ 700 := wf_ok (a := 10) (b := 10) (z := (0, 700)) k2.1.1 (by decide +kernel) (Nat.le_refl _) (Nat.le_refl _)
  replace e5 : x5 = η1 0 10 := e5
  have c1_0_7 : η1 0 7 = η1 0 7 := rfl
  have c1_0_6 : η1 0 6 = η 0 6 := v5
  have c1_0_8 : η1 0 8 = η1 0 8 := rfl
  have bx6 : (0 : Int) ≤ x6 ∧ x6 ≤ 1 := k6.1.2.1
  have w2_0_7 : (0 : Int) ≤ η2 0 7 ∧ η2 0 7 ≤ 700 := wf_ok (a := 7) (b := 7) (z := (0, 700)) k6.1.1 (by decide +kernel) (Nat.le_refl _) (Nat.le_refl _)
  have d2_0_7 : η2 0 7 = η2 0 7 := rfl
  have v10 : zEq (η2 0 6) (η 0 6) := (k6.1.2.2.2.1 0 6 (by decide +kernel)).trans v5
  have d2_0_6 : η2 0 6 = η 0 6 := v10
  have w2_0_8 : (0 : Int) ≤ η2 0 8 ∧ η2 0 8 ≤ 6 := wf_ok (a := 8) (b := 8) (z := (0, 6)) k6.1.1 (by decide +kernel) (Nat.le_refl _) (Nat.le_refl _)
  have d2_0_8 : η2 0 8 = η2 0 8 := rfl
  have v12 : zEq (η2 0 17) (η 0 17) := (k6.1.2.2.2.1 0 17 (by decide +kernel)).trans v7
  replace e7 : x7 = η 0 17 := e7.trans v12
  replace e8 : x8 = η2 0 11 := e8
  replace r8 : -2147483648 ≤ x8 ∧ x8 ≤ 2147483647 := r8
  have c2_0_7 : η2 0 7 = η2 0 7 := rfl
  have c2_0_6 : η2 0 6 = η 0 6 := v10
  have c2_0_8 : η2 0 8 = η2 0 8 := rfl
  have bx9 : ((-1) : Int) ≤ x9 ∧ x9 ≤ 3 := k9.1.2.1
  have v14 : zEq (η3 0 7) (η2 0 7) := (k9.1.2.2.2.1 0 7 (by decide +kernel)).trans rfl
  have d3_0_7 : η3 0 7 = η2 0 7 := v14
  have v15 : zEq (η3 0 6) (η 0 6) := (k9.1.2.2.2.1 0 6 (by decide +kernel)).trans v10
  have d3_0_6 : η3 0 6 = η 0 6 := v15
  have v16 : zEq (η3 0 8) (η2 0 8) := (k9.1.2.2.2.1 0 8 (by decide +kernel)).trans rfl
  have d3_0_8 : η3 0 8 = η2 0 8 := v16
  have v17 : zEq (η3 0 11) (η2 0 11) := (k9.1.2.2.2.1 0 11 (by decide +kernel)).trans rfl
  replace e10 : x10 = η2 0 11 := e10.trans v17
  replace r10 : -2147483648 ≤ x10 ∧ x10 ≤ 2147483647 := r10
  have v18 : zEq (η4 0 7) (η2 0 7) := by rw [eη4]; exact (zup_ne (fun e _ => absurd e (by decide))).trans v14
  have c4_0_7 : η4 0 7 = η2 0 7 := v18
  have v19 : zEq (η4 0 6) (η 0 6) := by rw [eη4]; exact (zup_ne (fun e _ => absurd e (by decide))).trans v15
  have c4_0_6 : η4 0 6 = η 0 6 := v19
  have v20 : zEq (η4 0 8) (η2 0 8) := by rw [eη4]; exact (zup_ne (fun e _ => absurd e (by decide))).trans v16
  have c4_0_8 : η4 0 8 = η2 0 8 := v20
  have bx11 : (0 : Int) ≤ x11 ∧ x11 ≤ 1 := k11.1.2.1
  have w5_0_7 : (0 : Int) ≤ η5 0 7 ∧ η5 0 7 ≤ 700 := wf_ok (a := 7) (b := 7) (z := (0, 700)) k11.1.1 (by decide +kernel) (Nat.le_refl _) (Nat.le_refl _)
  have d5_0_7 : η5 0 7 = η5 0 7 := rfl
  have v22 : zEq (η5 0 6) (η 0 6) := (k11.1.2.2.2.1 0 6 (by decide +kernel)).trans v19
  have d5_0_6 : η5 0 6 = η 0 6 := v22
  have w5_0_8 : (0 : Int) ≤ η5 0 8 ∧ η5 0 8 ≤ 6 := wf_ok (a := 8) (b := 8) (z := (0, 6)) k11.1.1 (by decide +kernel) (Nat.le_refl _) (Nat.le_refl _)
  have d5_0_8 : η5 0 8 = η5 0 8 := rfl
  replace e12 : x12 = η5 0 11 := e12
  replace r12 : -2147483648 ≤ x12 ∧ x12 ≤ 2147483647 := r12
  have v25 : zEq (η6 0 7) (η5 0 7) := by rw [eη6]; exact (zup_ne (fun e _ => absurd e (by decide))).trans rfl
  have c6_0_7 : η6 0 7 = η5 0 7 := v25
  have v26 : zEq (η6 0 6) (η 0 6) := by rw [eη6]; exact (zup_ne (fun e _ => absurd e (by decide))).trans v22
  have c6_0_6 : η6 0 6 = η 0 6 := v26
  have v27 : zEq (η6 0 8) (η5 0 8) := by rw [eη6]; exact (zup_ne (fun e _ => absurd e (by decide))).trans rfl
  have c6_0_8 : η6 0 8 = η5 0 8 := v27
  have bx13 : (0 : Int) ≤ x13 ∧ x13 ≤ 1 := k13.1.2.1
  have w7_0_7 : (0 : Int) ≤ η7 0 7 ∧ η7 0 7 ≤ 700 := wf_ok (a := 7) (b := 7) (z := (0, 700)) k13.1.1 (by decide +kernel) (Nat.le_refl _) (Nat.le_refl _)
  have d7_0_7 : η7 0 7 = η7 0 7 := rfl
  have v29 : zEq (η7 0 6) (η 0 6) := (k13.1.2.2.2.1 0 6 (by decide +kernel)).trans v26
  have d7_0_6 : η7 0 6 = η 0 6 := v29
  have w7_0_8 : (0 : Int) ≤ η7 0 8 ∧ η7 0 8 ≤ 6 := wf_ok (a := 8) (b := 8) (z := (0, 6)) k13.1.1 (by decide +kernel) (Nat.le_refl _) (Nat.le_refl _)
  have d7_0_8 : η7 0 8 = η7 0 8 := rfl
  replace e14 : x14 = η7 0 11 := e14
  replace r14 : -2147483648 ≤ x14 ∧ x14 ≤ 2147483647 := r14
  have v32 : zEq (η6 8 (Int.toNat x4)) (x12) := by rw [eη6]; exact zup_eq
  have v33 : zEq (η7 8 (Int.toNat x4)) (x12) := (k13.1.2.2.2.1 8 _ (zinr_not (by decide +kernel))).trans v32
  have v34 : zEq (η8 8 (Int.toNat x4)) (x12) := by rw [eη8]; exact (zup_ne (fun e _ => absurd e (by decide))).trans v33
  replace e15 : x15 = x12 := e15.trans v34
  replace r15 : -2147483648 ≤ x15 ∧ x15 ≤ 2147483647 := r15
  first
  | replace e16 : x16 = 100 - x15 := zd_s2 (zEq_o e16) (by clear e16; exact ⟨by omega, by omega⟩)
  | clear e16
  have v35 : zEq (η8 0 7) (η7 0 7) := by rw [eη8]; exact (zup_ne (fun e _ => absurd e (by decide))).trans rfl
  have c8_0_7 : η8 0 7 = η7 0 7 := v35
  have v36 : zEq (η8 0 6) (η 0 6) := by rw [eη8]; exact (zup_ne (fun e _ => absurd e (by decide))).trans v29
  have c8_0_6 : η8 0 6 = η 0 6 := v36
  have v37 : zEq (η8 0 8) (η7 0 8) := by rw [eη8]; exact (zup_ne (fun e _ => absurd e (by decide))).trans rfl
  have c8_0_8 : η8 0 8 = η7 0 8 := v37
  have bx17 : (0 : Int) ≤ x17 ∧ x17 ≤ 1 := k17.1.2.1
  have w9_0_7 : (0 : Int) ≤ η9 0 7 ∧ η9 0 7 ≤ 700 := wf_ok (a := 7) (b := 7) (z := (0, 700)) k17.1.1 (by decide +kernel) (Nat.le_refl _) (Nat.le_refl _)
  have d9_0_7 : η9 0 7 = η9 0 7 := rfl
  have v39 : zEq (η9 0 6) (η 0 6) := (k17.1.2.2.2.1 0 6 (by decide +kernel)).trans v36
  have d9_0_6 : η9 0 6 = η 0 6 := v39
  have w9_0_8 : (0 : Int) ≤ η9 0 8 ∧ η9 0 8 ≤ 6 := wf_ok (a := 8) (b := 8) (z := (0, 6)) k17.1.1 (by decide +kernel) (Nat.le_refl _) (Nat.le_refl _)
  have d9_0_8 : η9 0 8 = η9 0 8 := rfl
  replace e18 : x18 = η9 0 11 := e18
  replace r18 : -2147483648 ≤ x18 ∧ x18 ≤ 2147483647 := r18
  have v42 : zEq (η10 0 7) (η9 0 7) := by rw [eη10]; exact (zup_ne (fun e _ => absurd e (by decide))).trans rfl
  have f0_7 : η10 0 7 = η9 0 7 := v42
  have v43 : zEq (η10 0 6) (η 0 6) := by rw [eη10]; exact (zup_ne (fun e _ => absurd e (by decide))).trans v39
  have f0_6 : η10 0 6 = η 0 6 := v43
  have v44 : zEq (η10 0 8) (η9 0 8) := by rw [eη10]; exact (zup_ne (fun e _ => absurd e (by decide))).trans rfl
  have f0_8 : η10 0 8 = η9 0 8 := v44
  have qt2 : ¬ η 0 8 = 0 → 10 * (η1 0 6 - η1 0 7) + η1 0 8 < 10 * (η 0 6 - η 0 7) + η 0 8 := k2.2.2
  have qn6 : ¬ x6 = 0 → 10 * (η2 0 6 - η2 0 7) + η2 0 8 < 10 * (η1 0 6 - η1 0 7) + η1 0 8 := k6.2.2
  have g4 : G_n η4 := by rw [eη4]; exact zGk_up gk_n k9.2 (by decide +kernel)
  have qn11 : ¬ x11 = 0 → 10 * (η5 0 6 - η5 0 7) + η5 0 8 < 10 * (η4 0 6 - η4 0 7) + η4 0 8 := k11.2.2
  have g6 : G_n η6 := by rw [eη6]; exact zGk_up gk_n k11.2.1 (by decide +kernel)
  have qn13 : ¬ x13 = 0 → 10 * (η7 0 6 - η7 0 7) + η7 0 8 < 10 * (η6 0 6 - η6 0 7) + η6 0 8 := k13.2.2
  have g8 : G_n η8 := by rw [eη8]; exact zGk_up gk_n k13.2.1 (by decide +kernel)
  have qn17 : ¬ x17 = 0 → 10 * (η9 0 6 - η9 0 7) + η9 0 8 < 10 * (η8 0 6 - η8 0 7) + η8 0 8 := k17.2.2
  have g10 : G_n η10 := by rw [eη10]; exact zGk_up gk_n k17.2.1 (by decide +kernel)
  exact g10
set_option maxHeartbeats 8000000 in
theorem zn_scratLine_o7 {ro : Nat → List Int32} (η : zE) (hp : sP wl_n zTr zPn_scratLine [] η) (hpp : pPn_scratLine [] η) : ∀ x1 : Int, x1 = η 0 (Int.toNat 17) → zok 0 x1 → (¬ x1 = 4) → ∀ (x2 : Int) (η1 : zE), ((gC2 wl_n [(nat_lit 0, zPn_wrong, zOn_wrong, zMn_wrong), (nat_lit 1, zPn_token, zOn_token, zMn_token), (nat_lit 2, zPn_number, zOn_number, zMn_number), (nat_lit 3, zPn_find_s, zOn_find_s, zMn_find_s)] pCn_scratLine qCn_scratLine) 1).2 [] η x2 η1 → ∀ x3 : Int, x3 = η1 0 (Int.toNat 17) → zok 0 x3 → ∀ x4 : Int, x4 = zd 0 1 4 x3 → ∀ x5 : Int, x5 = η1 0 (Int.toNat 10) → zok 0 x5 → ∀ (x6 : Int) (η2 : zE), ((gC2 wl_n [(nat_lit 0, zPn_wrong, zOn_wrong, zMn_wrong), (nat_lit 1, zPn_token, zOn_token, zMn_token), (nat_lit 2, zPn_number, zOn_number, zMn_number), (nat_lit 3, zPn_find_s, zOn_find_s, zMn_find_s)] pCn_scratLine qCn_scratLine) 2).2 [0, 11] η1 x6 η2 → (¬ x6 = 0) → ∀ x7 : Int, x7 = η2 0 (Int.toNat 17) → zok 0 x7 → ∀ x8 : Int, x8 = η2 0 (Int.toNat 11) → zok 0 x8 → ∀ (x9 : Int) (η3 : zE), ((gC2 wl_n [(nat_lit 0, zPn_wrong, zOn_wrong, zMn_wrong), (nat_lit 1, zPn_token, zOn_token, zMn_token), (nat_lit 2, zPn_number, zOn_number, zMn_number), (nat_lit 3, zPn_find_s, zOn_find_s, zMn_find_s)] pCn_scratLine qCn_scratLine) 3).2 [x7, x8] η2 x9 η3 → (x9 < 0) → ∀ x10 : Int, x10 = η3 0 (Int.toNat 11) → zok 0 x10 → ∀ η4 : zE, η4 = zup η3 7 (Int.toNat x4) x10 → ∀ (x11 : Int) (η5 : zE), ((gC2 wl_n [(nat_lit 0, zPn_wrong, zOn_wrong, zMn_wrong), (nat_lit 1, zPn_token, zOn_token, zMn_token), (nat_lit 2, zPn_number, zOn_number, zMn_number), (nat_lit 3, zPn_find_s, zOn_find_s, zMn_find_s)] pCn_scratLine qCn_scratLine) 2).2 [0, 100] η4 x11 η5 → (¬ x11 = 0) → ∀ x12 : Int, x12 = η5 0 (Int.toNat 11) → zok 0 x12 → ∀ η6 : zE, η6 = zup η5 8 (Int.toNat x4) x12 → ∀ (x13 : Int) (η7 : zE), ((gC2 wl_n [(nat_lit 0, zPn_wrong, zOn_wrong, zMn_wrong), (nat_lit 1, zPn_token, zOn_token, zMn_token), (nat_lit 2, zPn_number, zOn_number, zMn_number), (nat_lit 3, zPn_find_s, zOn_find_s, zMn_find_s)] pCn_scratLine qCn_scratLine) 2).2 [1, 9] η6 x13 η7 → (¬ x13 = 0) → ∀ x14 : Int, x14 = η7 0 (Int.toNat 11) → zok 0 x14 → ∀ η8 : zE, η8 = zup η7 9 (Int.toNat x4) x14 → ∀ x15 : Int, x15 = η8 8 (Int.toNat x4) → zok 0 x15 → ∀ x16 : Int, x16 = zd 0 2 100 x15 → ∀ (x17 : Int) (η9 : zE), ((gC2 wl_n [(nat_lit 0, zPn_wrong, zOn_wrong, zMn_wrong), (nat_lit 1, zPn_token, zOn_token, zMn_token), (nat_lit 2, zPn_number, zOn_number, zMn_number), (nat_lit 3, zPn_find_s, zOn_find_s, zMn_find_s)] pCn_scratLine qCn_scratLine) 2).2 [0, x16] η8 x17 η9 → (¬ x17 = 0) → ∀ x18 : Int, x18 = η9 0 (Int.toNat 11) → zok 0 x18 → ∀ η10 : zE, η10 = zup η9 10 (Int.toNat x4) x18 → ∀ (x19 : Int) (η11 : zE), ((gC2 wl_n [(nat_lit 0, zPn_wrong, zOn_wrong, zMn_wrong), (nat_lit 1, zPn_token, zOn_token, zMn_token), (nat_lit 2, zPn_number, zOn_number, zMn_number), (nat_lit 3, zPn_find_s, zOn_find_s, zMn_find_s)] pCn_scratLine qCn_scratLine) 2).2 [1, 9] η10 x19 η11 → (¬ x19 = 0) → ∀ x20 : Int, x20 = η11 0 (Int.toNat 11) → zok 0 x20 → ∀ η12 : zE, η12 = zup η11 11 (Int.toNat x4) x20 → ∀ x21 : Int, x21 = η12 0 (Int.toNat 17) → zok 0 x21 → ∀ x22 : Int, x22 = zd 0 1 x21 1 → ∀ η13 : zE, η13 = zup η12 0 (Int.toNat 17) x22 → (fun (_ : Nat) (y : Int) (η' : zE) => pQn_scratLine [] η y η') 0 1 η13 := by
  have hk : ¬ η 0 8 = 0 := hpp.2
  intro x1 e1 r1 c1 x2 η1 h2 x3 e3 r3 x4 e4 x5 e5 r5 x6 η2 h6 c2 x7 e7 r7 x8 e8 r8 x9 η3 h9 c3 x10 e10 r10 η4 eη4 x11 η5 h11 c4 x12 e12 r12 η6 eη6 x13 η7 h13 c5 x14 e14 r14 η8 eη8 x15 e15 r15 x16 e16 x17 η9 h17 c6 x18 e18 r18 η10 eη10 x19 η11 h19 c7 x20 e20 r20 η12 eη12 x21 e21 r21 x22 e22 η13 eη13
  replace e4 := zEq_i e4
  replace e16 := zEq_i e16
  replace e22 := zEq_i e22
  have k2 : sQ wl_n zTr zOn_token zMn_token [] η x2 η1 ∧ pQn_token [] η x2 η1 := h2
  have k6 : sQ wl_n zTr zOn_number zMn_number [0, 11] η1 x6 η2 ∧ pQn_number [0, 11] η1 x6 η2 := h6
  have k9 : sQ wl_n zTr zOn_find_s zMn_find_s [x7, x8] η2 x9 η3 ∧ pQn_find_s [x7, x8] η2 x9 η3 := h9
  have k11 : sQ wl_n zTr zOn_number zMn_number [0, 100] η4 x11 η5 ∧ pQn_number [0, 100] η4 x11 η5 := h11
  have k13 : sQ wl_n zTr zOn_number zMn_number [1, 9] η6 x13 η7 ∧ pQn_number [1, 9] η6 x13 η7 := h13
  have k17 : sQ wl_n zTr zOn_number zMn_number [0, x16] η8 x17 η9 ∧ pQn_number [0, x16] η8 x17 η9 := h17
  have k19 : sQ wl_n zTr zOn_number zMn_number [1, 9] η10 x19 η11 ∧ pQn_number [1, 9] η10 x19 η11 := h19
  have w0_0_17 : (0 : Int) ≤ η 0 17 ∧ η 0 17 ≤ 4 := wf_ok (a := 17) (b := 17) (z := (0, 4)) hp.1 (by decide +kernel) (Nat.le_refl _) (Nat.le_refl _)
  replace e1 : x1 = η 0 17 := e1
  have w0_0_7 : (0 : Int) ≤ η 0 7 ∧ η 0 7 ≤ 700 := wf_ok (a := 7) (b := 7) (z := (0, 700)) hp.1 (by decide +kernel) (Nat.le_refl _) (Nat.le_refl _)
  have c0_0_7 : η 0 7 = η 0 7 := rfl
  have w0_0_6 : (0 : Int) ≤ η 0 6 ∧ η 0 6 ≤ 700 := wf_ok (a := 6) (b := 6) (z := (0, 700)) hp.1 (by decide +kernel) (Nat.le_refl _) (Nat.le_refl _)
  have c0_0_6 : η 0 6 = η 0 6 := rfl
  have w0_0_8 : (0 : Int) ≤ η 0 8 ∧ η 0 8 ≤ 6 := wf_ok (a := 8) (b := 8) (z := (0, 6)) hp.1 (by decide +kernel) (Nat.le_refl _) (Nat.le_refl _)
  have c0_0_8 : η 0 8 = η 0 8 := rfl
  have bx2 : (0 : Int) ≤ x2 ∧ x2 ≤ 0 := k2.1.2.1
  have w1_0_7 : (0 : Int) ≤ η1 0 7 ∧ η1 0 7 ≤ 700 := wf_ok (a := 7) (b := 7) (z := (0, 700)) k2.1.1 (by decide +kernel) (Nat.le_refl _) (Nat.le_refl _)
  have d1_0_7 : η1 0 7 = η1 0 7 := rfl
  have v5 : zEq (η1 0 6) (η 0 6) := (k2.1.2.2.2.1 0 6 (by decide +kernel)).trans rfl
  have d1_0_6 : η1 0 6 = η 0 6 := v5
  have w1_0_8 : (0 : Int) ≤ η1 0 8 ∧ η1 0 8 ≤ 6 := wf_ok (a := 8) (b := 8) (z := (0, 6)) k2.1.1 (by decide +kernel) (Nat.le_refl _) (Nat.le_refl _)
  have d1_0_8 : η1 0 8 = η1 0 8 := rfl
  have v7 : zEq (η1 0 17) (η 0 17) := (k2.1.2.2.2.1 0 17 (by decide +kernel)).trans rfl
  replace e3 : x3 = η 0 17 := e3.trans v7
  first
  | replace e4 : x4 = 4 + x3 := zd_a2 (zEq_o e4) (by clear e4; exact ⟨by omega, by omega⟩)
  | clear e4
  have w1_0_10 : (0 : Int) ≤ η1 0 10 ∧ η1 0 10 ≤ 700 := wf_ok (a := 10) (b := 10) (z := (0, 700)) k2.1.1 (by decide +kernel) (Nat.le_refl _) (Nat.le_refl _)
  replace e5 : x5 = η1 0 10 := e5
  have c1_0_7 : η1 0 7 = η1 0 7 := rfl
  have c1_0_6 : η1 0 6 = η 0 6 := v5
  have c1_0_8 : η1 0 8 = η1 0 8 := rfl
  have bx6 : (0 : Int) ≤ x6 ∧ x6 ≤ 1 := k6.1.2.1
  have w2_0_7 : (0 : Int) ≤ η2 0 7 ∧ η2 0 7 ≤ 700 := wf_ok (a := 7) (b := 7) (z := (0, 700)) k6.1.1 (by decide +kernel) (Nat.le_refl _) (Nat.le_refl _)
  have d2_0_7 : η2 0 7 = η2 0 7 := rfl
  have v10 : zEq (η2 0 6) (η 0 6) := (k6.1.2.2.2.1 0 6 (by decide +kernel)).trans v5
  have d2_0_6 : η2 0 6 = η 0 6 := v10
  have w2_0_8 : (0 : Int) ≤ η2 0 8 ∧ η2 0 8 ≤ 6 := wf_ok (a := 8) (b := 8) (z := (0, 6)) k6.1.1 (by decide +kernel) (Nat.le_refl _) (Nat.le_refl _)
  have d2_0_8 : η2 0 8 = η2 0 8 := rfl
  have v12 : zEq (η2 0 17) (η 0 17) := (k6.1.2.2.2.1 0 17 (by decide +kernel)).trans v7
  replace e7 : x7 = η 0 17 := e7.trans v12
  replace e8 : x8 = η2 0 11 := e8
  replace r8 : -2147483648 ≤ x8 ∧ x8 ≤ 2147483647 := r8
  have c2_0_7 : η2 0 7 = η2 0 7 := rfl
  have c2_0_6 : η2 0 6 = η 0 6 := v10
  have c2_0_8 : η2 0 8 = η2 0 8 := rfl
  have bx9 : ((-1) : Int) ≤ x9 ∧ x9 ≤ 3 := k9.1.2.1
  have v14 : zEq (η3 0 7) (η2 0 7) := (k9.1.2.2.2.1 0 7 (by decide +kernel)).trans rfl
  have d3_0_7 : η3 0 7 = η2 0 7 := v14
  have v15 : zEq (η3 0 6) (η 0 6) := (k9.1.2.2.2.1 0 6 (by decide +kernel)).trans v10
  have d3_0_6 : η3 0 6 = η 0 6 := v15
  have v16 : zEq (η3 0 8) (η2 0 8) := (k9.1.2.2.2.1 0 8 (by decide +kernel)).trans rfl
  have d3_0_8 : η3 0 8 = η2 0 8 := v16
  have v17 : zEq (η3 0 11) (η2 0 11) := (k9.1.2.2.2.1 0 11 (by decide +kernel)).trans rfl
  replace e10 : x10 = η2 0 11 := e10.trans v17
  replace r10 : -2147483648 ≤ x10 ∧ x10 ≤ 2147483647 := r10
  have v18 : zEq (η4 0 7) (η2 0 7) := by rw [eη4]; exact (zup_ne (fun e _ => absurd e (by decide))).trans v14
  have c4_0_7 : η4 0 7 = η2 0 7 := v18
  have v19 : zEq (η4 0 6) (η 0 6) := by rw [eη4]; exact (zup_ne (fun e _ => absurd e (by decide))).trans v15
  have c4_0_6 : η4 0 6 = η 0 6 := v19
  have v20 : zEq (η4 0 8) (η2 0 8) := by rw [eη4]; exact (zup_ne (fun e _ => absurd e (by decide))).trans v16
  have c4_0_8 : η4 0 8 = η2 0 8 := v20
  have bx11 : (0 : Int) ≤ x11 ∧ x11 ≤ 1 := k11.1.2.1
  have w5_0_7 : (0 : Int) ≤ η5 0 7 ∧ η5 0 7 ≤ 700 := wf_ok (a := 7) (b := 7) (z := (0, 700)) k11.1.1 (by decide +kernel) (Nat.le_refl _) (Nat.le_refl _)
  have d5_0_7 : η5 0 7 = η5 0 7 := rfl
  have v22 : zEq (η5 0 6) (η 0 6) := (k11.1.2.2.2.1 0 6 (by decide +kernel)).trans v19
  have d5_0_6 : η5 0 6 = η 0 6 := v22
  have w5_0_8 : (0 : Int) ≤ η5 0 8 ∧ η5 0 8 ≤ 6 := wf_ok (a := 8) (b := 8) (z := (0, 6)) k11.1.1 (by decide +kernel) (Nat.le_refl _) (Nat.le_refl _)
  have d5_0_8 : η5 0 8 = η5 0 8 := rfl
  replace e12 : x12 = η5 0 11 := e12
  replace r12 : -2147483648 ≤ x12 ∧ x12 ≤ 2147483647 := r12
  have v25 : zEq (η6 0 7) (η5 0 7) := by rw [eη6]; exact (zup_ne (fun e _ => absurd e (by decide))).trans rfl
  have c6_0_7 : η6 0 7 = η5 0 7 := v25
  have v26 : zEq (η6 0 6) (η 0 6) := by rw [eη6]; exact (zup_ne (fun e _ => absurd e (by decide))).trans v22
  have c6_0_6 : η6 0 6 = η 0 6 := v26
  have v27 : zEq (η6 0 8) (η5 0 8) := by rw [eη6]; exact (zup_ne (fun e _ => absurd e (by decide))).trans rfl
  have c6_0_8 : η6 0 8 = η5 0 8 := v27
  have bx13 : (0 : Int) ≤ x13 ∧ x13 ≤ 1 := k13.1.2.1
  have w7_0_7 : (0 : Int) ≤ η7 0 7 ∧ η7 0 7 ≤ 700 := wf_ok (a := 7) (b := 7) (z := (0, 700)) k13.1.1 (by decide +kernel) (Nat.le_refl _) (Nat.le_refl _)
  have d7_0_7 : η7 0 7 = η7 0 7 := rfl
  have v29 : zEq (η7 0 6) (η 0 6) := (k13.1.2.2.2.1 0 6 (by decide +kernel)).trans v26
  have d7_0_6 : η7 0 6 = η 0 6 := v29
  have w7_0_8 : (0 : Int) ≤ η7 0 8 ∧ η7 0 8 ≤ 6 := wf_ok (a := 8) (b := 8) (z := (0, 6)) k13.1.1 (by decide +kernel) (Nat.le_refl _) (Nat.le_refl _)
  have d7_0_8 : η7 0 8 = η7 0 8 := rfl
  replace e14 : x14 = η7 0 11 := e14
  replace r14 : -2147483648 ≤ x14 ∧ x14 ≤ 2147483647 := r14
  have v32 : zEq (η6 8 (Int.toNat x4)) (x12) := by rw [eη6]; exact zup_eq
  have v33 : zEq (η7 8 (Int.toNat x4)) (x12) := (k13.1.2.2.2.1 8 _ (zinr_not (by decide +kernel))).trans v32
  have v34 : zEq (η8 8 (Int.toNat x4)) (x12) := by rw [eη8]; exact (zup_ne (fun e _ => absurd e (by decide))).trans v33
  replace e15 : x15 = x12 := e15.trans v34
  replace r15 : -2147483648 ≤ x15 ∧ x15 ≤ 2147483647 := r15
  first
  | replace e16 : x16 = 100 - x15 := zd_s2 (zEq_o e16) (by clear e16; exact ⟨by omega, by omega⟩)
  | clear e16
  have v35 : zEq (η8 0 7) (η7 0 7) := by rw [eη8]; exact (zup_ne (fun e _ => absurd e (by decide))).trans rfl
  have c8_0_7 : η8 0 7 = η7 0 7 := v35
  have v36 : zEq (η8 0 6) (η 0 6) := by rw [eη8]; exact (zup_ne (fun e _ => absurd e (by decide))).trans v29
  have c8_0_6 : η8 0 6 = η 0 6 := v36
  have v37 : zEq (η8 0 8) (η7 0 8) := by rw [eη8]; exact (zup_ne (fun e _ => absurd e (by decide))).trans rfl
  have c8_0_8 : η8 0 8 = η7 0 8 := v37
  have bx17 : (0 : Int) ≤ x17 ∧ x17 ≤ 1 := k17.1.2.1
  have w9_0_7 : (0 : Int) ≤ η9 0 7 ∧ η9 0 7 ≤ 700 := wf_ok (a := 7) (b := 7) (z := (0, 700)) k17.1.1 (by decide +kernel) (Nat.le_refl _) (Nat.le_refl _)
  have d9_0_7 : η9 0 7 = η9 0 7 := rfl
  have v39 : zEq (η9 0 6) (η 0 6) := (k17.1.2.2.2.1 0 6 (by decide +kernel)).trans v36
  have d9_0_6 : η9 0 6 = η 0 6 := v39
  have w9_0_8 : (0 : Int) ≤ η9 0 8 ∧ η9 0 8 ≤ 6 := wf_ok (a := 8) (b := 8) (z := (0, 6)) k17.1.1 (by decide +kernel) (Nat.le_refl _) (Nat.le_refl _)
  have d9_0_8 : η9 0 8 = η9 0 8 := rfl
  replace e18 : x18 = η9 0 11 := e18
  replace r18 : -2147483648 ≤ x18 ∧ x18 ≤ 2147483647 := r18
  have v42 : zEq (η10 0 7) (η9 0 7) := by rw [eη10]; exact (zup_ne (fun e _ => absurd e (by decide))).trans rfl
  have c10_0_7 : η10 0 7 = η9 0 7 := v42
  have v43 : zEq (η10 0 6) (η 0 6) := by rw [eη10]; exact (zup_ne (fun e _ => absurd e (by decide))).trans v39
  have c10_0_6 : η10 0 6 = η 0 6 := v43
  have v44 : zEq (η10 0 8) (η9 0 8) := by rw [eη10]; exact (zup_ne (fun e _ => absurd e (by decide))).trans rfl
  have c10_0_8 : η10 0 8 = η9 0 8 := v44
  have bx19 : (0 : Int) ≤ x19 ∧ x19 ≤ 1 := k19.1.2.1
  have w11_0_7 : (0 : Int) ≤ η11 0 7 ∧ η11 0 7 ≤ 700 := wf_ok (a := 7) (b := 7) (z := (0, 700)) k19.1.1 (by decide +kernel) (Nat.le_refl _) (Nat.le_refl _)
  have d11_0_7 : η11 0 7 = η11 0 7 := rfl
  have v46 : zEq (η11 0 6) (η 0 6) := (k19.1.2.2.2.1 0 6 (by decide +kernel)).trans v43
  have d11_0_6 : η11 0 6 = η 0 6 := v46
  have w11_0_8 : (0 : Int) ≤ η11 0 8 ∧ η11 0 8 ≤ 6 := wf_ok (a := 8) (b := 8) (z := (0, 6)) k19.1.1 (by decide +kernel) (Nat.le_refl _) (Nat.le_refl _)
  have d11_0_8 : η11 0 8 = η11 0 8 := rfl
  replace e20 : x20 = η11 0 11 := e20
  replace r20 : -2147483648 ≤ x20 ∧ x20 ≤ 2147483647 := r20
  have v49 : zEq (η3 0 17) (η 0 17) := (k9.1.2.2.2.1 0 17 (by decide +kernel)).trans v12
  have v50 : zEq (η4 0 17) (η 0 17) := by rw [eη4]; exact (zup_ne (fun e _ => absurd e (by decide))).trans v49
  have v51 : zEq (η5 0 17) (η 0 17) := (k11.1.2.2.2.1 0 17 (by decide +kernel)).trans v50
  have v52 : zEq (η6 0 17) (η 0 17) := by rw [eη6]; exact (zup_ne (fun e _ => absurd e (by decide))).trans v51
  have v53 : zEq (η7 0 17) (η 0 17) := (k13.1.2.2.2.1 0 17 (by decide +kernel)).trans v52
  have v54 : zEq (η8 0 17) (η 0 17) := by rw [eη8]; exact (zup_ne (fun e _ => absurd e (by decide))).trans v53
  have v55 : zEq (η9 0 17) (η 0 17) := (k17.1.2.2.2.1 0 17 (by decide +kernel)).trans v54
  have v56 : zEq (η10 0 17) (η 0 17) := by rw [eη10]; exact (zup_ne (fun e _ => absurd e (by decide))).trans v55
  have v57 : zEq (η11 0 17) (η 0 17) := (k19.1.2.2.2.1 0 17 (by decide +kernel)).trans v56
  have v58 : zEq (η12 0 17) (η 0 17) := by rw [eη12]; exact (zup_ne (fun e _ => absurd e (by decide))).trans v57
  replace e21 : x21 = η 0 17 := e21.trans v58
  first
  | replace e22 : x22 = x21 + 1 := zd_a2 (zEq_o e22) (by clear e22; exact ⟨by omega, by omega⟩)
  | clear e22
  have v59 : zEq (η12 0 7) (η11 0 7) := by rw [eη12]; exact (zup_ne (fun e _ => absurd e (by decide))).trans rfl
  have v60 : zEq (η13 0 7) (η11 0 7) := by rw [eη13]; exact (zup_ne (fun _ e => absurd e (by decide))).trans v59
  have f0_7 : η13 0 7 = η11 0 7 := v60
  have v61 : zEq (η12 0 6) (η 0 6) := by rw [eη12]; exact (zup_ne (fun e _ => absurd e (by decide))).trans v46
  have v62 : zEq (η13 0 6) (η 0 6) := by rw [eη13]; exact (zup_ne (fun _ e => absurd e (by decide))).trans v61
  have f0_6 : η13 0 6 = η 0 6 := v62
  have v63 : zEq (η12 0 8) (η11 0 8) := by rw [eη12]; exact (zup_ne (fun e _ => absurd e (by decide))).trans rfl
  have v64 : zEq (η13 0 8) (η11 0 8) := by rw [eη13]; exact (zup_ne (fun _ e => absurd e (by decide))).trans v63
  have f0_8 : η13 0 8 = η11 0 8 := v64
  have qt2 : ¬ η 0 8 = 0 → 10 * (η1 0 6 - η1 0 7) + η1 0 8 < 10 * (η 0 6 - η 0 7) + η 0 8 := k2.2.2
  have qn6 : ¬ x6 = 0 → 10 * (η2 0 6 - η2 0 7) + η2 0 8 < 10 * (η1 0 6 - η1 0 7) + η1 0 8 := k6.2.2
  have g4 : G_n η4 := by rw [eη4]; exact zGk_up gk_n k9.2 (by decide +kernel)
  have qn11 : ¬ x11 = 0 → 10 * (η5 0 6 - η5 0 7) + η5 0 8 < 10 * (η4 0 6 - η4 0 7) + η4 0 8 := k11.2.2
  have g6 : G_n η6 := by rw [eη6]; exact zGk_up gk_n k11.2.1 (by decide +kernel)
  have qn13 : ¬ x13 = 0 → 10 * (η7 0 6 - η7 0 7) + η7 0 8 < 10 * (η6 0 6 - η6 0 7) + η6 0 8 := k13.2.2
  have g8 : G_n η8 := by rw [eη8]; exact zGk_up gk_n k13.2.1 (by decide +kernel)
  have qn17 : ¬ x17 = 0 → 10 * (η9 0 6 - η9 0 7) + η9 0 8 < 10 * (η8 0 6 - η8 0 7) + η8 0 8 := k17.2.2
  have g10 : G_n η10 := by rw [eη10]; exact zGk_up gk_n k17.2.1 (by decide +kernel)
  have qn19 : ¬ x19 = 0 → 10 * (η11 0 6 - η11 0 7) + η11 0 8 < 10 * (η10 0 6 - η10 0 7) + η10 0 8 := k19.2.2
  have g12 : G_n η12 := by rw [eη12]; exact zGk_up gk_n k19.2.1 (by decide +kernel)
  have g13 : G_n η13 := by rw [eη13]; exact zGk_upc gk_n g12 (by decide +kernel)
  exact ⟨g13, fun _ => show 10 * (η13 0 6 - η13 0 7) + η13 0 8 < 10 * (η 0 6 - η 0 7) + η 0 8 by omega⟩
set_option maxHeartbeats 8000000 in
theorem zn_scratLine_o8 {ro : Nat → List Int32} (η : zE) (hp : sP wl_n zTr zPn_scratLine [] η) (hpp : pPn_scratLine [] η) : ∀ x1 : Int, x1 = η 0 (Int.toNat 17) → zok 0 x1 → (¬ x1 = 4) → ∀ (x2 : Int) (η1 : zE), ((gC2 wl_n [(nat_lit 0, zPn_wrong, zOn_wrong, zMn_wrong), (nat_lit 1, zPn_token, zOn_token, zMn_token), (nat_lit 2, zPn_number, zOn_number, zMn_number), (nat_lit 3, zPn_find_s, zOn_find_s, zMn_find_s)] pCn_scratLine qCn_scratLine) 1).2 [] η x2 η1 → ∀ x3 : Int, x3 = η1 0 (Int.toNat 17) → zok 0 x3 → ∀ x4 : Int, x4 = zd 0 1 4 x3 → ∀ x5 : Int, x5 = η1 0 (Int.toNat 10) → zok 0 x5 → ∀ (x6 : Int) (η2 : zE), ((gC2 wl_n [(nat_lit 0, zPn_wrong, zOn_wrong, zMn_wrong), (nat_lit 1, zPn_token, zOn_token, zMn_token), (nat_lit 2, zPn_number, zOn_number, zMn_number), (nat_lit 3, zPn_find_s, zOn_find_s, zMn_find_s)] pCn_scratLine qCn_scratLine) 2).2 [0, 11] η1 x6 η2 → (¬ x6 = 0) → ∀ x7 : Int, x7 = η2 0 (Int.toNat 17) → zok 0 x7 → ∀ x8 : Int, x8 = η2 0 (Int.toNat 11) → zok 0 x8 → ∀ (x9 : Int) (η3 : zE), ((gC2 wl_n [(nat_lit 0, zPn_wrong, zOn_wrong, zMn_wrong), (nat_lit 1, zPn_token, zOn_token, zMn_token), (nat_lit 2, zPn_number, zOn_number, zMn_number), (nat_lit 3, zPn_find_s, zOn_find_s, zMn_find_s)] pCn_scratLine qCn_scratLine) 3).2 [x7, x8] η2 x9 η3 → (x9 < 0) → ∀ x10 : Int, x10 = η3 0 (Int.toNat 11) → zok 0 x10 → ∀ η4 : zE, η4 = zup η3 7 (Int.toNat x4) x10 → ∀ (x11 : Int) (η5 : zE), ((gC2 wl_n [(nat_lit 0, zPn_wrong, zOn_wrong, zMn_wrong), (nat_lit 1, zPn_token, zOn_token, zMn_token), (nat_lit 2, zPn_number, zOn_number, zMn_number), (nat_lit 3, zPn_find_s, zOn_find_s, zMn_find_s)] pCn_scratLine qCn_scratLine) 2).2 [0, 100] η4 x11 η5 → (¬ x11 = 0) → ∀ x12 : Int, x12 = η5 0 (Int.toNat 11) → zok 0 x12 → ∀ η6 : zE, η6 = zup η5 8 (Int.toNat x4) x12 → ∀ (x13 : Int) (η7 : zE), ((gC2 wl_n [(nat_lit 0, zPn_wrong, zOn_wrong, zMn_wrong), (nat_lit 1, zPn_token, zOn_token, zMn_token), (nat_lit 2, zPn_number, zOn_number, zMn_number), (nat_lit 3, zPn_find_s, zOn_find_s, zMn_find_s)] pCn_scratLine qCn_scratLine) 2).2 [1, 9] η6 x13 η7 → (¬ x13 = 0) → ∀ x14 : Int, x14 = η7 0 (Int.toNat 11) → zok 0 x14 → ∀ η8 : zE, η8 = zup η7 9 (Int.toNat x4) x14 → ∀ x15 : Int, x15 = η8 8 (Int.toNat x4) → zok 0 x15 → ∀ x16 : Int, x16 = zd 0 2 100 x15 → ∀ (x17 : Int) (η9 : zE), ((gC2 wl_n [(nat_lit 0, zPn_wrong, zOn_wrong, zMn_wrong), (nat_lit 1, zPn_token, zOn_token, zMn_token), (nat_lit 2, zPn_number, zOn_number, zMn_number), (nat_lit 3, zPn_find_s, zOn_find_s, zMn_find_s)] pCn_scratLine qCn_scratLine) 2).2 [0, x16] η8 x17 η9 → (¬ x17 = 0) → ∀ x18 : Int, x18 = η9 0 (Int.toNat 11) → zok 0 x18 → ∀ η10 : zE, η10 = zup η9 10 (Int.toNat x4) x18 → ∀ (x19 : Int) (η11 : zE), ((gC2 wl_n [(nat_lit 0, zPn_wrong, zOn_wrong, zMn_wrong), (nat_lit 1, zPn_token, zOn_token, zMn_token), (nat_lit 2, zPn_number, zOn_number, zMn_number), (nat_lit 3, zPn_find_s, zOn_find_s, zMn_find_s)] pCn_scratLine qCn_scratLine) 2).2 [1, 9] η10 x19 η11 → (x19 = 0) → (fun (_ : Nat) (y : Int) (η' : zE) => pQn_scratLine [] η y η') 0 0 η11 := by
  have hk : ¬ η 0 8 = 0 := hpp.2
  intro x1 e1 r1 c1 x2 η1 h2 x3 e3 r3 x4 e4 x5 e5 r5 x6 η2 h6 c2 x7 e7 r7 x8 e8 r8 x9 η3 h9 c3 x10 e10 r10 η4 eη4 x11 η5 h11 c4 x12 e12 r12 η6 eη6 x13 η7 h13 c5 x14 e14 r14 η8 eη8 x15 e15 r15 x16 e16 x17 η9 h17 c6 x18 e18 r18 η10 eη10 x19 η11 h19 c7
  replace e4 := zEq_i e4
  replace e16 := zEq_i e16
  have k2 : sQ wl_n zTr zOn_token zMn_token [] η x2 η1 ∧ pQn_token [] η x2 η1 := h2
  have k6 : sQ wl_n zTr zOn_number zMn_number [0, 11] η1 x6 η2 ∧ pQn_number [0, 11] η1 x6 η2 := h6
  have k9 : sQ wl_n zTr zOn_find_s zMn_find_s [x7, x8] η2 x9 η3 ∧ pQn_find_s [x7, x8] η2 x9 η3 := h9
  have k11 : sQ wl_n zTr zOn_number zMn_number [0, 100] η4 x11 η5 ∧ pQn_number [0, 100] η4 x11 η5 := h11
  have k13 : sQ wl_n zTr zOn_number zMn_number [1, 9] η6 x13 η7 ∧ pQn_number [1, 9] η6 x13 η7 := h13
  have k17 : sQ wl_n zTr zOn_number zMn_number [0, x16] η8 x17 η9 ∧ pQn_number [0, x16] η8 x17 η9 := h17
  have k19 : sQ wl_n zTr zOn_number zMn_number [1, 9] η10 x19 η11 ∧ pQn_number [1, 9] η10 x19 η11 := h19
  have w0_0_17 : (0 : Int) ≤ η 0 17 ∧ η 0 17 ≤ 4 := wf_ok (a := 17) (b := 17) (z := (0, 4)) hp.1 (by decide +kernel) (Nat.le_refl _) (Nat.le_refl _)
  replace e1 : x1 = η 0 17 := e1
  have w0_0_7 : (0 : Int) ≤ η 0 7 ∧ η 0 7 ≤ 700 := wf_ok (a := 7) (b := 7) (z := (0, 700)) hp.1 (by decide +kernel) (Nat.le_refl _) (Nat.le_refl _)
  have c0_0_7 : η 0 7 = η 0 7 := rfl
  have w0_0_6 : (0 : Int) ≤ η 0 6 ∧ η 0 6 ≤ 700 := wf_ok (a := 6) (b := 6) (z := (0, 700)) hp.1 (by decide +kernel) (Nat.le_refl _) (Nat.le_refl _)
  have c0_0_6 : η 0 6 = η 0 6 := rfl
  have w0_0_8 : (0 : Int) ≤ η 0 8 ∧ η 0 8 ≤ 6 := wf_ok (a := 8) (b := 8) (z := (0, 6)) hp.1 (by decide +kernel) (Nat.le_refl _) (Nat.le_refl _)
  have c0_0_8 : η 0 8 = η 0 8 := rfl
  have bx2 : (0 : Int) ≤ x2 ∧ x2 ≤ 0 := k2.1.2.1
  have w1_0_7 : (0 : Int) ≤ η1 0 7 ∧ η1 0 7 ≤ 700 := wf_ok (a := 7) (b := 7) (z := (0, 700)) k2.1.1 (by decide +kernel) (Nat.le_refl _) (Nat.le_refl _)
  have d1_0_7 : η1 0 7 = η1 0 7 := rfl
  have v5 : zEq (η1 0 6) (η 0 6) := (k2.1.2.2.2.1 0 6 (by decide +kernel)).trans rfl
  have d1_0_6 : η1 0 6 = η 0 6 := v5
  have w1_0_8 : (0 : Int) ≤ η1 0 8 ∧ η1 0 8 ≤ 6 := wf_ok (a := 8) (b := 8) (z := (0, 6)) k2.1.1 (by decide +kernel) (Nat.le_refl _) (Nat.le_refl _)
  have d1_0_8 : η1 0 8 = η1 0 8 := rfl
  have v7 : zEq (η1 0 17) (η 0 17) := (k2.1.2.2.2.1 0 17 (by decide +kernel)).trans rfl
  replace e3 : x3 = η 0 17 := e3.trans v7
  first
  | replace e4 : x4 = 4 + x3 := zd_a2 (zEq_o e4) (by clear e4; exact ⟨by omega, by omega⟩)
  | clear e4
  have w1_0_10 : (0 : Int) ≤ η1 0 10 ∧ η1 0 10 ≤ 700 := wf_ok (a := 10) (b := 10) (z := (0, 700)) k2.1.1 (by decide +kernel) (Nat.le_refl _) (Nat.le_refl _)
  replace e5 : x5 = η1 0 10 := e5
  have c1_0_7 : η1 0 7 = η1 0 7 := rfl
  have c1_0_6 : η1 0 6 = η 0 6 := v5
  have c1_0_8 : η1 0 8 = η1 0 8 := rfl
  have bx6 : (0 : Int) ≤ x6 ∧ x6 ≤ 1 := k6.1.2.1
  have w2_0_7 : (0 : Int) ≤ η2 0 7 ∧ η2 0 7 ≤ 700 := wf_ok (a := 7) (b := 7) (z := (0, 700)) k6.1.1 (by decide +kernel) (Nat.le_refl _) (Nat.le_refl _)
  have d2_0_7 : η2 0 7 = η2 0 7 := rfl
  have v10 : zEq (η2 0 6) (η 0 6) := (k6.1.2.2.2.1 0 6 (by decide +kernel)).trans v5
  have d2_0_6 : η2 0 6 = η 0 6 := v10
  have w2_0_8 : (0 : Int) ≤ η2 0 8 ∧ η2 0 8 ≤ 6 := wf_ok (a := 8) (b := 8) (z := (0, 6)) k6.1.1 (by decide +kernel) (Nat.le_refl _) (Nat.le_refl _)
  have d2_0_8 : η2 0 8 = η2 0 8 := rfl
  have v12 : zEq (η2 0 17) (η 0 17) := (k6.1.2.2.2.1 0 17 (by decide +kernel)).trans v7
  replace e7 : x7 = η 0 17 := e7.trans v12
  replace e8 : x8 = η2 0 11 := e8
  replace r8 : -2147483648 ≤ x8 ∧ x8 ≤ 2147483647 := r8
  have c2_0_7 : η2 0 7 = η2 0 7 := rfl
  have c2_0_6 : η2 0 6 = η 0 6 := v10
  have c2_0_8 : η2 0 8 = η2 0 8 := rfl
  have bx9 : ((-1) : Int) ≤ x9 ∧ x9 ≤ 3 := k9.1.2.1
  have v14 : zEq (η3 0 7) (η2 0 7) := (k9.1.2.2.2.1 0 7 (by decide +kernel)).trans rfl
  have d3_0_7 : η3 0 7 = η2 0 7 := v14
  have v15 : zEq (η3 0 6) (η 0 6) := (k9.1.2.2.2.1 0 6 (by decide +kernel)).trans v10
  have d3_0_6 : η3 0 6 = η 0 6 := v15
  have v16 : zEq (η3 0 8) (η2 0 8) := (k9.1.2.2.2.1 0 8 (by decide +kernel)).trans rfl
  have d3_0_8 : η3 0 8 = η2 0 8 := v16
  have v17 : zEq (η3 0 11) (η2 0 11) := (k9.1.2.2.2.1 0 11 (by decide +kernel)).trans rfl
  replace e10 : x10 = η2 0 11 := e10.trans v17
  replace r10 : -2147483648 ≤ x10 ∧ x10 ≤ 2147483647 := r10
  have v18 : zEq (η4 0 7) (η2 0 7) := by rw [eη4]; exact (zup_ne (fun e _ => absurd e (by decide))).trans v14
  have c4_0_7 : η4 0 7 = η2 0 7 := v18
  have v19 : zEq (η4 0 6) (η 0 6) := by rw [eη4]; exact (zup_ne (fun e _ => absurd e (by decide))).trans v15
  have c4_0_6 : η4 0 6 = η 0 6 := v19
  have v20 : zEq (η4 0 8) (η2 0 8) := by rw [eη4]; exact (zup_ne (fun e _ => absurd e (by decide))).trans v16
  have c4_0_8 : η4 0 8 = η2 0 8 := v20
  have bx11 : (0 : Int) ≤ x11 ∧ x11 ≤ 1 := k11.1.2.1
  have w5_0_7 : (0 : Int) ≤ η5 0 7 ∧ η5 0 7 ≤ 700 := wf_ok (a := 7) (b := 7) (z := (0, 700)) k11.1.1 (by decide +kernel) (Nat.le_refl _) (Nat.le_refl _)
  have d5_0_7 : η5 0 7 = η5 0 7 := rfl
  have v22 : zEq (η5 0 6) (η 0 6) := (k11.1.2.2.2.1 0 6 (by decide +kernel)).trans v19
  have d5_0_6 : η5 0 6 = η 0 6 := v22
  have w5_0_8 : (0 : Int) ≤ η5 0 8 ∧ η5 0 8 ≤ 6 := wf_ok (a := 8) (b := 8) (z := (0, 6)) k11.1.1 (by decide +kernel) (Nat.le_refl _) (Nat.le_refl _)
  have d5_0_8 : η5 0 8 = η5 0 8 := rfl
  replace e12 : x12 = η5 0 11 := e12
  replace r12 : -2147483648 ≤ x12 ∧ x12 ≤ 2147483647 := r12
  have v25 : zEq (η6 0 7) (η5 0 7) := by rw [eη6]; exact (zup_ne (fun e _ => absurd e (by decide))).trans rfl
  have c6_0_7 : η6 0 7 = η5 0 7 := v25
  have v26 : zEq (η6 0 6) (η 0 6) := by rw [eη6]; exact (zup_ne (fun e _ => absurd e (by decide))).trans v22
  have c6_0_6 : η6 0 6 = η 0 6 := v26
  have v27 : zEq (η6 0 8) (η5 0 8) := by rw [eη6]; exact (zup_ne (fun e _ => absurd e (by decide))).trans rfl
  have c6_0_8 : η6 0 8 = η5 0 8 := v27
  have bx13 : (0 : Int) ≤ x13 ∧ x13 ≤ 1 := k13.1.2.1
  have w7_0_7 : (0 : Int) ≤ η7 0 7 ∧ η7 0 7 ≤ 700 := wf_ok (a := 7) (b := 7) (z := (0, 700)) k13.1.1 (by decide +kernel) (Nat.le_refl _) (Nat.le_refl _)
  have d7_0_7 : η7 0 7 = η7 0 7 := rfl
  have v29 : zEq (η7 0 6) (η 0 6) := (k13.1.2.2.2.1 0 6 (by decide +kernel)).trans v26
  have d7_0_6 : η7 0 6 = η 0 6 := v29
  have w7_0_8 : (0 : Int) ≤ η7 0 8 ∧ η7 0 8 ≤ 6 := wf_ok (a := 8) (b := 8) (z := (0, 6)) k13.1.1 (by decide +kernel) (Nat.le_refl _) (Nat.le_refl _)
  have d7_0_8 : η7 0 8 = η7 0 8 := rfl
  replace e14 : x14 = η7 0 11 := e14
  replace r14 : -2147483648 ≤ x14 ∧ x14 ≤ 2147483647 := r14
  have v32 : zEq (η6 8 (Int.toNat x4)) (x12) := by rw [eη6]; exact zup_eq
  have v33 : zEq (η7 8 (Int.toNat x4)) (x12) := (k13.1.2.2.2.1 8 _ (zinr_not (by decide +kernel))).trans v32
  have v34 : zEq (η8 8 (Int.toNat x4)) (x12) := by rw [eη8]; exact (zup_ne (fun e _ => absurd e (by decide))).trans v33
  replace e15 : x15 = x12 := e15.trans v34
  replace r15 : -2147483648 ≤ x15 ∧ x15 ≤ 2147483647 := r15
  first
  | replace e16 : x16 = 100 - x15 := zd_s2 (zEq_o e16) (by clear e16; exact ⟨by omega, by omega⟩)
  | clear e16
  have v35 : zEq (η8 0 7) (η7 0 7) := by rw [eη8]; exact (zup_ne (fun e _ => absurd e (by decide))).trans rfl
  have c8_0_7 : η8 0 7 = η7 0 7 := v35
  have v36 : zEq (η8 0 6) (η 0 6) := by rw [eη8]; exact (zup_ne (fun e _ => absurd e (by decide))).trans v29
  have c8_0_6 : η8 0 6 = η 0 6 := v36
  have v37 : zEq (η8 0 8) (η7 0 8) := by rw [eη8]; exact (zup_ne (fun e _ => absurd e (by decide))).trans rfl
  have c8_0_8 : η8 0 8 = η7 0 8 := v37
  have bx17 : (0 : Int) ≤ x17 ∧ x17 ≤ 1 := k17.1.2.1
  have w9_0_7 : (0 : Int) ≤ η9 0 7 ∧ η9 0 7 ≤ 700 := wf_ok (a := 7) (b := 7) (z := (0, 700)) k17.1.1 (by decide +kernel) (Nat.le_refl _) (Nat.le_refl _)
  have d9_0_7 : η9 0 7 = η9 0 7 := rfl
  have v39 : zEq (η9 0 6) (η 0 6) := (k17.1.2.2.2.1 0 6 (by decide +kernel)).trans v36
  have d9_0_6 : η9 0 6 = η 0 6 := v39
  have w9_0_8 : (0 : Int) ≤ η9 0 8 ∧ η9 0 8 ≤ 6 := wf_ok (a := 8) (b := 8) (z := (0, 6)) k17.1.1 (by decide +kernel) (Nat.le_refl _) (Nat.le_refl _)
  have d9_0_8 : η9 0 8 = η9 0 8 := rfl
  replace e18 : x18 = η9 0 11 := e18
  replace r18 : -2147483648 ≤ x18 ∧ x18 ≤ 2147483647 := r18
  have v42 : zEq (η10 0 7) (η9 0 7) := by rw [eη10]; exact (zup_ne (fun e _ => absurd e (by decide))).trans rfl
  have c10_0_7 : η10 0 7 = η9 0 7 := v42
  have v43 : zEq (η10 0 6) (η 0 6) := by rw [eη10]; exact (zup_ne (fun e _ => absurd e (by decide))).trans v39
  have c10_0_6 : η10 0 6 = η 0 6 := v43
  have v44 : zEq (η10 0 8) (η9 0 8) := by rw [eη10]; exact (zup_ne (fun e _ => absurd e (by decide))).trans rfl
  have c10_0_8 : η10 0 8 = η9 0 8 := v44
  have bx19 : (0 : Int) ≤ x19 ∧ x19 ≤ 1 := k19.1.2.1
  have w11_0_7 : (0 : Int) ≤ η11 0 7 ∧ η11 0 7 ≤ 700 := wf_ok (a := 7) (b := 7) (z := (0, 700)) k19.1.1 (by decide +kernel) (Nat.le_refl _) (Nat.le_refl _)
  have d11_0_7 : η11 0 7 = η11 0 7 := rfl
  have v46 : zEq (η11 0 6) (η 0 6) := (k19.1.2.2.2.1 0 6 (by decide +kernel)).trans v43
  have d11_0_6 : η11 0 6 = η 0 6 := v46
  have w11_0_8 : (0 : Int) ≤ η11 0 8 ∧ η11 0 8 ≤ 6 := wf_ok (a := 8) (b := 8) (z := (0, 6)) k19.1.1 (by decide +kernel) (Nat.le_refl _) (Nat.le_refl _)
  have d11_0_8 : η11 0 8 = η11 0 8 := rfl
  have f0_7 : η11 0 7 = η11 0 7 := rfl
  have f0_6 : η11 0 6 = η 0 6 := v46
  have f0_8 : η11 0 8 = η11 0 8 := rfl
  have qt2 : ¬ η 0 8 = 0 → 10 * (η1 0 6 - η1 0 7) + η1 0 8 < 10 * (η 0 6 - η 0 7) + η 0 8 := k2.2.2
  have qn6 : ¬ x6 = 0 → 10 * (η2 0 6 - η2 0 7) + η2 0 8 < 10 * (η1 0 6 - η1 0 7) + η1 0 8 := k6.2.2
  have g4 : G_n η4 := by rw [eη4]; exact zGk_up gk_n k9.2 (by decide +kernel)
  have qn11 : ¬ x11 = 0 → 10 * (η5 0 6 - η5 0 7) + η5 0 8 < 10 * (η4 0 6 - η4 0 7) + η4 0 8 := k11.2.2
  have g6 : G_n η6 := by rw [eη6]; exact zGk_up gk_n k11.2.1 (by decide +kernel)
  have qn13 : ¬ x13 = 0 → 10 * (η7 0 6 - η7 0 7) + η7 0 8 < 10 * (η6 0 6 - η6 0 7) + η6 0 8 := k13.2.2
  have g8 : G_n η8 := by rw [eη8]; exact zGk_up gk_n k13.2.1 (by decide +kernel)
  have qn17 : ¬ x17 = 0 → 10 * (η9 0 6 - η9 0 7) + η9 0 8 < 10 * (η8 0 6 - η8 0 7) + η8 0 8 := k17.2.2
  have g10 : G_n η10 := by rw [eη10]; exact zGk_up gk_n k17.2.1 (by decide +kernel)
  have qn19 : ¬ x19 = 0 → 10 * (η11 0 6 - η11 0 7) + η11 0 8 < 10 * (η10 0 6 - η10 0 7) + η10 0 8 := k19.2.2
  exact ⟨k19.2.1, fun w => absurd (show (0 : Int) = 0 by apply Int.le_antisymm <;> omega) w⟩
set_option maxHeartbeats 8000000 in
theorem zn_scratLine_o9 {ro : Nat → List Int32} (η : zE) (hp : sP wl_n zTr zPn_scratLine [] η) (hpp : pPn_scratLine [] η) : ∀ x1 : Int, x1 = η 0 (Int.toNat 17) → zok 0 x1 → (¬ x1 = 4) → ∀ (x2 : Int) (η1 : zE), ((gC2 wl_n [(nat_lit 0, zPn_wrong, zOn_wrong, zMn_wrong), (nat_lit 1, zPn_token, zOn_token, zMn_token), (nat_lit 2, zPn_number, zOn_number, zMn_number), (nat_lit 3, zPn_find_s, zOn_find_s, zMn_find_s)] pCn_scratLine qCn_scratLine) 1).2 [] η x2 η1 → ∀ x3 : Int, x3 = η1 0 (Int.toNat 17) → zok 0 x3 → ∀ x4 : Int, x4 = zd 0 1 4 x3 → ∀ x5 : Int, x5 = η1 0 (Int.toNat 10) → zok 0 x5 → ∀ (x6 : Int) (η2 : zE), ((gC2 wl_n [(nat_lit 0, zPn_wrong, zOn_wrong, zMn_wrong), (nat_lit 1, zPn_token, zOn_token, zMn_token), (nat_lit 2, zPn_number, zOn_number, zMn_number), (nat_lit 3, zPn_find_s, zOn_find_s, zMn_find_s)] pCn_scratLine qCn_scratLine) 2).2 [0, 11] η1 x6 η2 → (¬ x6 = 0) → ∀ x7 : Int, x7 = η2 0 (Int.toNat 17) → zok 0 x7 → ∀ x8 : Int, x8 = η2 0 (Int.toNat 11) → zok 0 x8 → ∀ (x9 : Int) (η3 : zE), ((gC2 wl_n [(nat_lit 0, zPn_wrong, zOn_wrong, zMn_wrong), (nat_lit 1, zPn_token, zOn_token, zMn_token), (nat_lit 2, zPn_number, zOn_number, zMn_number), (nat_lit 3, zPn_find_s, zOn_find_s, zMn_find_s)] pCn_scratLine qCn_scratLine) 3).2 [x7, x8] η2 x9 η3 → (x9 < 0) → ∀ x10 : Int, x10 = η3 0 (Int.toNat 11) → zok 0 x10 → ∀ η4 : zE, η4 = zup η3 7 (Int.toNat x4) x10 → ∀ (x11 : Int) (η5 : zE), ((gC2 wl_n [(nat_lit 0, zPn_wrong, zOn_wrong, zMn_wrong), (nat_lit 1, zPn_token, zOn_token, zMn_token), (nat_lit 2, zPn_number, zOn_number, zMn_number), (nat_lit 3, zPn_find_s, zOn_find_s, zMn_find_s)] pCn_scratLine qCn_scratLine) 2).2 [0, 100] η4 x11 η5 → (¬ x11 = 0) → ∀ x12 : Int, x12 = η5 0 (Int.toNat 11) → zok 0 x12 → ∀ η6 : zE, η6 = zup η5 8 (Int.toNat x4) x12 → ∀ (x13 : Int) (η7 : zE), ((gC2 wl_n [(nat_lit 0, zPn_wrong, zOn_wrong, zMn_wrong), (nat_lit 1, zPn_token, zOn_token, zMn_token), (nat_lit 2, zPn_number, zOn_number, zMn_number), (nat_lit 3, zPn_find_s, zOn_find_s, zMn_find_s)] pCn_scratLine qCn_scratLine) 2).2 [1, 9] η6 x13 η7 → (¬ x13 = 0) → ∀ x14 : Int, x14 = η7 0 (Int.toNat 11) → zok 0 x14 → ∀ η8 : zE, η8 = zup η7 9 (Int.toNat x4) x14 → ∀ x15 : Int, x15 = η8 8 (Int.toNat x4) → zok 0 x15 → ∀ x16 : Int, x16 = zd 0 2 100 x15 → ∀ (x17 : Int) (η9 : zE), ((gC2 wl_n [(nat_lit 0, zPn_wrong, zOn_wrong, zMn_wrong), (nat_lit 1, zPn_token, zOn_token, zMn_token), (nat_lit 2, zPn_number, zOn_number, zMn_number), (nat_lit 3, zPn_find_s, zOn_find_s, zMn_find_s)] pCn_scratLine qCn_scratLine) 2).2 [0, x16] η8 x17 η9 → (x17 = 0) → (fun (_ : Nat) (y : Int) (η' : zE) => pQn_scratLine [] η y η') 0 0 η9 := by
  have hk : ¬ η 0 8 = 0 := hpp.2
  intro x1 e1 r1 c1 x2 η1 h2 x3 e3 r3 x4 e4 x5 e5 r5 x6 η2 h6 c2 x7 e7 r7 x8 e8 r8 x9 η3 h9 c3 x10 e10 r10 η4 eη4 x11 η5 h11 c4 x12 e12 r12 η6 eη6 x13 η7 h13 c5 x14 e14 r14 η8 eη8 x15 e15 r15 x16 e16 x17 η9 h17 c6
  replace e4 := zEq_i e4
  replace e16 := zEq_i e16
  have k2 : sQ wl_n zTr zOn_token zMn_token [] η x2 η1 ∧ pQn_token [] η x2 η1 := h2
  have k6 : sQ wl_n zTr zOn_number zMn_number [0, 11] η1 x6 η2 ∧ pQn_number [0, 11] η1 x6 η2 := h6
  have k9 : sQ wl_n zTr zOn_find_s zMn_find_s [x7, x8] η2 x9 η3 ∧ pQn_find_s [x7, x8] η2 x9 η3 := h9
  have k11 : sQ wl_n zTr zOn_number zMn_number [0, 100] η4 x11 η5 ∧ pQn_number [0, 100] η4 x11 η5 := h11
  have k13 : sQ wl_n zTr zOn_number zMn_number [1, 9] η6 x13 η7 ∧ pQn_number [1, 9] η6 x13 η7 := h13
  have k17 : sQ wl_n zTr zOn_number zMn_number [0, x16] η8 x17 η9 ∧ pQn_number [0, x16] η8 x17 η9 := h17
  have w0_0_17 : (0 : Int) ≤ η 0 17 ∧ η 0 17 ≤ 4 := wf_ok (a := 17) (b := 17) (z := (0, 4)) hp.1 (by decide +kernel) (Nat.le_refl _) (Nat.le_refl _)
  replace e1 : x1 = η 0 17 := e1
  have w0_0_7 : (0 : Int) ≤ η 0 7 ∧ η 0 7 ≤ 700 := wf_ok (a := 7) (b := 7) (z := (0, 700)) hp.1 (by decide +kernel) (Nat.le_refl _) (Nat.le_refl _)
  have c0_0_7 : η 0 7 = η 0 7 := rfl
  have w0_0_6 : (0 : Int) ≤ η 0 6 ∧ η 0 6 ≤ 700 := wf_ok (a := 6) (b := 6) (z := (0, 700)) hp.1 (by decide +kernel) (Nat.le_refl _) (Nat.le_refl _)
  have c0_0_6 : η 0 6 = η 0 6 := rfl
  have w0_0_8 : (0 : Int) ≤ η 0 8 ∧ η 0 8 ≤ 6 := wf_ok (a := 8) (b := 8) (z := (0, 6)) hp.1 (by decide +kernel) (Nat.le_refl _) (Nat.le_refl _)
  have c0_0_8 : η 0 8 = η 0 8 := rfl
  have bx2 : (0 : Int) ≤ x2 ∧ x2 ≤ 0 := k2.1.2.1
  have w1_0_7 : (0 : Int) ≤ η1 0 7 ∧ η1 0 7 ≤ 700 := wf_ok (a := 7) (b := 7) (z := (0, 700)) k2.1.1 (by decide +kernel) (Nat.le_refl _) (Nat.le_refl _)
  have d1_0_7 : η1 0 7 = η1 0 7 := rfl
  have v5 : zEq (η1 0 6) (η 0 6) := (k2.1.2.2.2.1 0 6 (by decide +kernel)).trans rfl
  have d1_0_6 : η1 0 6 = η 0 6 := v5
  have w1_0_8 : (0 : Int) ≤ η1 0 8 ∧ η1 0 8 ≤ 6 := wf_ok (a := 8) (b := 8) (z := (0, 6)) k2.1.1 (by decide +kernel) (Nat.le_refl _) (Nat.le_refl _)
  have d1_0_8 : η1 0 8 = η1 0 8 := rfl
  have v7 : zEq (η1 0 17) (η 0 17) := (k2.1.2.2.2.1 0 17 (by decide +kernel)).trans rfl
  replace e3 : x3 = η 0 17 := e3.trans v7
  first
  | replace e4 : x4 = 4 + x3 := zd_a2 (zEq_o e4) (by clear e4; exact ⟨by omega, by omega⟩)
  | clear e4
  have w1_0_10 : (0 : Int) ≤ η1 0 10 ∧ η1 0 10 ≤ 700 := wf_ok (a := 10) (b := 10) (z := (0, 700)) k2.1.1 (by decide +kernel) (Nat.le_refl _) (Nat.le_refl _)
  replace e5 : x5 = η1 0 10 := e5
  have c1_0_7 : η1 0 7 = η1 0 7 := rfl
  have c1_0_6 : η1 0 6 = η 0 6 := v5
  have c1_0_8 : η1 0 8 = η1 0 8 := rfl
  have bx6 : (0 : Int) ≤ x6 ∧ x6 ≤ 1 := k6.1.2.1
  have w2_0_7 : (0 : Int) ≤ η2 0 7 ∧ η2 0 7 ≤ 700 := wf_ok (a := 7) (b := 7) (z := (0, 700)) k6.1.1 (by decide +kernel) (Nat.le_refl _) (Nat.le_refl _)
  have d2_0_7 : η2 0 7 = η2 0 7 := rfl
  have v10 : zEq (η2 0 6) (η 0 6) := (k6.1.2.2.2.1 0 6 (by decide +kernel)).trans v5
  have d2_0_6 : η2 0 6 = η 0 6 := v10
  have w2_0_8 : (0 : Int) ≤ η2 0 8 ∧ η2 0 8 ≤ 6 := wf_ok (a := 8) (b := 8) (z := (0, 6)) k6.1.1 (by decide +kernel) (Nat.le_refl _) (Nat.le_refl _)
  have d2_0_8 : η2 0 8 = η2 0 8 := rfl
  have v12 : zEq (η2 0 17) (η 0 17) := (k6.1.2.2.2.1 0 17 (by decide +kernel)).trans v7
  replace e7 : x7 = η 0 17 := e7.trans v12
  replace e8 : x8 = η2 0 11 := e8
  replace r8 : -2147483648 ≤ x8 ∧ x8 ≤ 2147483647 := r8
  have c2_0_7 : η2 0 7 = η2 0 7 := rfl
  have c2_0_6 : η2 0 6 = η 0 6 := v10
  have c2_0_8 : η2 0 8 = η2 0 8 := rfl
  have bx9 : ((-1) : Int) ≤ x9 ∧ x9 ≤ 3 := k9.1.2.1
  have v14 : zEq (η3 0 7) (η2 0 7) := (k9.1.2.2.2.1 0 7 (by decide +kernel)).trans rfl
  have d3_0_7 : η3 0 7 = η2 0 7 := v14
  have v15 : zEq (η3 0 6) (η 0 6) := (k9.1.2.2.2.1 0 6 (by decide +kernel)).trans v10
  have d3_0_6 : η3 0 6 = η 0 6 := v15
  have v16 : zEq (η3 0 8) (η2 0 8) := (k9.1.2.2.2.1 0 8 (by decide +kernel)).trans rfl
  have d3_0_8 : η3 0 8 = η2 0 8 := v16
  have v17 : zEq (η3 0 11) (η2 0 11) := (k9.1.2.2.2.1 0 11 (by decide +kernel)).trans rfl
  replace e10 : x10 = η2 0 11 := e10.trans v17
  replace r10 : -2147483648 ≤ x10 ∧ x10 ≤ 2147483647 := r10
  have v18 : zEq (η4 0 7) (η2 0 7) := by rw [eη4]; exact (zup_ne (fun e _ => absurd e (by decide))).trans v14
  have c4_0_7 : η4 0 7 = η2 0 7 := v18
  have v19 : zEq (η4 0 6) (η 0 6) := by rw [eη4]; exact (zup_ne (fun e _ => absurd e (by decide))).trans v15
  have c4_0_6 : η4 0 6 = η 0 6 := v19
  have v20 : zEq (η4 0 8) (η2 0 8) := by rw [eη4]; exact (zup_ne (fun e _ => absurd e (by decide))).trans v16
  have c4_0_8 : η4 0 8 = η2 0 8 := v20
  have bx11 : (0 : Int) ≤ x11 ∧ x11 ≤ 1 := k11.1.2.1
  have w5_0_7 : (0 : Int) ≤ η5 0 7 ∧ η5 0 7 ≤ 700 := wf_ok (a := 7) (b := 7) (z := (0, 700)) k11.1.1 (by decide +kernel) (Nat.le_refl _) (Nat.le_refl _)
  have d5_0_7 : η5 0 7 = η5 0 7 := rfl
  have v22 : zEq (η5 0 6) (η 0 6) := (k11.1.2.2.2.1 0 6 (by decide +kernel)).trans v19
  have d5_0_6 : η5 0 6 = η 0 6 := v22
  have w5_0_8 : (0 : Int) ≤ η5 0 8 ∧ η5 0 8 ≤ 6 := wf_ok (a := 8) (b := 8) (z := (0, 6)) k11.1.1 (by decide +kernel) (Nat.le_refl _) (Nat.le_refl _)
  have d5_0_8 : η5 0 8 = η5 0 8 := rfl
  replace e12 : x12 = η5 0 11 := e12
  replace r12 : -2147483648 ≤ x12 ∧ x12 ≤ 2147483647 := r12
  have v25 : zEq (η6 0 7) (η5 0 7) := by rw [eη6]; exact (zup_ne (fun e _ => absurd e (by decide))).trans rfl
  have c6_0_7 : η6 0 7 = η5 0 7 := v25
  have v26 : zEq (η6 0 6) (η 0 6) := by rw [eη6]; exact (zup_ne (fun e _ => absurd e (by decide))).trans v22
  have c6_0_6 : η6 0 6 = η 0 6 := v26
  have v27 : zEq (η6 0 8) (η5 0 8) := by rw [eη6]; exact (zup_ne (fun e _ => absurd e (by decide))).trans rfl
  have c6_0_8 : η6 0 8 = η5 0 8 := v27
  have bx13 : (0 : Int) ≤ x13 ∧ x13 ≤ 1 := k13.1.2.1
  have w7_0_7 : (0 : Int) ≤ η7 0 7 ∧ η7 0 7 ≤ 700 := wf_ok (a := 7) (b := 7) (z := (0, 700)) k13.1.1 (by decide +kernel) (Nat.le_refl _) (Nat.le_refl _)
  have d7_0_7 : η7 0 7 = η7 0 7 := rfl
  have v29 : zEq (η7 0 6) (η 0 6) := (k13.1.2.2.2.1 0 6 (by decide +kernel)).trans v26
  have d7_0_6 : η7 0 6 = η 0 6 := v29
  have w7_0_8 : (0 : Int) ≤ η7 0 8 ∧ η7 0 8 ≤ 6 := wf_ok (a := 8) (b := 8) (z := (0, 6)) k13.1.1 (by decide +kernel) (Nat.le_refl _) (Nat.le_refl _)
  have d7_0_8 : η7 0 8 = η7 0 8 := rfl
  replace e14 : x14 = η7 0 11 := e14
  replace r14 : -2147483648 ≤ x14 ∧ x14 ≤ 2147483647 := r14
  have v32 : zEq (η6 8 (Int.toNat x4)) (x12) := by rw [eη6]; exact zup_eq
  have v33 : zEq (η7 8 (Int.toNat x4)) (x12) := (k13.1.2.2.2.1 8 _ (zinr_not (by decide +kernel))).trans v32
  have v34 : zEq (η8 8 (Int.toNat x4)) (x12) := by rw [eη8]; exact (zup_ne (fun e _ => absurd e (by decide))).trans v33
  replace e15 : x15 = x12 := e15.trans v34
  replace r15 : -2147483648 ≤ x15 ∧ x15 ≤ 2147483647 := r15
  first
  | replace e16 : x16 = 100 - x15 := zd_s2 (zEq_o e16) (by clear e16; exact ⟨by omega, by omega⟩)
  | clear e16
  have v35 : zEq (η8 0 7) (η7 0 7) := by rw [eη8]; exact (zup_ne (fun e _ => absurd e (by decide))).trans rfl
  have c8_0_7 : η8 0 7 = η7 0 7 := v35
  have v36 : zEq (η8 0 6) (η 0 6) := by rw [eη8]; exact (zup_ne (fun e _ => absurd e (by decide))).trans v29
  have c8_0_6 : η8 0 6 = η 0 6 := v36
  have v37 : zEq (η8 0 8) (η7 0 8) := by rw [eη8]; exact (zup_ne (fun e _ => absurd e (by decide))).trans rfl
  have c8_0_8 : η8 0 8 = η7 0 8 := v37
  have bx17 : (0 : Int) ≤ x17 ∧ x17 ≤ 1 := k17.1.2.1
  have w9_0_7 : (0 : Int) ≤ η9 0 7 ∧ η9 0 7 ≤ 700 := wf_ok (a := 7) (b := 7) (z := (0, 700)) k17.1.1 (by decide +kernel) (Nat.le_refl _) (Nat.le_refl _)
  have d9_0_7 : η9 0 7 = η9 0 7 := rfl
  have v39 : zEq (η9 0 6) (η 0 6) := (k17.1.2.2.2.1 0 6 (by decide +kernel)).trans v36
  have d9_0_6 : η9 0 6 = η 0 6 := v39
  have w9_0_8 : (0 : Int) ≤ η9 0 8 ∧ η9 0 8 ≤ 6 := wf_ok (a := 8) (b := 8) (z := (0, 6)) k17.1.1 (by decide +kernel) (Nat.le_refl _) (Nat.le_refl _)
  have d9_0_8 : η9 0 8 = η9 0 8 := rfl
  have f0_7 : η9 0 7 = η9 0 7 := rfl
  have f0_6 : η9 0 6 = η 0 6 := v39
  have f0_8 : η9 0 8 = η9 0 8 := rfl
  have qt2 : ¬ η 0 8 = 0 → 10 * (η1 0 6 - η1 0 7) + η1 0 8 < 10 * (η 0 6 - η 0 7) + η 0 8 := k2.2.2
  have qn6 : ¬ x6 = 0 → 10 * (η2 0 6 - η2 0 7) + η2 0 8 < 10 * (η1 0 6 - η1 0 7) + η1 0 8 := k6.2.2
  have g4 : G_n η4 := by rw [eη4]; exact zGk_up gk_n k9.2 (by decide +kernel)
  have qn11 : ¬ x11 = 0 → 10 * (η5 0 6 - η5 0 7) + η5 0 8 < 10 * (η4 0 6 - η4 0 7) + η4 0 8 := k11.2.2
  have g6 : G_n η6 := by rw [eη6]; exact zGk_up gk_n k11.2.1 (by decide +kernel)
  have qn13 : ¬ x13 = 0 → 10 * (η7 0 6 - η7 0 7) + η7 0 8 < 10 * (η6 0 6 - η6 0 7) + η6 0 8 := k13.2.2
  have g8 : G_n η8 := by rw [eη8]; exact zGk_up gk_n k13.2.1 (by decide +kernel)
  have qn17 : ¬ x17 = 0 → 10 * (η9 0 6 - η9 0 7) + η9 0 8 < 10 * (η8 0 6 - η8 0 7) + η8 0 8 := k17.2.2
  exact ⟨k17.2.1, fun w => absurd (show (0 : Int) = 0 by apply Int.le_antisymm <;> omega) w⟩
set_option maxHeartbeats 8000000 in
theorem zn_scratLine_o10 {ro : Nat → List Int32} (η : zE) (hp : sP wl_n zTr zPn_scratLine [] η) (hpp : pPn_scratLine [] η) : ∀ x1 : Int, x1 = η 0 (Int.toNat 17) → zok 0 x1 → (¬ x1 = 4) → ∀ (x2 : Int) (η1 : zE), ((gC2 wl_n [(nat_lit 0, zPn_wrong, zOn_wrong, zMn_wrong), (nat_lit 1, zPn_token, zOn_token, zMn_token), (nat_lit 2, zPn_number, zOn_number, zMn_number), (nat_lit 3, zPn_find_s, zOn_find_s, zMn_find_s)] pCn_scratLine qCn_scratLine) 1).2 [] η x2 η1 → ∀ x3 : Int, x3 = η1 0 (Int.toNat 17) → zok 0 x3 → ∀ x4 : Int, x4 = zd 0 1 4 x3 → ∀ x5 : Int, x5 = η1 0 (Int.toNat 10) → zok 0 x5 → ∀ (x6 : Int) (η2 : zE), ((gC2 wl_n [(nat_lit 0, zPn_wrong, zOn_wrong, zMn_wrong), (nat_lit 1, zPn_token, zOn_token, zMn_token), (nat_lit 2, zPn_number, zOn_number, zMn_number), (nat_lit 3, zPn_find_s, zOn_find_s, zMn_find_s)] pCn_scratLine qCn_scratLine) 2).2 [0, 11] η1 x6 η2 → (¬ x6 = 0) → ∀ x7 : Int, x7 = η2 0 (Int.toNat 17) → zok 0 x7 → ∀ x8 : Int, x8 = η2 0 (Int.toNat 11) → zok 0 x8 → ∀ (x9 : Int) (η3 : zE), ((gC2 wl_n [(nat_lit 0, zPn_wrong, zOn_wrong, zMn_wrong), (nat_lit 1, zPn_token, zOn_token, zMn_token), (nat_lit 2, zPn_number, zOn_number, zMn_number), (nat_lit 3, zPn_find_s, zOn_find_s, zMn_find_s)] pCn_scratLine qCn_scratLine) 3).2 [x7, x8] η2 x9 η3 → (x9 < 0) → ∀ x10 : Int, x10 = η3 0 (Int.toNat 11) → zok 0 x10 → ∀ η4 : zE, η4 = zup η3 7 (Int.toNat x4) x10 → ∀ (x11 : Int) (η5 : zE), ((gC2 wl_n [(nat_lit 0, zPn_wrong, zOn_wrong, zMn_wrong), (nat_lit 1, zPn_token, zOn_token, zMn_token), (nat_lit 2, zPn_number, zOn_number, zMn_number), (nat_lit 3, zPn_find_s, zOn_find_s, zMn_find_s)] pCn_scratLine qCn_scratLine) 2).2 [0, 100] η4 x11 η5 → (¬ x11 = 0) → ∀ x12 : Int, x12 = η5 0 (Int.toNat 11) → zok 0 x12 → ∀ η6 : zE, η6 = zup η5 8 (Int.toNat x4) x12 → ∀ (x13 : Int) (η7 : zE), ((gC2 wl_n [(nat_lit 0, zPn_wrong, zOn_wrong, zMn_wrong), (nat_lit 1, zPn_token, zOn_token, zMn_token), (nat_lit 2, zPn_number, zOn_number, zMn_number), (nat_lit 3, zPn_find_s, zOn_find_s, zMn_find_s)] pCn_scratLine qCn_scratLine) 2).2 [1, 9] η6 x13 η7 → (x13 = 0) → (fun (_ : Nat) (y : Int) (η' : zE) => pQn_scratLine [] η y η') 0 0 η7 := by
  have hk : ¬ η 0 8 = 0 := hpp.2
  intro x1 e1 r1 c1 x2 η1 h2 x3 e3 r3 x4 e4 x5 e5 r5 x6 η2 h6 c2 x7 e7 r7 x8 e8 r8 x9 η3 h9 c3 x10 e10 r10 η4 eη4 x11 η5 h11 c4 x12 e12 r12 η6 eη6 x13 η7 h13 c5
  replace e4 := zEq_i e4
  have k2 : sQ wl_n zTr zOn_token zMn_token [] η x2 η1 ∧ pQn_token [] η x2 η1 := h2
  have k6 : sQ wl_n zTr zOn_number zMn_number [0, 11] η1 x6 η2 ∧ pQn_number [0, 11] η1 x6 η2 := h6
  have k9 : sQ wl_n zTr zOn_find_s zMn_find_s [x7, x8] η2 x9 η3 ∧ pQn_find_s [x7, x8] η2 x9 η3 := h9
  have k11 : sQ wl_n zTr zOn_number zMn_number [0, 100] η4 x11 η5 ∧ pQn_number [0, 100] η4 x11 η5 := h11
  have k13 : sQ wl_n zTr zOn_number zMn_number [1, 9] η6 x13 η7 ∧ pQn_number [1, 9] η6 x13 η7 := h13
  have w0_0_17 : (0 : Int) ≤ η 0 17 ∧ η 0 17 ≤ 4 := wf_ok (a := 17) (b := 17) (z := (0, 4)) hp.1 (by decide +kernel) (Nat.le_refl _) (Nat.le_refl _)
  replace e1 : x1 = η 0 17 := e1
  have w0_0_7 : (0 : Int) ≤ η 0 7 ∧ η 0 7 ≤ 700 := wf_ok (a := 7) (b := 7) (z := (0, 700)) hp.1 (by decide +kernel) (Nat.le_refl _) (Nat.le_refl _)
  have c0_0_7 : η 0 7 = η 0 7 := rfl
  have w0_0_6 : (0 : Int) ≤ η 0 6 ∧ η 0 6 ≤ 700 := wf_ok (a := 6) (b := 6) (z := (0, 700)) hp.1 (by decide +kernel) (Nat.le_refl _) (Nat.le_refl _)
  have c0_0_6 : η 0 6 = η 0 6 := rfl
  have w0_0_8 : (0 : Int) ≤ η 0 8 ∧ η 0 8 ≤ 6 := wf_ok (a := 8) (b := 8) (z := (0, 6)) hp.1 (by decide +kernel) (Nat.le_refl _) (Nat.le_refl _)
  have c0_0_8 : η 0 8 = η 0 8 := rfl
  have bx2 : (0 : Int) ≤ x2 ∧ x2 ≤ 0 := k2.1.2.1
  have w1_0_7 : (0 : Int) ≤ η1 0 7 ∧ η1 0 7 ≤ 700 := wf_ok (a := 7) (b := 7) (z := (0, 700)) k2.1.1 (by decide +kernel) (Nat.le_refl _) (Nat.le_refl _)
  have d1_0_7 : η1 0 7 = η1 0 7 := rfl
  have v5 : zEq (η1 0 6) (η 0 6) := (k2.1.2.2.2.1 0 6 (by decide +kernel)).trans rfl
  have d1_0_6 : η1 0 6 = η 0 6 := v5
  have w1_0_8 : (0 : Int) ≤ η1 0 8 ∧ η1 0 8 ≤ 6 := wf_ok (a := 8) (b := 8) (z := (0, 6)) k2.1.1 (by decide +kernel) (Nat.le_refl _) (Nat.le_refl _)
  have d1_0_8 : η1 0 8 = η1 0 8 := rfl
  have v7 : zEq (η1 0 17) (η 0 17) := (k2.1.2.2.2.1 0 17 (by decide +kernel)).trans rfl
  replace e3 : x3 = η 0 17 := e3.trans v7
  first
  | replace e4 : x4 = 4 + x3 := zd_a2 (zEq_o e4) (by clear e4; exact ⟨by omega, by omega⟩)
  | clear e4
  have w1_0_10 : (0 : Int) ≤ η1 0 10 ∧ η1 0 10 ≤ 700 := wf_ok (a := 10) (b := 10) (z := (0, 700)) k2.1.1 (by decide +kernel) (Nat.le_refl _) (Nat.le_refl _)
  replace e5 : x5 = η1 0 10 := e5
  have c1_0_7 : η1 0 7 = η1 0 7 := rfl
  have c1_0_6 : η1 0 6 = η 0 6 := v5
  have c1_0_8 : η1 0 8 = η1 0 8 := rfl
  have bx6 : (0 : Int) ≤ x6 ∧ x6 ≤ 1 := k6.1.2.1
  have w2_0_7 : (0 : Int) ≤ η2 0 7 ∧ η2 0 7 ≤ 700 := wf_ok (a := 7) (b := 7) (z := (0, 700)) k6.1.1 (by decide +kernel) (Nat.le_refl _) (Nat.le_refl _)
  have d2_0_7 : η2 0 7 = η2 0 7 := rfl
  have v10 : zEq (η2 0 6) (η 0 6) := (k6.1.2.2.2.1 0 6 (by decide +kernel)).trans v5
  have d2_0_6 : η2 0 6 = η 0 6 := v10
  have w2_0_8 : (0 : Int) ≤ η2 0 8 ∧ η2 0 8 ≤ 6 := wf_ok (a := 8) (b := 8) (z := (0, 6)) k6.1.1 (by decide +kernel) (Nat.le_refl _) (Nat.le_refl _)
  have d2_0_8 : η2 0 8 = η2 0 8 := rfl
  have v12 : zEq (η2 0 17) (η 0 17) := (k6.1.2.2.2.1 0 17 (by decide +kernel)).trans v7
  replace e7 : x7 = η 0 17 := e7.trans v12
  replace e8 : x8 = η2 0 11 := e8
  replace r8 : -2147483648 ≤ x8 ∧ x8 ≤ 2147483647 := r8
  have c2_0_7 : η2 0 7 = η2 0 7 := rfl
  have c2_0_6 : η2 0 6 = η 0 6 := v10
  have c2_0_8 : η2 0 8 = η2 0 8 := rfl
  have bx9 : ((-1) : Int) ≤ x9 ∧ x9 ≤ 3 := k9.1.2.1
  have v14 : zEq (η3 0 7) (η2 0 7) := (k9.1.2.2.2.1 0 7 (by decide +kernel)).trans rfl
  have d3_0_7 : η3 0 7 = η2 0 7 := v14
  have v15 : zEq (η3 0 6) (η 0 6) := (k9.1.2.2.2.1 0 6 (by decide +kernel)).trans v10
  have d3_0_6 : η3 0 6 = η 0 6 := v15
  have v16 : zEq (η3 0 8) (η2 0 8) := (k9.1.2.2.2.1 0 8 (by decide +kernel)).trans rfl
  have d3_0_8 : η3 0 8 = η2 0 8 := v16
  have v17 : zEq (η3 0 11) (η2 0 11) := (k9.1.2.2.2.1 0 11 (by decide +kernel)).trans rfl
  replace e10 : x10 = η2 0 11 := e10.trans v17
  replace r10 : -2147483648 ≤ x10 ∧ x10 ≤ 2147483647 := r10
  have v18 : zEq (η4 0 7) (η2 0 7) := by rw [eη4]; exact (zup_ne (fun e _ => absurd e (by decide))).trans v14
  have c4_0_7 : η4 0 7 = η2 0 7 := v18
  have v19 : zEq (η4 0 6) (η 0 6) := by rw [eη4]; exact (zup_ne (fun e _ => absurd e (by decide))).trans v15
  have c4_0_6 : η4 0 6 = η 0 6 := v19
  have v20 : zEq (η4 0 8) (η2 0 8) := by rw [eη4]; exact (zup_ne (fun e _ => absurd e (by decide))).trans v16
  have c4_0_8 : η4 0 8 = η2 0 8 := v20
  have bx11 : (0 : Int) ≤ x11 ∧ x11 ≤ 1 := k11.1.2.1
  have w5_0_7 : (0 : Int) ≤ η5 0 7 ∧ η5 0 7 ≤ 700 := wf_ok (a := 7) (b := 7) (z := (0, 700)) k11.1.1 (by decide +kernel) (Nat.le_refl _) (Nat.le_refl _)
  have d5_0_7 : η5 0 7 = η5 0 7 := rfl
  have v22 : zEq (η5 0 6) (η 0 6) := (k11.1.2.2.2.1 0 6 (by decide +kernel)).trans v19
  have d5_0_6 : η5 0 6 = η 0 6 := v22
  have w5_0_8 : (0 : Int) ≤ η5 0 8 ∧ η5 0 8 ≤ 6 := wf_ok (a := 8) (b := 8) (z := (0, 6)) k11.1.1 (by decide +kernel) (Nat.le_refl _) (Nat.le_refl _)
  have d5_0_8 : η5 0 8 = η5 0 8 := rfl
  replace e12 : x12 = η5 0 11 := e12
  replace r12 : -2147483648 ≤ x12 ∧ x12 ≤ 2147483647 := r12
  have v25 : zEq (η6 0 7) (η5 0 7) := by rw [eη6]; exact (zup_ne (fun e _ => absurd e (by decide))).trans rfl
  have c6_0_7 : η6 0 7 = η5 0 7 := v25
  have v26 : zEq (η6 0 6) (η 0 6) := by rw [eη6]; exact (zup_ne (fun e _ => absurd e (by decide))).trans v22
  have c6_0_6 : η6 0 6 = η 0 6 := v26
  have v27 : zEq (η6 0 8) (η5 0 8) := by rw [eη6]; exact (zup_ne (fun e _ => absurd e (by decide))).trans rfl
  have c6_0_8 : η6 0 8 = η5 0 8 := v27
  have bx13 : (0 : Int) ≤ x13 ∧ x13 ≤ 1 := k13.1.2.1
  have w7_0_7 : (0 : Int) ≤ η7 0 7 ∧ η7 0 7 ≤ 700 := wf_ok (a := 7) (b := 7) (z := (0, 700)) k13.1.1 (by decide +kernel) (Nat.le_refl _) (Nat.le_refl _)
  have d7_0_7 : η7 0 7 = η7 0 7 := rfl
  have v29 : zEq (η7 0 6) (η 0 6) := (k13.1.2.2.2.1 0 6 (by decide +kernel)).trans v26
  have d7_0_6 : η7 0 6 = η 0 6 := v29
  have w7_0_8 : (0 : Int) ≤ η7 0 8 ∧ η7 0 8 ≤ 6 := wf_ok (a := 8) (b := 8) (z := (0, 6)) k13.1.1 (by decide +kernel) (Nat.le_refl _) (Nat.le_refl _)
  have d7_0_8 : η7 0 8 = η7 0 8 := rfl
  have f0_7 : η7 0 7 = η7 0 7 := rfl
  have f0_6 : η7 0 6 = η 0 6 := v29
  have f0_8 : η7 0 8 = η7 0 8 := rfl
  have qt2 : ¬ η 0 8 = 0 → 10 * (η1 0 6 - η1 0 7) + η1 0 8 < 10 * (η 0 6 - η 0 7) + η 0 8 := k2.2.2
  have qn6 : ¬ x6 = 0 → 10 * (η2 0 6 - η2 0 7) + η2 0 8 < 10 * (η1 0 6 - η1 0 7) + η1 0 8 := k6.2.2
  have g4 : G_n η4 := by rw [eη4]; exact zGk_up gk_n k9.2 (by decide +kernel)
  have qn11 : ¬ x11 = 0 → 10 * (η5 0 6 - η5 0 7) + η5 0 8 < 10 * (η4 0 6 - η4 0 7) + η4 0 8 := k11.2.2
  have g6 : G_n η6 := by rw [eη6]; exact zGk_up gk_n k11.2.1 (by decide +kernel)
  have qn13 : ¬ x13 = 0 → 10 * (η7 0 6 - η7 0 7) + η7 0 8 < 10 * (η6 0 6 - η6 0 7) + η6 0 8 := k13.2.2
  exact ⟨k13.2.1, fun w => absurd (show (0 : Int) = 0 by apply Int.le_antisymm <;> omega) w⟩
set_option maxHeartbeats 8000000 in
theorem zn_scratLine_o11 {ro : Nat → List Int32} (η : zE) (hp : sP wl_n zTr zPn_scratLine [] η) (hpp : pPn_scratLine [] η) : ∀ x1 : Int, x1 = η 0 (Int.toNat 17) → zok 0 x1 → (¬ x1 = 4) → ∀ (x2 : Int) (η1 : zE), ((gC2 wl_n [(nat_lit 0, zPn_wrong, zOn_wrong, zMn_wrong), (nat_lit 1, zPn_token, zOn_token, zMn_token), (nat_lit 2, zPn_number, zOn_number, zMn_number), (nat_lit 3, zPn_find_s, zOn_find_s, zMn_find_s)] pCn_scratLine qCn_scratLine) 1).2 [] η x2 η1 → ∀ x3 : Int, x3 = η1 0 (Int.toNat 17) → zok 0 x3 → ∀ x4 : Int, x4 = zd 0 1 4 x3 → ∀ x5 : Int, x5 = η1 0 (Int.toNat 10) → zok 0 x5 → ∀ (x6 : Int) (η2 : zE), ((gC2 wl_n [(nat_lit 0, zPn_wrong, zOn_wrong, zMn_wrong), (nat_lit 1, zPn_token, zOn_token, zMn_token), (nat_lit 2, zPn_number, zOn_number, zMn_number), (nat_lit 3, zPn_find_s, zOn_find_s, zMn_find_s)] pCn_scratLine qCn_scratLine) 2).2 [0, 11] η1 x6 η2 → (¬ x6 = 0) → ∀ x7 : Int, x7 = η2 0 (Int.toNat 17) → zok 0 x7 → ∀ x8 : Int, x8 = η2 0 (Int.toNat 11) → zok 0 x8 → ∀ (x9 : Int) (η3 : zE), ((gC2 wl_n [(nat_lit 0, zPn_wrong, zOn_wrong, zMn_wrong), (nat_lit 1, zPn_token, zOn_token, zMn_token), (nat_lit 2, zPn_number, zOn_number, zMn_number), (nat_lit 3, zPn_find_s, zOn_find_s, zMn_find_s)] pCn_scratLine qCn_scratLine) 3).2 [x7, x8] η2 x9 η3 → (x9 < 0) → ∀ x10 : Int, x10 = η3 0 (Int.toNat 11) → zok 0 x10 → ∀ η4 : zE, η4 = zup η3 7 (Int.toNat x4) x10 → ∀ (x11 : Int) (η5 : zE), ((gC2 wl_n [(nat_lit 0, zPn_wrong, zOn_wrong, zMn_wrong), (nat_lit 1, zPn_token, zOn_token, zMn_token), (nat_lit 2, zPn_number, zOn_number, zMn_number), (nat_lit 3, zPn_find_s, zOn_find_s, zMn_find_s)] pCn_scratLine qCn_scratLine) 2).2 [0, 100] η4 x11 η5 → (x11 = 0) → (fun (_ : Nat) (y : Int) (η' : zE) => pQn_scratLine [] η y η') 0 0 η5 := by
  have hk : ¬ η 0 8 = 0 := hpp.2
  intro x1 e1 r1 c1 x2 η1 h2 x3 e3 r3 x4 e4 x5 e5 r5 x6 η2 h6 c2 x7 e7 r7 x8 e8 r8 x9 η3 h9 c3 x10 e10 r10 η4 eη4 x11 η5 h11 c4
  replace e4 := zEq_i e4
  have k2 : sQ wl_n zTr zOn_token zMn_token [] η x2 η1 ∧ pQn_token [] η x2 η1 := h2
  have k6 : sQ wl_n zTr zOn_number zMn_number [0, 11] η1 x6 η2 ∧ pQn_number [0, 11] η1 x6 η2 := h6
  have k9 : sQ wl_n zTr zOn_find_s zMn_find_s [x7, x8] η2 x9 η3 ∧ pQn_find_s [x7, x8] η2 x9 η3 := h9
  have k11 : sQ wl_n zTr zOn_number zMn_number [0, 100] η4 x11 η5 ∧ pQn_number [0, 100] η4 x11 η5 := h11
  have w0_0_17 : (0 : Int) ≤ η 0 17 ∧ η 0 17 ≤ 4 := wf_ok (a := 17) (b := 17) (z := (0, 4)) hp.1 (by decide +kernel) (Nat.le_refl _) (Nat.le_refl _)
  replace e1 : x1 = η 0 17 := e1
  have w0_0_7 : (0 : Int) ≤ η 0 7 ∧ η 0 7 ≤ 700 := wf_ok (a := 7) (b := 7) (z := (0, 700)) hp.1 (by decide +kernel) (Nat.le_refl _) (Nat.le_refl _)
  have c0_0_7 : η 0 7 = η 0 7 := rfl
  have w0_0_6 : (0 : Int) ≤ η 0 6 ∧ η 0 6 ≤ 700 := wf_ok (a := 6) (b := 6) (z := (0, 700)) hp.1 (by decide +kernel) (Nat.le_refl _) (Nat.le_refl _)
  have c0_0_6 : η 0 6 = η 0 6 := rfl
  have w0_0_8 : (0 : Int) ≤ η 0 8 ∧ η 0 8 ≤ 6 := wf_ok (a := 8) (b := 8) (z := (0, 6)) hp.1 (by decide +kernel) (Nat.le_refl _) (Nat.le_refl _)
  have c0_0_8 : η 0 8 = η 0 8 := rfl
  have bx2 : (0 : Int) ≤ x2 ∧ x2 ≤ 0 := k2.1.2.1
  have w1_0_7 : (0 : Int) ≤ η1 0 7 ∧ η1 0 7 ≤ 700 := wf_ok (a := 7) (b := 7) (z := (0, 700)) k2.1.1 (by decide +kernel) (Nat.le_refl _) (Nat.le_refl _)
  have d1_0_7 : η1 0 7 = η1 0 7 := rfl
  have v5 : zEq (η1 0 6) (η 0 6) := (k2.1.2.2.2.1 0 6 (by decide +kernel)).trans rfl
  have d1_0_6 : η1 0 6 = η 0 6 := v5
  have w1_0_8 : (0 : Int) ≤ η1 0 8 ∧ η1 0 8 ≤ 6 := wf_ok (a := 8) (b := 8) (z := (0, 6)) k2.1.1 (by decide +kernel) (Nat.le_refl _) (Nat.le_refl _)
  have d1_0_8 : η1 0 8 = η1 0 8 := rfl
  have v7 : zEq (η1 0 17) (η 0 17) := (k2.1.2.2.2.1 0 17 (by decide +kernel)).trans rfl
  replace e3 : x3 = η 0 17 := e3.trans v7
  first
  | replace e4 : x4 = 4 + x3 := zd_a2 (zEq_o e4) (by clear e4; exact ⟨by omega, by omega⟩)
  | clear e4
  have w1_0_10 : (0 : Int) ≤ η1 0 10 ∧ η1 0 10 ≤ 700 := wf_ok (a := 10) (b := 10) (z := (0, 700)) k2.1.1 (by decide +kernel) (Nat.le_refl _) (Nat.le_refl _)
  replace e5 : x5 = η1 0 10 := e5
  have c1_0_7 : η1 0 7 = η1 0 7 := rfl
  have c1_0_6 : η1 0 6 = η 0 6 := v5
  have c1_0_8 : η1 0 8 = η1 0 8 := rfl
  have bx6 : (0 : Int) ≤ x6 ∧ x6 ≤ 1 := k6.1.2.1
  have w2_0_7 : (0 : Int) ≤ η2 0 7 ∧ η2 0 7 ≤ 700 := wf_ok (a := 7) (b := 7) (z := (0, 700)) k6.1.1 (by decide +kernel) (Nat.le_refl _) (Nat.le_refl _)
  have d2_0_7 : η2 0 7 = η2 0 7 := rfl
  have v10 : zEq (η2 0 6) (η 0 6) := (k6.1.2.2.2.1 0 6 (by decide +kernel)).trans v5
  have d2_0_6 : η2 0 6 = η 0 6 := v10
  have w2_0_8 : (0 : Int) ≤ η2 0 8 ∧ η2 0 8 ≤ 6 := wf_ok (a := 8) (b := 8) (z := (0, 6)) k6.1.1 (by decide +kernel) (Nat.le_refl _) (Nat.le_refl _)
  have d2_0_8 : η2 0 8 = η2 0 8 := rfl
  have v12 : zEq (η2 0 17) (η 0 17) := (k6.1.2.2.2.1 0 17 (by decide +kernel)).trans v7
  replace e7 : x7 = η 0 17 := e7.trans v12
  replace e8 : x8 = η2 0 11 := e8
  replace r8 : -2147483648 ≤ x8 ∧ x8 ≤ 2147483647 := r8
  have c2_0_7 : η2 0 7 = η2 0 7 := rfl
  have c2_0_6 : η2 0 6 = η 0 6 := v10
  have c2_0_8 : η2 0 8 = η2 0 8 := rfl
  have bx9 : ((-1) : Int) ≤ x9 ∧ x9 ≤ 3 := k9.1.2.1
  have v14 : zEq (η3 0 7) (η2 0 7) := (k9.1.2.2.2.1 0 7 (by decide +kernel)).trans rfl
  have d3_0_7 : η3 0 7 = η2 0 7 := v14
  have v15 : zEq (η3 0 6) (η 0 6) := (k9.1.2.2.2.1 0 6 (by decide +kernel)).trans v10
  have d3_0_6 : η3 0 6 = η 0 6 := v15
  have v16 : zEq (η3 0 8) (η2 0 8) := (k9.1.2.2.2.1 0 8 (by decide +kernel)).trans rfl
  have d3_0_8 : η3 0 8 = η2 0 8 := v16
  have v17 : zEq (η3 0 11) (η2 0 11) := (k9.1.2.2.2.1 0 11 (by decide +kernel)).trans rfl
  replace e10 : x10 = η2 0 11 := e10.trans v17
  replace r10 : -2147483648 ≤ x10 ∧ x10 ≤ 2147483647 := r10
  have v18 : zEq (η4 0 7) (η2 0 7) := by rw [eη4]; exact (zup_ne (fun e _ => absurd e (by decide))).trans v14
  have c4_0_7 : η4 0 7 = η2 0 7 := v18
  have v19 : zEq (η4 0 6) (η 0 6) := by rw [eη4]; exact (zup_ne (fun e _ => absurd e (by decide))).trans v15
  have c4_0_6 : η4 0 6 = η 0 6 := v19
  have v20 : zEq (η4 0 8) (η2 0 8) := by rw [eη4]; exact (zup_ne (fun e _ => absurd e (by decide))).trans v16
  have c4_0_8 : η4 0 8 = η2 0 8 := v20
  have bx11 : (0 : Int) ≤ x11 ∧ x11 ≤ 1 := k11.1.2.1
  have w5_0_7 : (0 : Int) ≤ η5 0 7 ∧ η5 0 7 ≤ 700 := wf_ok (a := 7) (b := 7) (z := (0, 700)) k11.1.1 (by decide +kernel) (Nat.le_refl _) (Nat.le_refl _)
  have d5_0_7 : η5 0 7 = η5 0 7 := rfl
  have v22 : zEq (η5 0 6) (η 0 6) := (k11.1.2.2.2.1 0 6 (by decide +kernel)).trans v19
  have d5_0_6 : η5 0 6 = η 0 6 := v22
  have w5_0_8 : (0 : Int) ≤ η5 0 8 ∧ η5 0 8 ≤ 6 := wf_ok (a := 8) (b := 8) (z := (0, 6)) k11.1.1 (by decide +kernel) (Nat.le_refl _) (Nat.le_refl _)
  have d5_0_8 : η5 0 8 = η5 0 8 := rfl
  have f0_7 : η5 0 7 = η5 0 7 := rfl
  have f0_6 : η5 0 6 = η 0 6 := v22
  have f0_8 : η5 0 8 = η5 0 8 := rfl
  have qt2 : ¬ η 0 8 = 0 → 10 * (η1 0 6 - η1 0 7) + η1 0 8 < 10 * (η 0 6 - η 0 7) + η 0 8 := k2.2.2
  have qn6 : ¬ x6 = 0 → 10 * (η2 0 6 - η2 0 7) + η2 0 8 < 10 * (η1 0 6 - η1 0 7) + η1 0 8 := k6.2.2
  have g4 : G_n η4 := by rw [eη4]; exact zGk_up gk_n k9.2 (by decide +kernel)
  have qn11 : ¬ x11 = 0 → 10 * (η5 0 6 - η5 0 7) + η5 0 8 < 10 * (η4 0 6 - η4 0 7) + η4 0 8 := k11.2.2
  exact ⟨k11.2.1, fun w => absurd (show (0 : Int) = 0 by apply Int.le_antisymm <;> omega) w⟩
set_option maxHeartbeats 8000000 in
theorem zn_scratLine_o12 {ro : Nat → List Int32} (η : zE) (hp : sP wl_n zTr zPn_scratLine [] η) (hpp : pPn_scratLine [] η) : ∀ x1 : Int, x1 = η 0 (Int.toNat 17) → zok 0 x1 → (¬ x1 = 4) → ∀ (x2 : Int) (η1 : zE), ((gC2 wl_n [(nat_lit 0, zPn_wrong, zOn_wrong, zMn_wrong), (nat_lit 1, zPn_token, zOn_token, zMn_token), (nat_lit 2, zPn_number, zOn_number, zMn_number), (nat_lit 3, zPn_find_s, zOn_find_s, zMn_find_s)] pCn_scratLine qCn_scratLine) 1).2 [] η x2 η1 → ∀ x3 : Int, x3 = η1 0 (Int.toNat 17) → zok 0 x3 → ∀ x4 : Int, x4 = zd 0 1 4 x3 → ∀ x5 : Int, x5 = η1 0 (Int.toNat 10) → zok 0 x5 → ∀ (x6 : Int) (η2 : zE), ((gC2 wl_n [(nat_lit 0, zPn_wrong, zOn_wrong, zMn_wrong), (nat_lit 1, zPn_token, zOn_token, zMn_token), (nat_lit 2, zPn_number, zOn_number, zMn_number), (nat_lit 3, zPn_find_s, zOn_find_s, zMn_find_s)] pCn_scratLine qCn_scratLine) 2).2 [0, 11] η1 x6 η2 → (¬ x6 = 0) → ∀ x7 : Int, x7 = η2 0 (Int.toNat 17) → zok 0 x7 → ∀ x8 : Int, x8 = η2 0 (Int.toNat 11) → zok 0 x8 → ∀ (x9 : Int) (η3 : zE), ((gC2 wl_n [(nat_lit 0, zPn_wrong, zOn_wrong, zMn_wrong), (nat_lit 1, zPn_token, zOn_token, zMn_token), (nat_lit 2, zPn_number, zOn_number, zMn_number), (nat_lit 3, zPn_find_s, zOn_find_s, zMn_find_s)] pCn_scratLine qCn_scratLine) 3).2 [x7, x8] η2 x9 η3 → (0 ≤ x9) → ∀ η4 : zE, η4 = zup η3 0 (Int.toNat 10) x5 → ((gC2 wl_n [(nat_lit 0, zPn_wrong, zOn_wrong, zMn_wrong), (nat_lit 1, zPn_token, zOn_token, zMn_token), (nat_lit 2, zPn_number, zOn_number, zMn_number), (nat_lit 3, zPn_find_s, zOn_find_s, zMn_find_s)] pCn_scratLine qCn_scratLine) 0).1 [3] η4 := by
  intro x1 e1 r1 c1 x2 η1 h2 x3 e3 r3 x4 e4 x5 e5 r5 x6 η2 h6 c2 x7 e7 r7 x8 e8 r8 x9 η3 h9 c3 η4 eη4
  have k2 : sQ wl_n zTr zOn_token zMn_token [] η x2 η1 ∧ pQn_token [] η x2 η1 := h2
  have k6 : sQ wl_n zTr zOn_number zMn_number [0, 11] η1 x6 η2 ∧ pQn_number [0, 11] η1 x6 η2 := h6
  have k9 : sQ wl_n zTr zOn_find_s zMn_find_s [x7, x8] η2 x9 η3 ∧ pQn_find_s [x7, x8] η2 x9 η3 := h9
  have g1 : G_n η4 := by rw [eη4]; exact zGk_upc gk_n k9.2 (by decide +kernel)
  exact g1
