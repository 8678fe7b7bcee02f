set_option maxHeartbeats 8000000 in
theorem zn_guestLine_o7 {ro : Nat → List Int32} (η : zE) (hp : sP wl_n zTr zPn_guestLine [] η) (hpp : pPn_guestLine [] η) : ∀ x1 : Int, x1 = η 0 (Int.toNat 18) → zok 0 x1 → (¬ x1 = 4) → ∀ (x2 : Int) (η1 : zE), ((gC2 wl_n [(nat_lit 0, zPn_wrong, zOn_wrong, zMn_wrong), (nat_lit 1, zPn_token, zOn_token, zMn_token), (nat_lit 2, zPn_number, zOn_number, zMn_number), (nat_lit 3, zPn_find_g, zOn_find_g, zMn_find_g)] pCn_guestLine qCn_guestLine) 1).2 [] η x2 η1 → ∀ x3 : Int, x3 = η1 0 (Int.toNat 8) → zok 0 x3 → (x3 = 2) → ∀ x4 : Int, x4 = η1 0 (Int.toNat 18) → zok 0 x4 → ∀ x5 : Int, x5 = η1 0 (Int.toNat 9) → zok 0 x5 → ∀ (x6 : Int) (η2 : zE), ((gC2 wl_n [(nat_lit 0, zPn_wrong, zOn_wrong, zMn_wrong), (nat_lit 1, zPn_token, zOn_token, zMn_token), (nat_lit 2, zPn_number, zOn_number, zMn_number), (nat_lit 3, zPn_find_g, zOn_find_g, zMn_find_g)] pCn_guestLine qCn_guestLine) 3).2 [x4, x5] η1 x6 η2 → (x6 < 0) → ∀ x7 : Int, x7 = η2 0 (Int.toNat 18) → zok 0 x7 → ∀ x8 : Int, x8 = zd 0 1 4 x7 → ∀ x9 : Int, x9 = η2 0 (Int.toNat 9) → zok 0 x9 → ∀ η3 : zE, η3 = zup η2 12 (Int.toNat x8) x9 → ∀ (x10 : Int) (η4 : zE), ((gC2 wl_n [(nat_lit 0, zPn_wrong, zOn_wrong, zMn_wrong), (nat_lit 1, zPn_token, zOn_token, zMn_token), (nat_lit 2, zPn_number, zOn_number, zMn_number), (nat_lit 3, zPn_find_g, zOn_find_g, zMn_find_g)] pCn_guestLine qCn_guestLine) 1).2 [] η3 x10 η4 → ∀ (x11 : Int) (η5 : zE), ((gC2 wl_n [(nat_lit 0, zPn_wrong, zOn_wrong, zMn_wrong), (nat_lit 1, zPn_token, zOn_token, zMn_token), (nat_lit 2, zPn_number, zOn_number, zMn_number), (nat_lit 3, zPn_find_g, zOn_find_g, zMn_find_g)] pCn_guestLine qCn_guestLine) 2).2 [1, 9] η4 x11 η5 → (¬ x11 = 0) → ∀ x12 : Int, x12 = η5 0 (Int.toNat 11) → zok 0 x12 → ∀ η6 : zE, η6 = zup η5 13 (Int.toNat x8) x12 → ∀ (x13 : Int) (η7 : zE), ((gC2 wl_n [(nat_lit 0, zPn_wrong, zOn_wrong, zMn_wrong), (nat_lit 1, zPn_token, zOn_token, zMn_token), (nat_lit 2, zPn_number, zOn_number, zMn_number), (nat_lit 3, zPn_find_g, zOn_find_g, zMn_find_g)] pCn_guestLine qCn_guestLine) 2).2 [0, 9] η6 x13 η7 → (¬ x13 = 0) → ∀ x14 : Int, x14 = η7 0 (Int.toNat 11) → zok 0 x14 → ∀ η8 : zE, η8 = zup η7 14 (Int.toNat x8) x14 → ∀ (x15 : Int) (η9 : zE), ((gC2 wl_n [(nat_lit 0, zPn_wrong, zOn_wrong, zMn_wrong), (nat_lit 1, zPn_token, zOn_token, zMn_token), (nat_lit 2, zPn_number, zOn_number, zMn_number), (nat_lit 3, zPn_find_g, zOn_find_g, zMn_find_g)] pCn_guestLine qCn_guestLine) 2).2 [0, 99] η8 x15 η9 → (x15 = 0) → (fun (_ : Nat) (y : Int) (η' : zE) => pQn_guestLine [] η y η') 0 0 η9 := by
  have hk : ¬ η 0 8 = 0 := hpp.2
  intro x1 e1 r1 c1 x2 η1 h2 x3 e3 r3 c2 x4 e4 r4 x5 e5 r5 x6 η2 h6 c3 x7 e7 r7 x8 e8 x9 e9 r9 η3 eη3 x10 η4 h10 x11 η5 h11 c4 x12 e12 r12 η6 eη6 x13 η7 h13 c5 x14 e14 r14 η8 eη8 x15 η9 h15 c6
  replace e8 := zEq_i e8
  have k2 : sQ wl_n zTr zOn_token zMn_token [] η x2 η1 ∧ pQn_token [] η x2 η1 := h2
  have k6 : sQ wl_n zTr zOn_find_g zMn_find_g [x4, x5] η1 x6 η2 ∧ pQn_find_g [x4, x5] η1 x6 η2 := h6
  have k10 : sQ wl_n zTr zOn_token zMn_token [] η3 x10 η4 ∧ pQn_token [] η3 x10 η4 := h10
  have k11 : sQ wl_n zTr zOn_number zMn_number [1, 9] η4 x11 η5 ∧ pQn_number [1, 9] η4 x11 η5 := h11
  have k13 : sQ wl_n zTr zOn_number zMn_number [0, 9] η6 x13 η7 ∧ pQn_number [0, 9] η6 x13 η7 := h13
  have k15 : sQ wl_n zTr zOn_number zMn_number [0, 99] η8 x15 η9 ∧ pQn_number [0, 99] η8 x15 η9 := h15
  have w0_0_18 : (0 : Int) ≤ η 0 18 ∧ η 0 18 ≤ 4 := wf_ok (a := 18) (b := 18) (z := (0, 4)) hp.1 (by decide +kernel) (Nat.le_refl _) (Nat.le_refl _)
  replace e1 : x1 = η 0 18 := e1
  have w0_0_7 : (0 : Int) ≤ η 0 7 ∧ η 0 7 ≤ 700 := wf_ok (a := 7) (b := 7) (z := (0, 700)) hp.1 (by decide +kernel) (Nat.le_refl _) (Nat.le_refl _)
  have c0_0_7 : η 0 7 = η 0 7 := rfl
  have w0_0_6 : (0 : Int) ≤ η 0 6 ∧ η 0 6 ≤ 700 := wf_ok (a := 6) (b := 6) (z := (0, 700)) hp.1 (by decide +kernel) (Nat.le_refl _) (Nat.le_refl _)
  have c0_0_6 : η 0 6 = η 0 6 := rfl
  have w0_0_8 : (0 : Int) ≤ η 0 8 ∧ η 0 8 ≤ 6 := wf_ok (a := 8) (b := 8) (z := (0, 6)) hp.1 (by decide +kernel) (Nat.le_refl _) (Nat.le_refl _)
  have c0_0_8 : η 0 8 = η 0 8 := rfl
  have bx2 : (0 : Int) ≤ x2 ∧ x2 ≤ 0 := k2.1.2.1
  have w1_0_7 : (0 : Int) ≤ η1 0 7 ∧ η1 0 7 ≤ 700 := wf_ok (a := 7) (b := 7) (z := (0, 700)) k2.1.1 (by decide +kernel) (Nat.le_refl _) (Nat.le_refl _)
  have d1_0_7 : η1 0 7 = η1 0 7 := rfl
  have v5 : zEq (η1 0 6) (η 0 6) := (k2.1.2.2.2.1 0 6 (by decide +kernel)).trans rfl
  have d1_0_6 : η1 0 6 = η 0 6 := v5
  have w1_0_8 : (0 : Int) ≤ η1 0 8 ∧ η1 0 8 ≤ 6 := wf_ok (a := 8) (b := 8) (z := (0, 6)) k2.1.1 (by decide +kernel) (Nat.le_refl _) (Nat.le_refl _)
  have d1_0_8 : η1 0 8 = η1 0 8 := rfl
  replace e3 : x3 = η1 0 8 := e3
  have v7 : zEq (η1 0 18) (η 0 18) := (k2.1.2.2.2.1 0 18 (by decide +kernel)).trans rfl
  replace e4 : x4 = η 0 18 := e4.trans v7
  replace e5 : x5 = η1 0 9 := e5
  replace r5 : -2147483648 ≤ x5 ∧ x5 ≤ 2147483647 := r5
  have c1_0_7 : η1 0 7 = η1 0 7 := rfl
  have c1_0_6 : η1 0 6 = η 0 6 := v5
  have c1_0_8 : η1 0 8 = η1 0 8 := rfl
  have bx6 : ((-1) : Int) ≤ x6 ∧ x6 ≤ 3 := k6.1.2.1
  have v9 : zEq (η2 0 7) (η1 0 7) := (k6.1.2.2.2.1 0 7 (by decide +kernel)).trans rfl
  have d2_0_7 : η2 0 7 = η1 0 7 := v9
  have v10 : zEq (η2 0 6) (η 0 6) := (k6.1.2.2.2.1 0 6 (by decide +kernel)).trans v5
  have d2_0_6 : η2 0 6 = η 0 6 := v10
  have v11 : zEq (η2 0 8) (η1 0 8) := (k6.1.2.2.2.1 0 8 (by decide +kernel)).trans rfl
  have d2_0_8 : η2 0 8 = η1 0 8 := v11
  have v12 : zEq (η2 0 18) (η 0 18) := (k6.1.2.2.2.1 0 18 (by decide +kernel)).trans v7
  replace e7 : x7 = η 0 18 := e7.trans v12
  first
  | replace e8 : x8 = 4 + x7 := zd_a2 (zEq_o e8) (by clear e8; exact ⟨by omega, by omega⟩)
  | clear e8
  have v13 : zEq (η2 0 9) (η1 0 9) := (k6.1.2.2.2.1 0 9 (by decide +kernel)).trans rfl
  replace e9 : x9 = η1 0 9 := e9.trans v13
  replace r9 : -2147483648 ≤ x9 ∧ x9 ≤ 2147483647 := r9
  have v14 : zEq (η3 0 7) (η1 0 7) := by rw [eη3]; exact (zup_ne (fun e _ => absurd e (by decide))).trans v9
  have c3_0_7 : η3 0 7 = η1 0 7 := v14
  have v15 : zEq (η3 0 6) (η 0 6) := by rw [eη3]; exact (zup_ne (fun e _ => absurd e (by decide))).trans v10
  have c3_0_6 : η3 0 6 = η 0 6 := v15
  have v16 : zEq (η3 0 8) (η1 0 8) := by rw [eη3]; exact (zup_ne (fun e _ => absurd e (by decide))).trans v11
  have c3_0_8 : η3 0 8 = η1 0 8 := v16
  have bx10 : (0 : Int) ≤ x10 ∧ x10 ≤ 0 := k10.1.2.1
  have w4_0_7 : (0 : Int) ≤ η4 0 7 ∧ η4 0 7 ≤ 700 := wf_ok (a := 7) (b := 7) (z := (0, 700)) k10.1.1 (by decide +kernel) (Nat.le_refl _) (Nat.le_refl _)
  have d4_0_7 : η4 0 7 = η4 0 7 := rfl
  have v18 : zEq (η4 0 6) (η 0 6) := (k10.1.2.2.2.1 0 6 (by decide +kernel)).trans v15
  have d4_0_6 : η4 0 6 = η 0 6 := v18
  have w4_0_8 : (0 : Int) ≤ η4 0 8 ∧ η4 0 8 ≤ 6 := wf_ok (a := 8) (b := 8) (z := (0, 6)) k10.1.1 (by decide +kernel) (Nat.le_refl _) (Nat.le_refl _)
  have d4_0_8 : η4 0 8 = η4 0 8 := rfl
  have c4_0_7 : η4 0 7 = η4 0 7 := rfl
  have c4_0_6 : η4 0 6 = η 0 6 := v18
  have c4_0_8 : η4 0 8 = η4 0 8 := rfl
  have bx11 : (0 : Int) ≤ x11 ∧ x11 ≤ 1 := k11.1.2.1
  have w5_0_7 : (0 : Int) ≤ η5 0 7 ∧ η5 0 7 ≤ 700 := wf_ok (a := 7) (b := 7) (z := (0, 700)) k11.1.1 (by decide +kernel) (Nat.le_refl _) (Nat.le_refl _)
  have d5_0_7 : η5 0 7 = η5 0 7 := rfl
  have v21 : zEq (η5 0 6) (η 0 6) := (k11.1.2.2.2.1 0 6 (by decide +kernel)).trans v18
  have d5_0_6 : η5 0 6 = η 0 6 := v21
  have w5_0_8 : (0 : Int) ≤ η5 0 8 ∧ η5 0 8 ≤ 6 := wf_ok (a := 8) (b := 8) (z := (0, 6)) k11.1.1 (by decide +kernel) (Nat.le_refl _) (Nat.le_refl _)
  have d5_0_8 : η5 0 8 = η5 0 8 := rfl
  replace e12 : x12 = η5 0 11 := e12
  replace r12 : -2147483648 ≤ x12 ∧ x12 ≤ 2147483647 := r12
  have v24 : zEq (η6 0 7) (η5 0 7) := by rw [eη6]; exact (zup_ne (fun e _ => absurd e (by decide))).trans rfl
  have c6_0_7 : η6 0 7 = η5 0 7 := v24
  have v25 : zEq (η6 0 6) (η 0 6) := by rw [eη6]; exact (zup_ne (fun e _ => absurd e (by decide))).trans v21
  have c6_0_6 : η6 0 6 = η 0 6 := v25
  have v26 : zEq (η6 0 8) (η5 0 8) := by rw [eη6]; exact (zup_ne (fun e _ => absurd e (by decide))).trans rfl
  have c6_0_8 : η6 0 8 = η5 0 8 := v26
  have bx13 : (0 : Int) ≤ x13 ∧ x13 ≤ 1 := k13.1.2.1
  have w7_0_7 : (0 : Int) ≤ η7 0 7 ∧ η7 0 7 ≤ 700 := wf_ok (a := 7) (b := 7) (z := (0, 700)) k13.1.1 (by decide +kernel) (Nat.le_refl _) (Nat.le_refl _)
  have d7_0_7 : η7 0 7 = η7 0 7 := rfl
  have v28 : zEq (η7 0 6) (η 0 6) := (k13.1.2.2.2.1 0 6 (by decide +kernel)).trans v25
  have d7_0_6 : η7 0 6 = η 0 6 := v28
  have w7_0_8 : (0 : Int) ≤ η7 0 8 ∧ η7 0 8 ≤ 6 := wf_ok (a := 8) (b := 8) (z := (0, 6)) k13.1.1 (by decide +kernel) (Nat.le_refl _) (Nat.le_refl _)
  have d7_0_8 : η7 0 8 = η7 0 8 := rfl
  replace e14 : x14 = η7 0 11 := e14
  replace r14 : -2147483648 ≤ x14 ∧ x14 ≤ 2147483647 := r14
  have v31 : zEq (η8 0 7) (η7 0 7) := by rw [eη8]; exact (zup_ne (fun e _ => absurd e (by decide))).trans rfl
  have c8_0_7 : η8 0 7 = η7 0 7 := v31
  have v32 : zEq (η8 0 6) (η 0 6) := by rw [eη8]; exact (zup_ne (fun e _ => absurd e (by decide))).trans v28
  have c8_0_6 : η8 0 6 = η 0 6 := v32
  have v33 : zEq (η8 0 8) (η7 0 8) := by rw [eη8]; exact (zup_ne (fun e _ => absurd e (by decide))).trans rfl
  have c8_0_8 : η8 0 8 = η7 0 8 := v33
  have bx15 : (0 : Int) ≤ x15 ∧ x15 ≤ 1 := k15.1.2.1
  have w9_0_7 : (0 : Int) ≤ η9 0 7 ∧ η9 0 7 ≤ 700 := wf_ok (a := 7) (b := 7) (z := (0, 700)) k15.1.1 (by decide +kernel) (Nat.le_refl _) (Nat.le_refl _)
  have d9_0_7 : η9 0 7 = η9 0 7 := rfl
  have v35 : zEq (η9 0 6) (η 0 6) := (k15.1.2.2.2.1 0 6 (by decide +kernel)).trans v32
  have d9_0_6 : η9 0 6 = η 0 6 := v35
  have w9_0_8 : (0 : Int) ≤ η9 0 8 ∧ η9 0 8 ≤ 6 := wf_ok (a := 8) (b := 8) (z := (0, 6)) k15.1.1 (by decide +kernel) (Nat.le_refl _) (Nat.le_refl _)
  have d9_0_8 : η9 0 8 = η9 0 8 := rfl
  have f0_7 : η9 0 7 = η9 0 7 := rfl
  have f0_6 : η9 0 6 = η 0 6 := v35
  have f0_8 : η9 0 8 = η9 0 8 := rfl
  have qt2 : ¬ η 0 8 = 0 → 10 * (η1 0 6 - η1 0 7) + η1 0 8 < 10 * (η 0 6 - η 0 7) + η 0 8 := k2.2.2
  have g3 : G_n η3 := by rw [eη3]; exact zGk_up gk_n k6.2 (by decide +kernel)
  have qt10 : ¬ η3 0 8 = 0 → 10 * (η4 0 6 - η4 0 7) + η4 0 8 < 10 * (η3 0 6 - η3 0 7) + η3 0 8 := k10.2.2
  have qn11 : ¬ x11 = 0 → 10 * (η5 0 6 - η5 0 7) + η5 0 8 < 10 * (η4 0 6 - η4 0 7) + η4 0 8 := k11.2.2
  have g6 : G_n η6 := by rw [eη6]; exact zGk_up gk_n k11.2.1 (by decide +kernel)
  have qn13 : ¬ x13 = 0 → 10 * (η7 0 6 - η7 0 7) + η7 0 8 < 10 * (η6 0 6 - η6 0 7) + η6 0 8 := k13.2.2
  have g8 : G_n η8 := by rw [eη8]; exact zGk_up gk_n k13.2.1 (by decide +kernel)
  have qn15 : ¬ x15 = 0 → 10 * (η9 0 6 - η9 0 7) + η9 0 8 < 10 * (η8 0 6 - η8 0 7) + η8 0 8 := k15.2.2
  exact ⟨k15.2.1, fun w => absurd (show (0 : Int) = 0 by apply Int.le_antisymm <;> omega) w⟩
set_option maxHeartbeats 8000000 in
theorem zn_guestLine_o8 {ro : Nat → List Int32} (η : zE) (hp : sP wl_n zTr zPn_guestLine [] η) (hpp : pPn_guestLine [] η) : ∀ x1 : Int, x1 = η 0 (Int.toNat 18) → zok 0 x1 → (¬ x1 = 4) → ∀ (x2 : Int) (η1 : zE), ((gC2 wl_n [(nat_lit 0, zPn_wrong, zOn_wrong, zMn_wrong), (nat_lit 1, zPn_token, zOn_token, zMn_token), (nat_lit 2, zPn_number, zOn_number, zMn_number), (nat_lit 3, zPn_find_g, zOn_find_g, zMn_find_g)] pCn_guestLine qCn_guestLine) 1).2 [] η x2 η1 → ∀ x3 : Int, x3 = η1 0 (Int.toNat 8) → zok 0 x3 → (x3 = 2) → ∀ x4 : Int, x4 = η1 0 (Int.toNat 18) → zok 0 x4 → ∀ x5 : Int, x5 = η1 0 (Int.toNat 9) → zok 0 x5 → ∀ (x6 : Int) (η2 : zE), ((gC2 wl_n [(nat_lit 0, zPn_wrong, zOn_wrong, zMn_wrong), (nat_lit 1, zPn_token, zOn_token, zMn_token), (nat_lit 2, zPn_number, zOn_number, zMn_number), (nat_lit 3, zPn_find_g, zOn_find_g, zMn_find_g)] pCn_guestLine qCn_guestLine) 3).2 [x4, x5] η1 x6 η2 → (x6 < 0) → ∀ x7 : Int, x7 = η2 0 (Int.toNat 18) → zok 0 x7 → ∀ x8 : Int, x8 = zd 0 1 4 x7 → ∀ x9 : Int, x9 = η2 0 (Int.toNat 9) → zok 0 x9 → ∀ η3 : zE, η3 = zup η2 12 (Int.toNat x8) x9 → ∀ (x10 : Int) (η4 : zE), ((gC2 wl_n [(nat_lit 0, zPn_wrong, zOn_wrong, zMn_wrong), (nat_lit 1, zPn_token, zOn_token, zMn_token), (nat_lit 2, zPn_number, zOn_number, zMn_number), (nat_lit 3, zPn_find_g, zOn_find_g, zMn_find_g)] pCn_guestLine qCn_guestLine) 1).2 [] η3 x10 η4 → ∀ (x11 : Int) (η5 : zE), ((gC2 wl_n [(nat_lit 0, zPn_wrong, zOn_wrong, zMn_wrong), (nat_lit 1, zPn_token, zOn_token, zMn_token), (nat_lit 2, zPn_number, zOn_number, zMn_number), (nat_lit 3, zPn_find_g, zOn_find_g, zMn_find_g)] pCn_guestLine qCn_guestLine) 2).2 [1, 9] η4 x11 η5 → (¬ x11 = 0) → ∀ x12 : Int, x12 = η5 0 (Int.toNat 11) → zok 0 x12 → ∀ η6 : zE, η6 = zup η5 13 (Int.toNat x8) x12 → ∀ (x13 : Int) (η7 : zE), ((gC2 wl_n [(nat_lit 0, zPn_wrong, zOn_wrong, zMn_wrong), (nat_lit 1, zPn_token, zOn_token, zMn_token), (nat_lit 2, zPn_number, zOn_number, zMn_number), (nat_lit 3, zPn_find_g, zOn_find_g, zMn_find_g)] pCn_guestLine qCn_guestLine) 2).2 [0, 9] η6 x13 η7 → (x13 = 0) → (fun (_ : Nat) (y : Int) (η' : zE) => pQn_guestLine [] η y η') 0 0 η7 := by
  have hk : ¬ η 0 8 = 0 := hpp.2
  intro x1 e1 r1 c1 x2 η1 h2 x3 e3 r3 c2 x4 e4 r4 x5 e5 r5 x6 η2 h6 c3 x7 e7 r7 x8 e8 x9 e9 r9 η3 eη3 x10 η4 h10 x11 η5 h11 c4 x12 e12 r12 η6 eη6 x13 η7 h13 c5
  replace e8 := zEq_i e8
  have k2 : sQ wl_n zTr zOn_token zMn_token [] η x2 η1 ∧ pQn_token [] η x2 η1 := h2
  have k6 : sQ wl_n zTr zOn_find_g zMn_find_g [x4, x5] η1 x6 η2 ∧ pQn_find_g [x4, x5] η1 x6 η2 := h6
  have k10 : sQ wl_n zTr zOn_token zMn_token [] η3 x10 η4 ∧ pQn_token [] η3 x10 η4 := h10
  have k11 : sQ wl_n zTr zOn_number zMn_number [1, 9] η4 x11 η5 ∧ pQn_number [1, 9] η4 x11 η5 := h11
  have k13 : sQ wl_n zTr zOn_number zMn_number [0, 9] η6 x13 η7 ∧ pQn_number [0, 9] η6 x13 η7 := h13
  have w0_0_18 : (0 : Int) ≤ η 0 18 ∧ η 0 18 ≤ 4 := wf_ok (a := 18) (b := 18) (z := (0, 4)) hp.1 (by decide +kernel) (Nat.le_refl _) (Nat.le_refl _)
  replace e1 : x1 = η 0 18 := e1
  have w0_0_7 : (0 : Int) ≤ η 0 7 ∧ η 0 7 ≤ 700 := wf_ok (a := 7) (b := 7) (z := (0, 700)) hp.1 (by decide +kernel) (Nat.le_refl _) (Nat.le_refl _)
  have c0_0_7 : η 0 7 = η 0 7 := rfl
  have w0_0_6 : (0 : Int) ≤ η 0 6 ∧ η 0 6 ≤ 700 := wf_ok (a := 6) (b := 6) (z := (0, 700)) hp.1 (by decide +kernel) (Nat.le_refl _) (Nat.le_refl _)
  have c0_0_6 : η 0 6 = η 0 6 := rfl
  have w0_0_8 : (0 : Int) ≤ η 0 8 ∧ η 0 8 ≤ 6 := wf_ok (a := 8) (b := 8) (z := (0, 6)) hp.1 (by decide +kernel) (Nat.le_refl _) (Nat.le_refl _)
  have c0_0_8 : η 0 8 = η 0 8 := rfl
  have bx2 : (0 : Int) ≤ x2 ∧ x2 ≤ 0 := k2.1.2.1
  have w1_0_7 : (0 : Int) ≤ η1 0 7 ∧ η1 0 7 ≤ 700 := wf_ok (a := 7) (b := 7) (z := (0, 700)) k2.1.1 (by decide +kernel) (Nat.le_refl _) (Nat.le_refl _)
  have d1_0_7 : η1 0 7 = η1 0 7 := rfl
  have v5 : zEq (η1 0 6) (η 0 6) := (k2.1.2.2.2.1 0 6 (by decide +kernel)).trans rfl
  have d1_0_6 : η1 0 6 = η 0 6 := v5
  have w1_0_8 : (0 : Int) ≤ η1 0 8 ∧ η1 0 8 ≤ 6 := wf_ok (a := 8) (b := 8) (z := (0, 6)) k2.1.1 (by decide +kernel) (Nat.le_refl _) (Nat.le_refl _)
  have d1_0_8 : η1 0 8 = η1 0 8 := rfl
  replace e3 : x3 = η1 0 8 := e3
  have v7 : zEq (η1 0 18) (η 0 18) := (k2.1.2.2.2.1 0 18 (by decide +kernel)).trans rfl
  replace e4 : x4 = η 0 18 := e4.trans v7
  replace e5 : x5 = η1 0 9 := e5
  replace r5 : -2147483648 ≤ x5 ∧ x5 ≤ 2147483647 := r5
  have c1_0_7 : η1 0 7 = η1 0 7 := rfl
  have c1_0_6 : η1 0 6 = η 0 6 := v5
  have c1_0_8 : η1 0 8 = η1 0 8 := rfl
  have bx6 : ((-1) : Int) ≤ x6 ∧ x6 ≤ 3 := k6.1.2.1
  have v9 : zEq (η2 0 7) (η1 0 7) := (k6.1.2.2.2.1 0 7 (by decide +kernel)).trans rfl
  have d2_0_7 : η2 0 7 = η1 0 7 := v9
  have v10 : zEq (η2 0 6) (η 0 6) := (k6.1.2.2.2.1 0 6 (by decide +kernel)).trans v5
  have d2_0_6 : η2 0 6 = η 0 6 := v10
  have v11 : zEq (η2 0 8) (η1 0 8) := (k6.1.2.2.2.1 0 8 (by decide +kernel)).trans rfl
  have d2_0_8 : η2 0 8 = η1 0 8 := v11
  have v12 : zEq (η2 0 18) (η 0 18) := (k6.1.2.2.2.1 0 18 (by decide +kernel)).trans v7
  replace e7 : x7 = η 0 18 := e7.trans v12
  first
  | replace e8 : x8 = 4 + x7 := zd_a2 (zEq_o e8) (by clear e8; exact ⟨by omega, by omega⟩)
  | clear e8
  have v13 : zEq (η2 0 9) (η1 0 9) := (k6.1.2.2.2.1 0 9 (by decide +kernel)).trans rfl
  replace e9 : x9 = η1 0 9 := e9.trans v13
  replace r9 : -2147483648 ≤ x9 ∧ x9 ≤ 2147483647 := r9
  have v14 : zEq (η3 0 7) (η1 0 7) := by rw [eη3]; exact (zup_ne (fun e _ => absurd e (by decide))).trans v9
  have c3_0_7 : η3 0 7 = η1 0 7 := v14
  have v15 : zEq (η3 0 6) (η 0 6) := by rw [eη3]; exact (zup_ne (fun e _ => absurd e (by decide))).trans v10
  have c3_0_6 : η3 0 6 = η 0 6 := v15
  have v16 : zEq (η3 0 8) (η1 0 8) := by rw [eη3]; exact (zup_ne (fun e _ => absurd e (by decide))).trans v11
  have c3_0_8 : η3 0 8 = η1 0 8 := v16
  have bx10 : (0 : Int) ≤ x10 ∧ x10 ≤ 0 := k10.1.2.1
  have w4_0_7 : (0 : Int) ≤ η4 0 7 ∧ η4 0 7 ≤ 700 := wf_ok (a := 7) (b := 7) (z := (0, 700)) k10.1.1 (by decide +kernel) (Nat.le_refl _) (Nat.le_refl _)
  have d4_0_7 : η4 0 7 = η4 0 7 := rfl
  have v18 : zEq (η4 0 6) (η 0 6) := (k10.1.2.2.2.1 0 6 (by decide +kernel)).trans v15
  have d4_0_6 : η4 0 6 = η 0 6 := v18
  have w4_0_8 : (0 : Int) ≤ η4 0 8 ∧ η4 0 8 ≤ 6 := wf_ok (a := 8) (b := 8) (z := (0, 6)) k10.1.1 (by decide +kernel) (Nat.le_refl _) (Nat.le_refl _)
  have d4_0_8 : η4 0 8 = η4 0 8 := rfl
  have c4_0_7 : η4 0 7 = η4 0 7 := rfl
  have c4_0_6 : η4 0 6 = η 0 6 := v18
  have c4_0_8 : η4 0 8 = η4 0 8 := rfl
  have bx11 : (0 : Int) ≤ x11 ∧ x11 ≤ 1 := k11.1.2.1
  have w5_0_7 : (0 : Int) ≤ η5 0 7 ∧ η5 0 7 ≤ 700 := wf_ok (a := 7) (b := 7) (z := (0, 700)) k11.1.1 (by decide +kernel) (Nat.le_refl _) (Nat.le_refl _)
  have d5_0_7 : η5 0 7 = η5 0 7 := rfl
  have v21 : zEq (η5 0 6) (η 0 6) := (k11.1.2.2.2.1 0 6 (by decide +kernel)).trans v18
  have d5_0_6 : η5 0 6 = η 0 6 := v21
  have w5_0_8 : (0 : Int) ≤ η5 0 8 ∧ η5 0 8 ≤ 6 := wf_ok (a := 8) (b := 8) (z := (0, 6)) k11.1.1 (by decide +kernel) (Nat.le_refl _) (Nat.le_refl _)
  have d5_0_8 : η5 0 8 = η5 0 8 := rfl
  replace e12 : x12 = η5 0 11 := e12
  replace r12 : -2147483648 ≤ x12 ∧ x12 ≤ 2147483647 := r12
  have v24 : zEq (η6 0 7) (η5 0 7) := by rw [eη6]; exact (zup_ne (fun e _ => absurd e (by decide))).trans rfl
  have c6_0_7 : η6 0 7 = η5 0 7 := v24
  have v25 : zEq (η6 0 6) (η 0 6) := by rw [eη6]; exact (zup_ne (fun e _ => absurd e (by decide))).trans v21
  have c6_0_6 : η6 0 6 = η 0 6 := v25
  have v26 : zEq (η6 0 8) (η5 0 8) := by rw [eη6]; exact (zup_ne (fun e _ => absurd e (by decide))).trans rfl
  have c6_0_8 : η6 0 8 = η5 0 8 := v26
  have bx13 : (0 : Int) ≤ x13 ∧ x13 ≤ 1 := k13.1.2.1
  have w7_0_7 : (0 : Int) ≤ η7 0 7 ∧ η7 0 7 ≤ 700 := wf_ok (a := 7) (b := 7) (z := (0, 700)) k13.1.1 (by decide +kernel) (Nat.le_refl _) (Nat.le_refl _)
  have d7_0_7 : η7 0 7 = η7 0 7 := rfl
  have v28 : zEq (η7 0 6) (η 0 6) := (k13.1.2.2.2.1 0 6 (by decide +kernel)).trans v25
  have d7_0_6 : η7 0 6 = η 0 6 := v28
  have w7_0_8 : (0 : Int) ≤ η7 0 8 ∧ η7 0 8 ≤ 6 := wf_ok (a := 8) (b := 8) (z := (0, 6)) k13.1.1 (by decide +kernel) (Nat.le_refl _) (Nat.le_refl _)
  have d7_0_8 : η7 0 8 = η7 0 8 := rfl
  have f0_7 : η7 0 7 = η7 0 7 := rfl
  have f0_6 : η7 0 6 = η 0 6 := v28
  have f0_8 : η7 0 8 = η7 0 8 := rfl
  have qt2 : ¬ η 0 8 = 0 → 10 * (η1 0 6 - η1 0 7) + η1 0 8 < 10 * (η 0 6 - η 0 7) + η 0 8 := k2.2.2
  have g3 : G_n η3 := by rw [eη3]; exact zGk_up gk_n k6.2 (by decide +kernel)
  have qt10 : ¬ η3 0 8 = 0 → 10 * (η4 0 6 - η4 0 7) + η4 0 8 < 10 * (η3 0 6 - η3 0 7) + η3 0 8 := k10.2.2
  have qn11 : ¬ x11 = 0 → 10 * (η5 0 6 - η5 0 7) + η5 0 8 < 10 * (η4 0 6 - η4 0 7) + η4 0 8 := k11.2.2
  have g6 : G_n η6 := by rw [eη6]; exact zGk_up gk_n k11.2.1 (by decide +kernel)
  have qn13 : ¬ x13 = 0 → 10 * (η7 0 6 - η7 0 7) + η7 0 8 < 10 * (η6 0 6 - η6 0 7) + η6 0 8 := k13.2.2
  exact ⟨k13.2.1, fun w => absurd (show (0 : Int) = 0 by apply Int.le_antisymm <;> omega) w⟩
set_option maxHeartbeats 8000000 in
theorem zn_guestLine_o9 {ro : Nat → List Int32} (η : zE) (hp : sP wl_n zTr zPn_guestLine [] η) (hpp : pPn_guestLine [] η) : ∀ x1 : Int, x1 = η 0 (Int.toNat 18) → zok 0 x1 → (¬ x1 = 4) → ∀ (x2 : Int) (η1 : zE), ((gC2 wl_n [(nat_lit 0, zPn_wrong, zOn_wrong, zMn_wrong), (nat_lit 1, zPn_token, zOn_token, zMn_token), (nat_lit 2, zPn_number, zOn_number, zMn_number), (nat_lit 3, zPn_find_g, zOn_find_g, zMn_find_g)] pCn_guestLine qCn_guestLine) 1).2 [] η x2 η1 → ∀ x3 : Int, x3 = η1 0 (Int.toNat 8) → zok 0 x3 → (x3 = 2) → ∀ x4 : Int, x4 = η1 0 (Int.toNat 18) → zok 0 x4 → ∀ x5 : Int, x5 = η1 0 (Int.toNat 9) → zok 0 x5 → ∀ (x6 : Int) (η2 : zE), ((gC2 wl_n [(nat_lit 0, zPn_wrong, zOn_wrong, zMn_wrong), (nat_lit 1, zPn_token, zOn_token, zMn_token), (nat_lit 2, zPn_number, zOn_number, zMn_number), (nat_lit 3, zPn_find_g, zOn_find_g, zMn_find_g)] pCn_guestLine qCn_guestLine) 3).2 [x4, x5] η1 x6 η2 → (x6 < 0) → ∀ x7 : Int, x7 = η2 0 (Int.toNat 18) → zok 0 x7 → ∀ x8 : Int, x8 = zd 0 1 4 x7 → ∀ x9 : Int, x9 = η2 0 (Int.toNat 9) → zok 0 x9 → ∀ η3 : zE, η3 = zup η2 12 (Int.toNat x8) x9 → ∀ (x10 : Int) (η4 : zE), ((gC2 wl_n [(nat_lit 0, zPn_wrong, zOn_wrong, zMn_wrong), (nat_lit 1, zPn_token, zOn_token, zMn_token), (nat_lit 2, zPn_number, zOn_number, zMn_number), (nat_lit 3, zPn_find_g, zOn_find_g, zMn_find_g)] pCn_guestLine qCn_guestLine) 1).2 [] η3 x10 η4 → ∀ (x11 : Int) (η5 : zE), ((gC2 wl_n [(nat_lit 0, zPn_wrong, zOn_wrong, zMn_wrong), (nat_lit 1, zPn_token, zOn_token, zMn_token), (nat_lit 2, zPn_number, zOn_number, zMn_number), (nat_lit 3, zPn_find_g, zOn_find_g, zMn_find_g)] pCn_guestLine qCn_guestLine) 2).2 [1, 9] η4 x11 η5 → (x11 = 0) → (fun (_ : Nat) (y : Int) (η' : zE) => pQn_guestLine [] η y η') 0 0 η5 := by
  have hk : ¬ η 0 8 = 0 := hpp.2
  intro x1 e1 r1 c1 x2 η1 h2 x3 e3 r3 c2 x4 e4 r4 x5 e5 r5 x6 η2 h6 c3 x7 e7 r7 x8 e8 x9 e9 r9 η3 eη3 x10 η4 h10 x11 η5 h11 c4
  replace e8 := zEq_i e8
  have k2 : sQ wl_n zTr zOn_token zMn_token [] η x2 η1 ∧ pQn_token [] η x2 η1 := h2
  have k6 : sQ wl_n zTr zOn_find_g zMn_find_g [x4, x5] η1 x6 η2 ∧ pQn_find_g [x4, x5] η1 x6 η2 := h6
  have k10 : sQ wl_n zTr zOn_token zMn_token [] η3 x10 η4 ∧ pQn_token [] η3 x10 η4 := h10
  have k11 : sQ wl_n zTr zOn_number zMn_number [1, 9] η4 x11 η5 ∧ pQn_number [1, 9] η4 x11 η5 := h11
  have w0_0_18 : (0 : Int) ≤ η 0 18 ∧ η 0 18 ≤ 4 := wf_ok (a := 18) (b := 18) (z := (0, 4)) hp.1 (by decide +kernel) (Nat.le_refl _) (Nat.le_refl _)
  replace e1 : x1 = η 0 18 := e1
  have w0_0_7 : (0 : Int) ≤ η 0 7 ∧ η 0 7 ≤ 700 := wf_ok (a := 7) (b := 7) (z := (0, 700)) hp.1 (by decide +kernel) (Nat.le_refl _) (Nat.le_refl _)
  have c0_0_7 : η 0 7 = η 0 7 := rfl
  have w0_0_6 : (0 : Int) ≤ η 0 6 ∧ η 0 6 ≤ 700 := wf_ok (a := 6) (b := 6) (z := (0, 700)) hp.1 (by decide +kernel) (Nat.le_refl _) (Nat.le_refl _)
  have c0_0_6 : η 0 6 = η 0 6 := rfl
  have w0_0_8 : (0 : Int) ≤ η 0 8 ∧ η 0 8 ≤ 6 := wf_ok (a := 8) (b := 8) (z := (0, 6)) hp.1 (by decide +kernel) (Nat.le_refl _) (Nat.le_refl _)
  have c0_0_8 : η 0 8 = η 0 8 := rfl
  have bx2 : (0 : Int) ≤ x2 ∧ x2 ≤ 0 := k2.1.2.1
  have w1_0_7 : (0 : Int) ≤ η1 0 7 ∧ η1 0 7 ≤ 700 := wf_ok (a := 7) (b := 7) (z := (0, 700)) k2.1.1 (by decide +kernel) (Nat.le_refl _) (Nat.le_refl _)
  have d1_0_7 : η1 0 7 = η1 0 7 := rfl
  have v5 : zEq (η1 0 6) (η 0 6) := (k2.1.2.2.2.1 0 6 (by decide +kernel)).trans rfl
  have d1_0_6 : η1 0 6 = η 0 6 := v5
  have w1_0_8 : (0 : Int) ≤ η1 0 8 ∧ η1 0 8 ≤ 6 := wf_ok (a := 8) (b := 8) (z := (0, 6)) k2.1.1 (by decide +kernel) (Nat.le_refl _) (Nat.le_refl _)
  have d1_0_8 : η1 0 8 = η1 0 8 := rfl
  replace e3 : x3 = η1 0 8 := e3
  have v7 : zEq (η1 0 18) (η 0 18) := (k2.1.2.2.2.1 0 18 (by decide +kernel)).trans rfl
  replace e4 : x4 = η 0 18 := e4.trans v7
  replace e5 : x5 = η1 0 9 := e5
  replace r5 : -2147483648 ≤ x5 ∧ x5 ≤ 2147483647 := r5
  have c1_0_7 : η1 0 7 = η1 0 7 := rfl
  have c1_0_6 : η1 0 6 = η 0 6 := v5
  have c1_0_8 : η1 0 8 = η1 0 8 := rfl
  have bx6 : ((-1) : Int) ≤ x6 ∧ x6 ≤ 3 := k6.1.2.1
  have v9 : zEq (η2 0 7) (η1 0 7) := (k6.1.2.2.2.1 0 7 (by decide +kernel)).trans rfl
  have d2_0_7 : η2 0 7 = η1 0 7 := v9
  have v10 : zEq (η2 0 6) (η 0 6) := (k6.1.2.2.2.1 0 6 (by decide +kernel)).trans v5
  have d2_0_6 : η2 0 6 = η 0 6 := v10
  have v11 : zEq (η2 0 8) (η1 0 8) := (k6.1.2.2.2.1 0 8 (by decide +kernel)).trans rfl
  have d2_0_8 : η2 0 8 = η1 0 8 := v11
  have v12 : zEq (η2 0 18) (η 0 18) := (k6.1.2.2.2.1 0 18 (by decide +kernel)).trans v7
  replace e7 : x7 = η 0 18 := e7.trans v12
  first
  | replace e8 : x8 = 4 + x7 := zd_a2 (zEq_o e8) (by clear e8; exact ⟨by omega, by omega⟩)
  | clear e8
  have v13 : zEq (η2 0 9) (η1 0 9) := (k6.1.2.2.2.1 0 9 (by decide +kernel)).trans rfl
  replace e9 : x9 = η1 0 9 := e9.trans v13
  replace r9 : -2147483648 ≤ x9 ∧ x9 ≤ 2147483647 := r9
  have v14 : zEq (η3 0 7) (η1 0 7) := by rw [eη3]; exact (zup_ne (fun e _ => absurd e (by decide))).trans v9
  have c3_0_7 : η3 0 7 = η1 0 7 := v14
  have v15 : zEq (η3 0 6) (η 0 6) := by rw [eη3]; exact (zup_ne (fun e _ => absurd e (by decide))).trans v10
  have c3_0_6 : η3 0 6 = η 0 6 := v15
  have v16 : zEq (η3 0 8) (η1 0 8) := by rw [eη3]; exact (zup_ne (fun e _ => absurd e (by decide))).trans v11
  have c3_0_8 : η3 0 8 = η1 0 8 := v16
  have bx10 : (0 : Int) ≤ x10 ∧ x10 ≤ 0 := k10.1.2.1
  have w4_0_7 : (0 : Int) ≤ η4 0 7 ∧ η4 0 7 ≤ 700 := wf_ok (a := 7) (b := 7) (z := (0, 700)) k10.1.1 (by decide +kernel) (Nat.le_refl _) (Nat.le_refl _)
  have d4_0_7 : η4 0 7 = η4 0 7 := rfl
  have v18 : zEq (η4 0 6) (η 0 6) := (k10.1.2.2.2.1 0 6 (by decide +kernel)).trans v15
  have d4_0_6 : η4 0 6 = η 0 6 := v18
  have w4_0_8 : (0 : Int) ≤ η4 0 8 ∧ η4 0 8 ≤ 6 := wf_ok (a := 8) (b := 8) (z := (0, 6)) k10.1.1 (by decide +kernel) (Nat.le_refl _) (Nat.le_refl _)
  have d4_0_8 : η4 0 8 = η4 0 8 := rfl
  have c4_0_7 : η4 0 7 = η4 0 7 := rfl
  have c4_0_6 : η4 0 6 = η 0 6 := v18
  have c4_0_8 : η4 0 8 = η4 0 8 := rfl
  have bx11 : (0 : Int) ≤ x11 ∧ x11 ≤ 1 := k11.1.2.1
  have w5_0_7 : (0 : Int) ≤ η5 0 7 ∧ η5 0 7 ≤ 700 := wf_ok (a := 7) (b := 7) (z := (0, 700)) k11.1.1 (by decide +kernel) (Nat.le_refl _) (Nat.le_refl _)
  have d5_0_7 : η5 0 7 = η5 0 7 := rfl
  have v21 : zEq (η5 0 6) (η 0 6) := (k11.1.2.2.2.1 0 6 (by decide +kernel)).trans v18
  have d5_0_6 : η5 0 6 = η 0 6 := v21
  have w5_0_8 : (0 : Int) ≤ η5 0 8 ∧ η5 0 8 ≤ 6 := wf_ok (a := 8) (b := 8) (z := (0, 6)) k11.1.1 (by decide +kernel) (Nat.le_refl _) (Nat.le_refl _)
  have d5_0_8 : η5 0 8 = η5 0 8 := rfl
  have f0_7 : η5 0 7 = η5 0 7 := rfl
  have f0_6 : η5 0 6 = η 0 6 := v21
  have f0_8 : η5 0 8 = η5 0 8 := rfl
  have qt2 : ¬ η 0 8 = 0 → 10 * (η1 0 6 - η1 0 7) + η1 0 8 < 10 * (η 0 6 - η 0 7) + η 0 8 := k2.2.2
  have g3 : G_n η3 := by rw [eη3]; exact zGk_up gk_n k6.2 (by decide +kernel)
  have qt10 : ¬ η3 0 8 = 0 → 10 * (η4 0 6 - η4 0 7) + η4 0 8 < 10 * (η3 0 6 - η3 0 7) + η3 0 8 := k10.2.2
  have qn11 : ¬ x11 = 0 → 10 * (η5 0 6 - η5 0 7) + η5 0 8 < 10 * (η4 0 6 - η4 0 7) + η4 0 8 := k11.2.2
  exact ⟨k11.2.1, fun w => absurd (show (0 : Int) = 0 by apply Int.le_antisymm <;> omega) w⟩
set_option maxHeartbeats 8000000 in
theorem zn_guestLine_o10 {ro : Nat → List Int32} (η : zE) (hp : sP wl_n zTr zPn_guestLine [] η) (hpp : pPn_guestLine [] η) : ∀ x1 : Int, x1 = η 0 (Int.toNat 18) → zok 0 x1 → (¬ x1 = 4) → ∀ (x2 : Int) (η1 : zE), ((gC2 wl_n [(nat_lit 0, zPn_wrong, zOn_wrong, zMn_wrong), (nat_lit 1, zPn_token, zOn_token, zMn_token), (nat_lit 2, zPn_number, zOn_number, zMn_number), (nat_lit 3, zPn_find_g, zOn_find_g, zMn_find_g)] pCn_guestLine qCn_guestLine) 1).2 [] η x2 η1 → ∀ x3 : Int, x3 = η1 0 (Int.toNat 8) → zok 0 x3 → (x3 = 2) → ∀ x4 : Int, x4 = η1 0 (Int.toNat 18) → zok 0 x4 → ∀ x5 : Int, x5 = η1 0 (Int.toNat 9) → zok 0 x5 → ∀ (x6 : Int) (η2 : zE), ((gC2 wl_n [(nat_lit 0, zPn_wrong, zOn_wrong, zMn_wrong), (nat_lit 1, zPn_token, zOn_token, zMn_token), (nat_lit 2, zPn_number, zOn_number, zMn_number), (nat_lit 3, zPn_find_g, zOn_find_g, zMn_find_g)] pCn_guestLine qCn_guestLine) 3).2 [x4, x5] η1 x6 η2 → (0 ≤ x6) → ((gC2 wl_n [(nat_lit 0, zPn_wrong, zOn_wrong, zMn_wrong), (nat_lit 1, zPn_token, zOn_token, zMn_token), (nat_lit 2, zPn_number, zOn_number, zMn_number), (nat_lit 3, zPn_find_g, zOn_find_g, zMn_find_g)] pCn_guestLine qCn_guestLine) 0).1 [3] η2 := by
  intro x1 e1 r1 c1 x2 η1 h2 x3 e3 r3 c2 x4 e4 r4 x5 e5 r5 x6 η2 h6 c3
  have k2 : sQ wl_n zTr zOn_token zMn_token [] η x2 η1 ∧ pQn_token [] η x2 η1 := h2
  have k6 : sQ wl_n zTr zOn_find_g zMn_find_g [x4, x5] η1 x6 η2 ∧ pQn_find_g [x4, x5] η1 x6 η2 := h6
  exact k6.2
set_option maxHeartbeats 8000000 in
theorem zn_guestLine_o11 {ro : Nat → List Int32} (η : zE) (hp : sP wl_n zTr zPn_guestLine [] η) (hpp : pPn_guestLine [] η) : ∀ x1 : Int, x1 = η 0 (Int.toNat 18) → zok 0 x1 → (¬ x1 = 4) → ∀ (x2 : Int) (η1 : zE), ((gC2 wl_n [(nat_lit 0, zPn_wrong, zOn_wrong, zMn_wrong), (nat_lit 1, zPn_token, zOn_token, zMn_token), (nat_lit 2, zPn_number, zOn_number, zMn_number), (nat_lit 3, zPn_find_g, zOn_find_g, zMn_find_g)] pCn_guestLine qCn_guestLine) 1).2 [] η x2 η1 → ∀ x3 : Int, x3 = η1 0 (Int.toNat 8) → zok 0 x3 → (x3 = 2) → ∀ x4 : Int, x4 = η1 0 (Int.toNat 18) → zok 0 x4 → ∀ x5 : Int, x5 = η1 0 (Int.toNat 9) → zok 0 x5 → ∀ (x6 : Int) (η2 : zE), ((gC2 wl_n [(nat_lit 0, zPn_wrong, zOn_wrong, zMn_wrong), (nat_lit 1, zPn_token, zOn_token, zMn_token), (nat_lit 2, zPn_number, zOn_number, zMn_number), (nat_lit 3, zPn_find_g, zOn_find_g, zMn_find_g)] pCn_guestLine qCn_guestLine) 3).2 [x4, x5] η1 x6 η2 → (0 ≤ x6) → ∀ (x7 : Int) (η3 : zE), ((gC2 wl_n [(nat_lit 0, zPn_wrong, zOn_wrong, zMn_wrong), (nat_lit 1, zPn_token, zOn_token, zMn_token), (nat_lit 2, zPn_number, zOn_number, zMn_number), (nat_lit 3, zPn_find_g, zOn_find_g, zMn_find_g)] pCn_guestLine qCn_guestLine) 0).2 [3] η2 x7 η3 → (fun (_ : Nat) (y : Int) (η' : zE) => pQn_guestLine [] η y η') 0 x7 η3 := by
  have hk : ¬ η 0 8 = 0 := hpp.2
  intro x1 e1 r1 c1 x2 η1 h2 x3 e3 r3 c2 x4 e4 r4 x5 e5 r5 x6 η2 h6 c3 x7 η3 h7
  have k2 : sQ wl_n zTr zOn_token zMn_token [] η x2 η1 ∧ pQn_token [] η x2 η1 := h2
  have k6 : sQ wl_n zTr zOn_find_g zMn_find_g [x4, x5] η1 x6 η2 ∧ pQn_find_g [x4, x5] η1 x6 η2 := h6
  have k7 : sQ wl_n zTr zOn_wrong zMn_wrong [3] η2 x7 η3 ∧ pQn_wrong [3] η2 x7 η3 := h7
  have w0_0_18 : (0 : Int) ≤ η 0 18 ∧ η 0 18 ≤ 4 := wf_ok (a := 18) (b := 18) (z := (0, 4)) hp.1 (by decide +kernel) (Nat.le_refl _) (Nat.le_refl _)
  replace e1 : x1 = η 0 18 := e1
  have w0_0_7 : (0 : Int) ≤ η 0 7 ∧ η 0 7 ≤ 700 := wf_ok (a := 7) (b := 7) (z := (0, 700)) hp.1 (by decide +kernel) (Nat.le_refl _) (Nat.le_refl _)
  have c0_0_7 : η 0 7 = η 0 7 := rfl
  have w0_0_6 : (0 : Int) ≤ η 0 6 ∧ η 0 6 ≤ 700 := wf_ok (a := 6) (b := 6) (z := (0, 700)) hp.1 (by decide +kernel) (Nat.le_refl _) (Nat.le_refl _)
  have c0_0_6 : η 0 6 = η 0 6 := rfl
  have w0_0_8 : (0 : Int) ≤ η 0 8 ∧ η 0 8 ≤ 6 := wf_ok (a := 8) (b := 8) (z := (0, 6)) hp.1 (by decide +kernel) (Nat.le_refl _) (Nat.le_refl _)
  have c0_0_8 : η 0 8 = η 0 8 := rfl
  have bx2 : (0 : Int) ≤ x2 ∧ x2 ≤ 0 := k2.1.2.1
  have w1_0_7 : (0 : Int) ≤ η1 0 7 ∧ η1 0 7 ≤ 700 := wf_ok (a := 7) (b := 7) (z := (0, 700)) k2.1.1 (by decide +kernel) (Nat.le_refl _) (Nat.le_refl _)
  have d1_0_7 : η1 0 7 = η1 0 7 := rfl
  have v5 : zEq (η1 0 6) (η 0 6) := (k2.1.2.2.2.1 0 6 (by decide +kernel)).trans rfl
  have d1_0_6 : η1 0 6 = η 0 6 := v5
  have w1_0_8 : (0 : Int) ≤ η1 0 8 ∧ η1 0 8 ≤ 6 := wf_ok (a := 8) (b := 8) (z := (0, 6)) k2.1.1 (by decide +kernel) (Nat.le_refl _) (Nat.le_refl _)
  have d1_0_8 : η1 0 8 = η1 0 8 := rfl
  replace e3 : x3 = η1 0 8 := e3
  have v7 : zEq (η1 0 18) (η 0 18) := (k2.1.2.2.2.1 0 18 (by decide +kernel)).trans rfl
  replace e4 : x4 = η 0 18 := e4.trans v7
  replace e5 : x5 = η1 0 9 := e5
  replace r5 : -2147483648 ≤ x5 ∧ x5 ≤ 2147483647 := r5
  have c1_0_7 : η1 0 7 = η1 0 7 := rfl
  have c1_0_6 : η1 0 6 = η 0 6 := v5
  have c1_0_8 : η1 0 8 = η1 0 8 := rfl
  have bx6 : ((-1) : Int) ≤ x6 ∧ x6 ≤ 3 := k6.1.2.1
  have v9 : zEq (η2 0 7) (η1 0 7) := (k6.1.2.2.2.1 0 7 (by decide +kernel)).trans rfl
  have d2_0_7 : η2 0 7 = η1 0 7 := v9
  have v10 : zEq (η2 0 6) (η 0 6) := (k6.1.2.2.2.1 0 6 (by decide +kernel)).trans v5
  have d2_0_6 : η2 0 6 = η 0 6 := v10
  have v11 : zEq (η2 0 8) (η1 0 8) := (k6.1.2.2.2.1 0 8 (by decide +kernel)).trans rfl
  have d2_0_8 : η2 0 8 = η1 0 8 := v11
  have c2_0_7 : η2 0 7 = η1 0 7 := v9
  have c2_0_6 : η2 0 6 = η 0 6 := v10
  have c2_0_8 : η2 0 8 = η1 0 8 := v11
  have bx7 : (0 : Int) ≤ x7 ∧ x7 ≤ 0 := k7.1.2.1
  have v12 : zEq (η3 0 7) (η1 0 7) := (k7.1.2.2.2.1 0 7 (by decide +kernel)).trans v9
  have d3_0_7 : η3 0 7 = η1 0 7 := v12
  have v13 : zEq (η3 0 6) (η 0 6) := (k7.1.2.2.2.1 0 6 (by decide +kernel)).trans v10
  have d3_0_6 : η3 0 6 = η 0 6 := v13
  have v14 : zEq (η3 0 8) (η1 0 8) := (k7.1.2.2.2.1 0 8 (by decide +kernel)).trans v11
  have d3_0_8 : η3 0 8 = η1 0 8 := v14
  have f0_7 : η3 0 7 = η1 0 7 := v12
  have f0_6 : η3 0 6 = η 0 6 := v13
  have f0_8 : η3 0 8 = η1 0 8 := v14
  have qt2 : ¬ η 0 8 = 0 → 10 * (η1 0 6 - η1 0 7) + η1 0 8 < 10 * (η 0 6 - η 0 7) + η 0 8 := k2.2.2
  exact ⟨k7.2, fun w => absurd (show (x7 : Int) = 0 by apply Int.le_antisymm <;> omega) w⟩
set_option maxHeartbeats 8000000 in
theorem zn_guestLine_o12 {ro : Nat → List Int32} (η : zE) (hp : sP wl_n zTr zPn_guestLine [] η) (hpp : pPn_guestLine [] η) : ∀ x1 : Int, x1 = η 0 (Int.toNat 18) → zok 0 x1 → (¬ x1 = 4) → ∀ (x2 : Int) (η1 : zE), ((gC2 wl_n [(nat_lit 0, zPn_wrong, zOn_wrong, zMn_wrong), (nat_lit 1, zPn_token, zOn_token, zMn_token), (nat_lit 2, zPn_number, zOn_number, zMn_number), (nat_lit 3, zPn_find_g, zOn_find_g, zMn_find_g)] pCn_guestLine qCn_guestLine) 1).2 [] η x2 η1 → ∀ x3 : Int, x3 = η1 0 (Int.toNat 8) → zok 0 x3 → (¬ x3 = 2) → ((gC2 wl_n [(nat_lit 0, zPn_wrong, zOn_wrong, zMn_wrong), (nat_lit 1, zPn_token, zOn_token, zMn_token), (nat_lit 2, zPn_number, zOn_number, zMn_number), (nat_lit 3, zPn_find_g, zOn_find_g, zMn_find_g)] pCn_guestLine qCn_guestLine) 0).1 [1] η1 := by
  have hk : ¬ η 0 8 = 0 := hpp.2
  intro x1 e1 r1 c1 x2 η1 h2 x3 e3 r3 c2
  have k2 : sQ wl_n zTr zOn_token zMn_token [] η x2 η1 ∧ pQn_token [] η x2 η1 := h2
  have w0_0_18 : (0 : Int) ≤ η 0 18 ∧ η 0 18 ≤ 4 := wf_ok (a := 18) (b := 18) (z := (0, 4)) hp.1 (by decide +kernel) (Nat.le_refl _) (Nat.le_refl _)
  replace e1 : x1 = η 0 18 := e1
  have w0_0_7 : (0 : Int) ≤ η 0 7 ∧ η 0 7 ≤ 700 := wf_ok (a := 7) (b := 7) (z := (0, 700)) hp.1 (by decide +kernel) (Nat.le_refl _) (Nat.le_refl _)
  have c0_0_7 : η 0 7 = η 0 7 := rfl
  have w0_0_6 : (0 : Int) ≤ η 0 6 ∧ η 0 6 ≤ 700 := wf_ok (a := 6) (b := 6) (z := (0, 700)) hp.1 (by decide +kernel) (Nat.le_refl _) (Nat.le_refl _)
  have c0_0_6 : η 0 6 = η 0 6 := rfl
  have w0_0_8 : (0 : Int) ≤ η 0 8 ∧ η 0 8 ≤ 6 := wf_ok (a := 8) (b := 8) (z := (0, 6)) hp.1 (by decide +kernel) (Nat.le_refl _) (Nat.le_refl _)
  have c0_0_8 : η 0 8 = η 0 8 := rfl
  have bx2 : (0 : Int) ≤ x2 ∧ x2 ≤ 0 := k2.1.2.1
  have w1_0_7 : (0 : Int) ≤ η1 0 7 ∧ η1 0 7 ≤ 700 := wf_ok (a := 7) (b := 7) (z := (0, 700)) k2.1.1 (by decide +kernel) (Nat.le_refl _) (Nat.le_refl _)
  have d1_0_7 : η1 0 7 = η1 0 7 := rfl
  have v5 : zEq (η1 0 6) (η 0 6) := (k2.1.2.2.2.1 0 6 (by decide +kernel)).trans rfl
  have d1_0_6 : η1 0 6 = η 0 6 := v5
  have w1_0_8 : (0 : Int) ≤ η1 0 8 ∧ η1 0 8 ≤ 6 := wf_ok (a := 8) (b := 8) (z := (0, 6)) k2.1.1 (by decide +kernel) (Nat.le_refl _) (Nat.le_refl _)
  have d1_0_8 : η1 0 8 = η1 0 8 := rfl
  replace e3 : x3 = η1 0 8 := e3
  have f0_7 : η1 0 7 = η1 0 7 := rfl
  have f0_6 : η1 0 6 = η 0 6 := v5
  have f0_8 : η1 0 8 = η1 0 8 := rfl
  have qt2 : ¬ η 0 8 = 0 → 10 * (η1 0 6 - η1 0 7) + η1 0 8 < 10 * (η 0 6 - η 0 7) + η 0 8 := k2.2.2
  exact k2.2.1
set_option maxHeartbeats 8000000 in
theorem zn_guestLine_o13 {ro : Nat → List Int32} (η : zE) (hp : sP wl_n zTr zPn_guestLine [] η) (hpp : pPn_guestLine [] η) : ∀ x1 : Int, x1 = η 0 (Int.toNat 18) → zok 0 x1 → (¬ x1 = 4) → ∀ (x2 : Int) (η1 : zE), ((gC2 wl_n [(nat_lit 0, zPn_wrong, zOn_wrong, zMn_wrong), (nat_lit 1, zPn_token, zOn_token, zMn_token), (nat_lit 2, zPn_number, zOn_number, zMn_number), (nat_lit 3, zPn_find_g, zOn_find_g, zMn_find_g)] pCn_guestLine qCn_guestLine) 1).2 [] η x2 η1 → ∀ x3 : Int, x3 = η1 0 (Int.toNat 8) → zok 0 x3 → (¬ x3 = 2) → ∀ (x4 : Int) (η2 : zE), ((gC2 wl_n [(nat_lit 0, zPn_wrong, zOn_wrong, zMn_wrong), (nat_lit 1, zPn_token, zOn_token, zMn_token), (nat_lit 2, zPn_number, zOn_number, zMn_number), (nat_lit 3, zPn_find_g, zOn_find_g, zMn_find_g)] pCn_guestLine qCn_guestLine) 0).2 [1] η1 x4 η2 → (fun (_ : Nat) (y : Int) (η' : zE) => pQn_guestLine [] η y η') 0 x4 η2 := by
  have hk : ¬ η 0 8 = 0 := hpp.2
  intro x1 e1 r1 c1 x2 η1 h2 x3 e3 r3 c2 x4 η2 h4
  have k2 : sQ wl_n zTr zOn_token zMn_token [] η x2 η1 ∧ pQn_token [] η x2 η1 := h2
  have k4 : sQ wl_n zTr zOn_wrong zMn_wrong [1] η1 x4 η2 ∧ pQn_wrong [1] η1 x4 η2 := h4
  have w0_0_18 : (0 : Int) ≤ η 0 18 ∧ η 0 18 ≤ 4 := wf_ok (a := 18) (b := 18) (z := (0, 4)) hp.1 (by decide +kernel) (Nat.le_refl _) (Nat.le_refl _)
  replace e1 : x1 = η 0 18 := e1
  have w0_0_7 : (0 : Int) ≤ η 0 7 ∧ η 0 7 ≤ 700 := wf_ok (a := 7) (b := 7) (z := (0, 700)) hp.1 (by decide +kernel) (Nat.le_refl _) (Nat.le_refl _)
  have c0_0_7 : η 0 7 = η 0 7 := rfl
  have w0_0_6 : (0 : Int) ≤ η 0 6 ∧ η 0 6 ≤ 700 := wf_ok (a := 6) (b := 6) (z := (0, 700)) hp.1 (by decide +kernel) (Nat.le_refl _) (Nat.le_refl _)
  have c0_0_6 : η 0 6 = η 0 6 := rfl
  have w0_0_8 : (0 : Int) ≤ η 0 8 ∧ η 0 8 ≤ 6 := wf_ok (a := 8) (b := 8) (z := (0, 6)) hp.1 (by decide +kernel) (Nat.le_refl _) (Nat.le_refl _)
  have c0_0_8 : η 0 8 = η 0 8 := rfl
  have bx2 : (0 : Int) ≤ x2 ∧ x2 ≤ 0 := k2.1.2.1
  have w1_0_7 : (0 : Int) ≤ η1 0 7 ∧ η1 0 7 ≤ 700 := wf_ok (a := 7) (b := 7) (z := (0, 700)) k2.1.1 (by decide +kernel) (Nat.le_refl _) (Nat.le_refl _)
  have d1_0_7 : η1 0 7 = η1 0 7 := rfl
  have v5 : zEq (η1 0 6) (η 0 6) := (k2.1.2.2.2.1 0 6 (by decide +kernel)).trans rfl
  have d1_0_6 : η1 0 6 = η 0 6 := v5
  have w1_0_8 : (0 : Int) ≤ η1 0 8 ∧ η1 0 8 ≤ 6 := wf_ok (a := 8) (b := 8) (z := (0, 6)) k2.1.1 (by decide +kernel) (Nat.le_refl _) (Nat.le_refl _)
  have d1_0_8 : η1 0 8 = η1 0 8 := rfl
  replace e3 : x3 = η1 0 8 := e3
  have c1_0_7 : η1 0 7 = η1 0 7 := rfl
  have c1_0_6 : η1 0 6 = η 0 6 := v5
  have c1_0_8 : η1 0 8 = η1 0 8 := rfl
  have bx4 : (0 : Int) ≤ x4 ∧ x4 ≤ 0 := k4.1.2.1
  have v7 : zEq (η2 0 7) (η1 0 7) := (k4.1.2.2.2.1 0 7 (by decide +kernel)).trans rfl
  have d2_0_7 : η2 0 7 = η1 0 7 := v7
  have v8 : zEq (η2 0 6) (η 0 6) := (k4.1.2.2.2.1 0 6 (by decide +kernel)).trans v5
  have d2_0_6 : η2 0 6 = η 0 6 := v8
  have v9 : zEq (η2 0 8) (η1 0 8) := (k4.1.2.2.2.1 0 8 (by decide +kernel)).trans rfl
  have d2_0_8 : η2 0 8 = η1 0 8 := v9
  have f0_7 : η2 0 7 = η1 0 7 := v7
  have f0_6 : η2 0 6 = η 0 6 := v8
  have f0_8 : η2 0 8 = η1 0 8 := v9
  have qt2 : ¬ η 0 8 = 0 → 10 * (η1 0 6 - η1 0 7) + η1 0 8 < 10 * (η 0 6 - η 0 7) + η 0 8 := k2.2.2
  exact ⟨k4.2, fun w => absurd (show (x4 : Int) = 0 by apply Int.le_antisymm <;> omega) w⟩
set_option maxHeartbeats 8000000 in
theorem zn_guestLine_o14 {ro : Nat → List Int32} (η : zE) (hp : sP wl_n zTr zPn_guestLine [] η) (hpp : pPn_guestLine [] η) : ∀ x1 : Int, x1 = η 0 (Int.toNat 18) → zok 0 x1 → (x1 = 4) → ((gC2 wl_n [(nat_lit 0, zPn_wrong, zOn_wrong, zMn_wrong), (nat_lit 1, zPn_token, zOn_token, zMn_token), (nat_lit 2, zPn_number, zOn_number, zMn_number), (nat_lit 3, zPn_find_g, zOn_find_g, zMn_find_g)] pCn_guestLine qCn_guestLine) 0).1 [2] η := by
  have hk : ¬ η 0 8 = 0 := hpp.2
  intro x1 e1 r1 c1
  have w0_0_18 : (0 : Int) ≤ η 0 18 ∧ η 0 18 ≤ 4 := wf_ok (a := 18) (b := 18) (z := (0, 4)) hp.1 (by decide +kernel) (Nat.le_refl _) (Nat.le_refl _)
  replace e1 : x1 = η 0 18 := e1
  have w0_0_7 : (0 : Int) ≤ η 0 7 ∧ η 0 7 ≤ 700 := wf_ok (a := 7) (b := 7) (z := (0, 700)) hp.1 (by decide +kernel) (Nat.le_refl _) (Nat.le_refl _)
  have f0_7 : η 0 7 = η 0 7 := rfl
  have w0_0_6 : (0 : Int) ≤ η 0 6 ∧ η 0 6 ≤ 700 := wf_ok (a := 6) (b := 6) (z := (0, 700)) hp.1 (by decide +kernel) (Nat.le_refl _) (Nat.le_refl _)
  have f0_6 : η 0 6 = η 0 6 := rfl
  have w0_0_8 : (0 : Int) ≤ η 0 8 ∧ η 0 8 ≤ 6 := wf_ok (a := 8) (b := 8) (z := (0, 6)) hp.1 (by decide +kernel) (Nat.le_refl _) (Nat.le_refl _)
  have f0_8 : η 0 8 = η 0 8 := rfl
  exact hpp.1
set_option maxHeartbeats 8000000 in
theorem zn_guestLine_o15 {ro : Nat → List Int32} (η : zE) (hp : sP wl_n zTr zPn_guestLine [] η) (hpp : pPn_guestLine [] η) : ∀ x1 : Int, x1 = η 0 (Int.toNat 18) → zok 0 x1 → (x1 = 4) → ∀ (x2 : Int) (η1 : zE), ((gC2 wl_n [(nat_lit 0, zPn_wrong, zOn_wrong, zMn_wrong), (nat_lit 1, zPn_token, zOn_token, zMn_token), (nat_lit 2, zPn_number, zOn_number, zMn_number), (nat_lit 3, zPn_find_g, zOn_find_g, zMn_find_g)] pCn_guestLine qCn_guestLine) 0).2 [2] η x2 η1 → (fun (_ : Nat) (y : Int) (η' : zE) => pQn_guestLine [] η y η') 0 x2 η1 := by
  have hk : ¬ η 0 8 = 0 := hpp.2
  intro x1 e1 r1 c1 x2 η1 h2
  have k2 : sQ wl_n zTr zOn_wrong zMn_wrong [2] η x2 η1 ∧ pQn_wrong [2] η x2 η1 := h2
  have w0_0_18 : (0 : Int) ≤ η 0 18 ∧ η 0 18 ≤ 4 := wf_ok (a := 18) (b := 18) (z := (0, 4)) hp.1 (by decide +kernel) (Nat.le_refl _) (Nat.le_refl _)
  replace e1 : x1 = η 0 18 := e1
  have w0_0_7 : (0 : Int) ≤ η 0 7 ∧ η 0 7 ≤ 700 := wf_ok (a := 7) (b := 7) (z := (0, 700)) hp.1 (by decide +kernel) (Nat.le_refl _) (Nat.le_refl _)
  have c0_0_7 : η 0 7 = η 0 7 := rfl
  have w0_0_6 : (0 : Int) ≤ η 0 6 ∧ η 0 6 ≤ 700 := wf_ok (a := 6) (b := 6) (z := (0, 700)) hp.1 (by decide +kernel) (Nat.le_refl _) (Nat.le_refl _)
  have c0_0_6 : η 0 6 = η 0 6 := rfl
  have w0_0_8 : (0 : Int) ≤ η 0 8 ∧ η 0 8 ≤ 6 := wf_ok (a := 8) (b := 8) (z := (0, 6)) hp.1 (by decide +kernel) (Nat.le_refl _) (Nat.le_refl _)
  have c0_0_8 : η 0 8 = η 0 8 := rfl
  have bx2 : (0 : Int) ≤ x2 ∧ x2 ≤ 0 := k2.1.2.1
  have v4 : zEq (η1 0 7) (η 0 7) := (k2.1.2.2.2.1 0 7 (by decide +kernel)).trans rfl
  have d1_0_7 : η1 0 7 = η 0 7 := v4
  have v5 : zEq (η1 0 6) (η 0 6) := (k2.1.2.2.2.1 0 6 (by decide +kernel)).trans rfl
  have d1_0_6 : η1 0 6 = η 0 6 := v5
  have v6 : zEq (η1 0 8) (η 0 8) := (k2.1.2.2.2.1 0 8 (by decide +kernel)).trans rfl
  have d1_0_8 : η1 0 8 = η 0 8 := v6
  have f0_7 : η1 0 7 = η 0 7 := v4
  have f0_6 : η1 0 6 = η 0 6 := v5
  have f0_8 : η1 0 8 = η 0 8 := v6
  exact ⟨k2.2, fun w => absurd (show (x2 : Int) = 0 by apply Int.le_antisymm <;> omega) w⟩
set_option maxHeartbeats 8000000 in
theorem zn_guestLine {ro : Nat → List Int32} : zMet pr_P pr_K pr_df ro (sm_X0 1 6) 3 134 tm_n [(.inr (.inr (.inl (nat_lit 0))))] 2 [(nat_lit 0, nat_lit 0, nat_lit 1), (nat_lit 0, nat_lit 3, nat_lit 2), (nat_lit 0, nat_lit 20, nat_lit 3), (nat_lit 0, nat_lit 21, nat_lit 4), (nat_lit 0, nat_lit 22, nat_lit 5), (nat_lit 0, nat_lit 23, nat_lit 6), (nat_lit 0, nat_lit 24, nat_lit 7), (nat_lit 0, nat_lit 25, nat_lit 8), (nat_lit 0, nat_lit 26, nat_lit 9), (nat_lit 0, nat_lit 27, nat_lit 10), (nat_lit 0, nat_lit 28, nat_lit 11), (nat_lit 0, nat_lit 29, nat_lit 12), (nat_lit 0, nat_lit 30, nat_lit 13), (nat_lit 0, nat_lit 31, nat_lit 14), (nat_lit 0, nat_lit 32, nat_lit 15), (nat_lit 0, nat_lit 33, nat_lit 16), (nat_lit 0, nat_lit 34, nat_lit 17), (nat_lit 0, nat_lit 35, nat_lit 18), (nat_lit 0, nat_lit 36, nat_lit 19), (nat_lit 0, nat_lit 37, nat_lit 20), (nat_lit 0, nat_lit 38, nat_lit 21), (nat_lit 0, nat_lit 39, nat_lit 22), (nat_lit 0, nat_lit 40, nat_lit 23), (nat_lit 0, nat_lit 47, nat_lit 24), (nat_lit 0, nat_lit 48, nat_lit 25), (nat_lit 0, nat_lit 50, nat_lit 26), (nat_lit 0, nat_lit 51, nat_lit 27), (nat_lit 0, nat_lit 52, nat_lit 28), (nat_lit 0, nat_lit 53, nat_lit 29), (nat_lit 0, nat_lit 54, nat_lit 30), (nat_lit 0, nat_lit 55, nat_lit 31), (nat_lit 0, nat_lit 56, nat_lit 32), (nat_lit 0, nat_lit 57, nat_lit 33), (nat_lit 0, nat_lit 58, nat_lit 34), (nat_lit 0, nat_lit 59, nat_lit 35), (nat_lit 0, nat_lit 72, nat_lit 36), (nat_lit 0, nat_lit 73, nat_lit 37), (nat_lit 0, nat_lit 76, nat_lit 38), (nat_lit 0, nat_lit 77, nat_lit 39), (nat_lit 0, nat_lit 79, nat_lit 40), (nat_lit 0, nat_lit 81, nat_lit 41), (nat_lit 0, nat_lit 82, nat_lit 42)] [] (fun xs η => sP wl_n zTr zPn_guestLine xs η ∧ pPn_guestLine xs η) (fun xs η y η' => sQ wl_n zTr zOn_guestLine zMn_guestLine xs η y η' ∧ pQn_guestLine xs η y η') :=
  zmet_alt (zmea_gen (mi := (nat_lit 0, nat_lit 1, nat_lit 8, nat_lit 2, nat_lit 2, tX8_guestLine)) (cd := [(nat_lit 118, nat_lit 0, nat_lit 0, [(.inr (.inr (.inl (nat_lit 0)))), (.inl (nat_lit 1, (.ofNat (nat_lit 0))))], nat_lit 2, [(nat_lit 0, nat_lit 0, nat_lit 1), (nat_lit 0, nat_lit 3, nat_lit 2), (nat_lit 0, nat_lit 20, nat_lit 3), (nat_lit 0, nat_lit 21, nat_lit 4), (nat_lit 0, nat_lit 22, nat_lit 5), (nat_lit 0, nat_lit 23, nat_lit 6), (nat_lit 0, nat_lit 24, nat_lit 7), (nat_lit 0, nat_lit 25, nat_lit 8), (nat_lit 0, nat_lit 26, nat_lit 9), (nat_lit 0, nat_lit 27, nat_lit 10), (nat_lit 0, nat_lit 28, nat_lit 11), (nat_lit 0, nat_lit 29, nat_lit 12), (nat_lit 0, nat_lit 30, nat_lit 13), (nat_lit 0, nat_lit 31, nat_lit 14), (nat_lit 0, nat_lit 32, nat_lit 15), (nat_lit 0, nat_lit 33, nat_lit 16), (nat_lit 0, nat_lit 34, nat_lit 17), (nat_lit 0, nat_lit 35, nat_lit 18), (nat_lit 0, nat_lit 36, nat_lit 19), (nat_lit 0, nat_lit 37, nat_lit 20), (nat_lit 0, nat_lit 38, nat_lit 21), (nat_lit 0, nat_lit 39, nat_lit 22), (nat_lit 0, nat_lit 40, nat_lit 23), (nat_lit 0, nat_lit 47, nat_lit 24), (nat_lit 0, nat_lit 48, nat_lit 25), (nat_lit 0, nat_lit 50, nat_lit 26), (nat_lit 0, nat_lit 51, nat_lit 27), (nat_lit 0, nat_lit 52, nat_lit 28), (nat_lit 0, nat_lit 53, nat_lit 29), (nat_lit 0, nat_lit 54, nat_lit 30), (nat_lit 0, nat_lit 55, nat_lit 31), (nat_lit 0, nat_lit 56, nat_lit 32), (nat_lit 0, nat_lit 57, nat_lit 33), (nat_lit 0, nat_lit 58, nat_lit 34), (nat_lit 0, nat_lit 59, nat_lit 35), (nat_lit 0, nat_lit 72, nat_lit 36), (nat_lit 0, nat_lit 73, nat_lit 37), (nat_lit 0, nat_lit 76, nat_lit 38), (nat_lit 0, nat_lit 77, nat_lit 39), (nat_lit 0, nat_lit 79, nat_lit 40), (nat_lit 0, nat_lit 81, nat_lit 41), (nat_lit 0, nat_lit 82, nat_lit 42)], []), (nat_lit 122, nat_lit 1, nat_lit 1, [(.inr (.inr (.inl (nat_lit 0))))], nat_lit 0, [(nat_lit 0, nat_lit 0, nat_lit 1), (nat_lit 0, nat_lit 3, nat_lit 2), (nat_lit 0, nat_lit 20, nat_lit 3), (nat_lit 0, nat_lit 21, nat_lit 4), (nat_lit 0, nat_lit 22, nat_lit 5), (nat_lit 0, nat_lit 23, nat_lit 6), (nat_lit 0, nat_lit 24, nat_lit 7), (nat_lit 0, nat_lit 25, nat_lit 8), (nat_lit 0, nat_lit 26, nat_lit 9), (nat_lit 0, nat_lit 27, nat_lit 10), (nat_lit 0, nat_lit 28, nat_lit 11), (nat_lit 0, nat_lit 29, nat_lit 12), (nat_lit 0, nat_lit 30, nat_lit 13), (nat_lit 0, nat_lit 31, nat_lit 14), (nat_lit 0, nat_lit 32, nat_lit 15), (nat_lit 0, nat_lit 33, nat_lit 16), (nat_lit 0, nat_lit 34, nat_lit 17), (nat_lit 0, nat_lit 35, nat_lit 18), (nat_lit 0, nat_lit 36, nat_lit 19), (nat_lit 0, nat_lit 37, nat_lit 20), (nat_lit 0, nat_lit 38, nat_lit 21), (nat_lit 0, nat_lit 39, nat_lit 22), (nat_lit 0, nat_lit 40, nat_lit 23), (nat_lit 0, nat_lit 47, nat_lit 24), (nat_lit 0, nat_lit 48, nat_lit 25), (nat_lit 0, nat_lit 50, nat_lit 26), (nat_lit 0, nat_lit 51, nat_lit 27), (nat_lit 0, nat_lit 52, nat_lit 28), (nat_lit 0, nat_lit 53, nat_lit 29), (nat_lit 0, nat_lit 54, nat_lit 30), (nat_lit 0, nat_lit 55, nat_lit 31), (nat_lit 0, nat_lit 56, nat_lit 32), (nat_lit 0, nat_lit 57, nat_lit 33), (nat_lit 0, nat_lit 58, nat_lit 34), (nat_lit 0, nat_lit 59, nat_lit 35), (nat_lit 0, nat_lit 72, nat_lit 36), (nat_lit 0, nat_lit 73, nat_lit 37), (nat_lit 0, nat_lit 76, nat_lit 38), (nat_lit 0, nat_lit 77, nat_lit 39), (nat_lit 0, nat_lit 79, nat_lit 40), (nat_lit 0, nat_lit 81, nat_lit 41), (nat_lit 0, nat_lit 82, nat_lit 42)], []), (nat_lit 127, nat_lit 2, nat_lit 2, [(.inr (.inr (.inl (nat_lit 0)))), (.inl (nat_lit 1, (.ofNat (nat_lit 0)))), (.inl (nat_lit 2, (.ofNat (nat_lit 0))))], nat_lit 2, [(nat_lit 0, nat_lit 0, nat_lit 1), (nat_lit 0, nat_lit 3, nat_lit 2), (nat_lit 0, nat_lit 20, nat_lit 3), (nat_lit 0, nat_lit 21, nat_lit 4), (nat_lit 0, nat_lit 22, nat_lit 5), (nat_lit 0, nat_lit 23, nat_lit 6), (nat_lit 0, nat_lit 24, nat_lit 7), (nat_lit 0, nat_lit 25, nat_lit 8), (nat_lit 0, nat_lit 26, nat_lit 9), (nat_lit 0, nat_lit 27, nat_lit 10), (nat_lit 0, nat_lit 28, nat_lit 11), (nat_lit 0, nat_lit 29, nat_lit 12), (nat_lit 0, nat_lit 30, nat_lit 13), (nat_lit 0, nat_lit 31, nat_lit 14), (nat_lit 0, nat_lit 32, nat_lit 15), (nat_lit 0, nat_lit 33, nat_lit 16), (nat_lit 0, nat_lit 34, nat_lit 17), (nat_lit 0, nat_lit 35, nat_lit 18), (nat_lit 0, nat_lit 36, nat_lit 19), (nat_lit 0, nat_lit 37, nat_lit 20), (nat_lit 0, nat_lit 38, nat_lit 21), (nat_lit 0, nat_lit 39, nat_lit 22), (nat_lit 0, nat_lit 40, nat_lit 23), (nat_lit 0, nat_lit 47, nat_lit 24), (nat_lit 0, nat_lit 48, nat_lit 25), (nat_lit 0, nat_lit 50, nat_lit 26), (nat_lit 0, nat_lit 51, nat_lit 27), (nat_lit 0, nat_lit 52, nat_lit 28), (nat_lit 0, nat_lit 53, nat_lit 29), (nat_lit 0, nat_lit 54, nat_lit 30), (nat_lit 0, nat_lit 55, nat_lit 31), (nat_lit 0, nat_lit 56, nat_lit 32), (nat_lit 0, nat_lit 57, nat_lit 33), (nat_lit 0, nat_lit 58, nat_lit 34), (nat_lit 0, nat_lit 59, nat_lit 35), (nat_lit 0, nat_lit 72, nat_lit 36), (nat_lit 0, nat_lit 73, nat_lit 37), (nat_lit 0, nat_lit 76, nat_lit 38), (nat_lit 0, nat_lit 77, nat_lit 39), (nat_lit 0, nat_lit 79, nat_lit 40), (nat_lit 0, nat_lit 81, nat_lit 41), (nat_lit 0, nat_lit 82, nat_lit 42)], []), (nat_lit 131, nat_lit 3, nat_lit 0, [(.inr (.inr (.inl (nat_lit 12)))), (.inl (nat_lit 0, (.ofNat (nat_lit 4)))), (.inl (nat_lit 1, (.ofNat (nat_lit 0)))), (.inl (nat_lit 2, (.ofNat (nat_lit 0))))], nat_lit 1, [], [])]) (cu := []) (cs := [(nat_lit 0, zPn_wrong, zOn_wrong, zMn_wrong), (nat_lit 1, zPn_token, zOn_token, zMn_token), (nat_lit 2, zPn_number, zOn_number, zMn_number), (nat_lit 3, zPn_find_g, zOn_find_g, zMn_find_g)]) (iv := zVn_guestLine) (po := [zOn_guestLine]) (pr := zPn_guestLine) (mods := zMn_guestLine) (D7 := zDn_guestLine) (D0 := zEn_guestLine) (Dm := zFn_guestLine) (f0 := 77) pCn_guestLine qCn_guestLine iCn_guestLine pPn_guestLine (fun xs η _ y η' => pQn_guestLine xs η y η') zX_low pr_mtR rfl (List.forall_mem_cons.mpr ⟨zn_wrong, List.forall_mem_cons.mpr ⟨zn_token, List.forall_mem_cons.mpr ⟨zn_number, List.forall_mem_cons.mpr ⟨zn_find_g, fun _ h => nomatch h⟩⟩⟩⟩) (by decide +kernel) (by decide +kernel) (by decide +kernel)
    (by
      intro xs η hr hl hp hpp
      match xs, hl, hp, hpp with
      | [], _, hp, hpp =>
        refine List.forall_mem_cons.mpr ⟨?_, List.forall_mem_cons.mpr ⟨?_, List.forall_mem_cons.mpr ⟨?_, List.forall_mem_cons.mpr ⟨?_, List.forall_mem_cons.mpr ⟨?_, List.forall_mem_cons.mpr ⟨?_, List.forall_mem_cons.mpr ⟨?_, List.forall_mem_cons.mpr ⟨?_, List.forall_mem_cons.mpr ⟨?_, List.forall_mem_cons.mpr ⟨?_, List.forall_mem_cons.mpr ⟨?_, List.forall_mem_cons.mpr ⟨?_, List.forall_mem_cons.mpr ⟨?_, List.forall_mem_cons.mpr ⟨?_, List.forall_mem_cons.mpr ⟨?_, List.forall_mem_cons.mpr ⟨?_, fun _ h => nomatch h⟩⟩⟩⟩⟩⟩⟩⟩⟩⟩⟩⟩⟩⟩⟩⟩
        · refine zden_L (n := 1) (ρ := [0]) rfl ?_
          exact zn_guestLine_o0 (ro := ro)  η hp hpp
        · refine zden_L (n := 1) (ρ := [0]) rfl ?_
          exact zn_guestLine_o1 (ro := ro)  η hp hpp
        · refine zden_L (n := 1) (ρ := [0]) rfl ?_
          exact zn_guestLine_o2 (ro := ro)  η hp hpp
        · refine zden_L (n := 1) (ρ := [0]) rfl ?_
          exact zn_guestLine_o3 (ro := ro)  η hp hpp
        · refine zden_L (n := 1) (ρ := [0]) rfl ?_
          exact zn_guestLine_o4 (ro := ro)  η hp hpp
        · refine zden_L (n := 1) (ρ := [0]) rfl ?_
          exact zn_guestLine_o5 (ro := ro)  η hp hpp
        · refine zden_L (n := 1) (ρ := [0]) rfl ?_
          exact zn_guestLine_o6 (ro := ro)  η hp hpp
        · refine zden_L (n := 1) (ρ := [0]) rfl ?_
          exact zn_guestLine_o7 (ro := ro)  η hp hpp
        · refine zden_L (n := 1) (ρ := [0]) rfl ?_
          exact zn_guestLine_o8 (ro := ro)  η hp hpp
        · refine zden_L (n := 1) (ρ := [0]) rfl ?_
          exact zn_guestLine_o9 (ro := ro)  η hp hpp
        · refine zden_L (n := 1) (ρ := [0]) rfl ?_
          exact zn_guestLine_o10 (ro := ro)  η hp hpp
        · refine zden_L (n := 1) (ρ := [0]) rfl ?_
          exact zn_guestLine_o11 (ro := ro)  η hp hpp
        · refine zden_L (n := 1) (ρ := [0]) rfl ?_
          exact zn_guestLine_o12 (ro := ro)  η hp hpp
        · refine zden_L (n := 1) (ρ := [0]) rfl ?_
          exact zn_guestLine_o13 (ro := ro)  η hp hpp
        · refine zden_L (n := 1) (ρ := [0]) rfl ?_
          exact zn_guestLine_o14 (ro := ro)  η hp hpp
        · refine zden_L (n := 1) (ρ := [0]) rfl ?_
          exact zn_guestLine_o15 (ro := ro)  η hp hpp
      )
    (fun _ _ _ _ _ _ _ h => nomatch h)
    (fun _ h => nomatch h))
def zPn_onceLine0 : zPq := ([], [])
def zOn_onceLine0 : zPo := (((.ofNat (nat_lit 0)), (.ofNat (nat_lit 1))), [], [])
def zMn_onceLine0 : List zCe := [(nat_lit 0, nat_lit 8), (nat_lit 0, nat_lit 9), (nat_lit 0, nat_lit 10), (nat_lit 0, nat_lit 11), (nat_lit 0, nat_lit 5), (nat_lit 0, nat_lit 6), (nat_lit 0, nat_lit 12), (nat_lit 4, nat_lit 0), (nat_lit 3, nat_lit 0)]
def pPn_onceLine0 : List Int → zE → Prop := fun _ η => G_n η ∧ ¬ η 0 8 = 0
def pQn_onceLine0 : List Int → zE → Int → zE → Prop := fun _ η y η' => G_n η' ∧ (¬ y = 0 → 10 * (η' 0 6 - η' 0 7) + η' 0 8 < 10 * (η 0 6 - η 0 7) + η 0 8)
def pCn_onceLine0 : Nat → List Int → zE → Prop := fun c => match c with
  | 0 => pPn_wrong
  | 1 => pPn_token
  | 2 => pPn_number
  | _ => fun _ _ => True
def qCn_onceLine0 : Nat → List Int → zE → Int → zE → Prop := fun c => match c with
  | 0 => pQn_wrong
  | 1 => pQn_token
  | 2 => pQn_number
  | _ => fun _ _ _ _ => True
def iCn_onceLine0 : List Int → zE → Nat → List Int → zE → Prop := fun xs η0 c => match c with
  | _ => fun _ _ => True
def zVn_onceLine0 : List zIv := []
def zDn_onceLine0 : List (List zK) := [[(nat_lit 7, nat_lit 0, [(nat_lit 0, (.ofNat (nat_lit 0))), (nat_lit 0, (.ofNat (nat_lit 3)))])],
  [(nat_lit 7, nat_lit 0, [(nat_lit 0, (.ofNat (nat_lit 0))), (nat_lit 0, (.ofNat (nat_lit 3)))]), (nat_lit 6, nat_lit 0, [(nat_lit 1, (.ofNat (nat_lit 0))), (nat_lit 0, (.ofNat (nat_lit 0)))]), (nat_lit 4, nat_lit 1, [(nat_lit 3, (.ofNat (nat_lit 0))), (nat_lit 0, (.ofNat (nat_lit 0)))])],
  [(nat_lit 7, nat_lit 2, [(nat_lit 0, (.ofNat (nat_lit 1)))]), (nat_lit 6, nat_lit 0, [(nat_lit 1, (.ofNat (nat_lit 0))), (nat_lit 0, (.ofNat (nat_lit 0)))]), (nat_lit 4, nat_lit 1, [(nat_lit 3, (.ofNat (nat_lit 0))), (nat_lit 0, (.ofNat (nat_lit 0)))])],
  [(nat_lit 7, nat_lit 0, [(nat_lit 4, (.ofNat (nat_lit 0))), (nat_lit 0, (.ofNat (nat_lit 8)))]), (nat_lit 4, nat_lit 0, [(nat_lit 0, (.ofNat (nat_lit 0))), (nat_lit 0, (.ofNat (nat_lit 11)))]), (nat_lit 0, nat_lit 1, [(nat_lit 0, (.ofNat (nat_lit 4))), (nat_lit 0, (.ofNat (nat_lit 0)))]), (nat_lit 6, nat_lit 1, [(nat_lit 3, (.ofNat (nat_lit 0))), (nat_lit 0, (.ofNat (nat_lit 0)))]), (nat_lit 8, nat_lit 2, [(nat_lit 0, (.ofNat (nat_lit 0))), (nat_lit 0, (.ofNat (nat_lit 9)))]), (nat_lit 8, nat_lit 1, []), (nat_lit 5, nat_lit 1, [(nat_lit 3, (.ofNat (nat_lit 0))), (nat_lit 0, (.ofNat (nat_lit 0))), (nat_lit 0, (.ofNat (nat_lit 1)))]), (nat_lit 6, nat_lit 0, [(nat_lit 1, (.ofNat (nat_lit 0))), (nat_lit 0, (.ofNat (nat_lit 0)))]), (nat_lit 4, nat_lit 1, [(nat_lit 3, (.ofNat (nat_lit 0))), (nat_lit 0, (.ofNat (nat_lit 0)))])],
  [(nat_lit 7, nat_lit 3, []), (nat_lit 6, nat_lit 0, [(nat_lit 0, (.ofNat (nat_lit 0))), (nat_lit 0, (.ofNat (nat_lit 1)))]), (nat_lit 5, nat_lit 0, [(nat_lit 4, (.ofNat (nat_lit 0))), (nat_lit 4, (.ofNat (nat_lit 0))), (nat_lit 5, (.ofNat (nat_lit 0)))]), (nat_lit 4, nat_lit 0, [(nat_lit 0, (.ofNat (nat_lit 0))), (nat_lit 0, (.ofNat (nat_lit 11)))]), (nat_lit 0, nat_lit 1, [(nat_lit 0, (.ofNat (nat_lit 4))), (nat_lit 0, (.ofNat (nat_lit 0)))]), (nat_lit 6, nat_lit 1, [(nat_lit 3, (.ofNat (nat_lit 0))), (nat_lit 0, (.ofNat (nat_lit 0)))]), (nat_lit 8, nat_lit 2, [(nat_lit 0, (.ofNat (nat_lit 0))), (nat_lit 0, (.ofNat (nat_lit 9)))]), (nat_lit 8, nat_lit 1, []), (nat_lit 5, nat_lit 1, [(nat_lit 3, (.ofNat (nat_lit 0))), (nat_lit 0, (.ofNat (nat_lit 0))), (nat_lit 0, (.ofNat (nat_lit 1)))]), (nat_lit 6, nat_lit 0, [(nat_lit 1, (.ofNat (nat_lit 0))), (nat_lit 0, (.ofNat (nat_lit 0)))]), (nat_lit 4, nat_lit 1, [(nat_lit 3, (.ofNat (nat_lit 0))), (nat_lit 0, (.ofNat (nat_lit 0)))])],
  [(nat_lit 7, nat_lit 2, [(nat_lit 0, (.ofNat (nat_lit 1)))]), (nat_lit 6, nat_lit 1, [(nat_lit 0, (.ofNat (nat_lit 0))), (nat_lit 0, (.ofNat (nat_lit 1)))]), (nat_lit 5, nat_lit 0, [(nat_lit 4, (.ofNat (nat_lit 0))), (nat_lit 4, (.ofNat (nat_lit 0))), (nat_lit 5, (.ofNat (nat_lit 0)))]), (nat_lit 4, nat_lit 0, [(nat_lit 0, (.ofNat (nat_lit 0))), (nat_lit 0, (.ofNat (nat_lit 11)))]), (nat_lit 0, nat_lit 1, [(nat_lit 0, (.ofNat (nat_lit 4))), (nat_lit 0, (.ofNat (nat_lit 0)))]), (nat_lit 6, nat_lit 1, [(nat_lit 3, (.ofNat (nat_lit 0))), (nat_lit 0, (.ofNat (nat_lit 0)))]), (nat_lit 8, nat_lit 2, [(nat_lit 0, (.ofNat (nat_lit 0))), (nat_lit 0, (.ofNat (nat_lit 9)))]), (nat_lit 8, nat_lit 1, []), (nat_lit 5, nat_lit 1, [(nat_lit 3, (.ofNat (nat_lit 0))), (nat_lit 0, (.ofNat (nat_lit 0))), (nat_lit 0, (.ofNat (nat_lit 1)))]), (nat_lit 6, nat_lit 0, [(nat_lit 1, (.ofNat (nat_lit 0))), (nat_lit 0, (.ofNat (nat_lit 0)))]), (nat_lit 4, nat_lit 1, [(nat_lit 3, (.ofNat (nat_lit 0))), (nat_lit 0, (.ofNat (nat_lit 0)))])],
  [(nat_lit 7, nat_lit 2, [(nat_lit 0, (.ofNat (nat_lit 0)))]), (nat_lit 6, nat_lit 0, [(nat_lit 3, (.ofNat (nat_lit 0))), (nat_lit 0, (.ofNat (nat_lit 0)))]), (nat_lit 8, nat_lit 2, [(nat_lit 0, (.ofNat (nat_lit 0))), (nat_lit 0, (.ofNat (nat_lit 9)))]), (nat_lit 8, nat_lit 1, []), (nat_lit 5, nat_lit 1, [(nat_lit 3, (.ofNat (nat_lit 0))), (nat_lit 0, (.ofNat (nat_lit 0))), (nat_lit 0, (.ofNat (nat_lit 1)))]), (nat_lit 6, nat_lit 0, [(nat_lit 1, (.ofNat (nat_lit 0))), (nat_lit 0, (.ofNat (nat_lit 0)))]), (nat_lit 4, nat_lit 1, [(nat_lit 3, (.ofNat (nat_lit 0))), (nat_lit 0, (.ofNat (nat_lit 0)))])],
  [(nat_lit 7, nat_lit 2, [(nat_lit 2, (.ofNat (nat_lit 0)))]), (nat_lit 8, nat_lit 0, [(nat_lit 0, (.ofNat (nat_lit 3)))]), (nat_lit 6, nat_lit 1, [(nat_lit 1, (.ofNat (nat_lit 0))), (nat_lit 0, (.ofNat (nat_lit 0)))]), (nat_lit 4, nat_lit 1, [(nat_lit 3, (.ofNat (nat_lit 0))), (nat_lit 0, (.ofNat (nat_lit 0)))])]]
def zEn_onceLine0 : List (List zK) := [[(nat_lit 13, nat_lit 1, []), (nat_lit 5, nat_lit 1, [(nat_lit 3, (.ofNat (nat_lit 0))), (nat_lit 0, (.ofNat (nat_lit 0))), (nat_lit 0, (.ofNat (nat_lit 1)))]), (nat_lit 6, nat_lit 0, [(nat_lit 1, (.ofNat (nat_lit 0))), (nat_lit 0, (.ofNat (nat_lit 0)))]), (nat_lit 4, nat_lit 1, [(nat_lit 3, (.ofNat (nat_lit 0))), (nat_lit 0, (.ofNat (nat_lit 0)))])],
  [(nat_lit 13, nat_lit 2, [(nat_lit 0, (.ofNat (nat_lit 0))), (nat_lit 0, (.ofNat (nat_lit 9)))]), (nat_lit 8, nat_lit 1, []), (nat_lit 5, nat_lit 1, [(nat_lit 3, (.ofNat (nat_lit 0))), (nat_lit 0, (.ofNat (nat_lit 0))), (nat_lit 0, (.ofNat (nat_lit 1)))]), (nat_lit 6, nat_lit 0, [(nat_lit 1, (.ofNat (nat_lit 0))), (nat_lit 0, (.ofNat (nat_lit 0)))]), (nat_lit 4, nat_lit 1, [(nat_lit 3, (.ofNat (nat_lit 0))), (nat_lit 0, (.ofNat (nat_lit 0)))])],
  [(nat_lit 11, nat_lit 0, [(nat_lit 0, (.ofNat (nat_lit 1)))]), (nat_lit 6, nat_lit 1, [(nat_lit 0, (.ofNat (nat_lit 0))), (nat_lit 0, (.ofNat (nat_lit 1)))]), (nat_lit 5, nat_lit 0, [(nat_lit 4, (.ofNat (nat_lit 0))), (nat_lit 4, (.ofNat (nat_lit 0))), (nat_lit 5, (.ofNat (nat_lit 0)))]), (nat_lit 4, nat_lit 0, [(nat_lit 0, (.ofNat (nat_lit 0))), (nat_lit 0, (.ofNat (nat_lit 11)))]), (nat_lit 0, nat_lit 1, [(nat_lit 0, (.ofNat (nat_lit 4))), (nat_lit 0, (.ofNat (nat_lit 0)))]), (nat_lit 6, nat_lit 1, [(nat_lit 3, (.ofNat (nat_lit 0))), (nat_lit 0, (.ofNat (nat_lit 0)))]), (nat_lit 8, nat_lit 2, [(nat_lit 0, (.ofNat (nat_lit 0))), (nat_lit 0, (.ofNat (nat_lit 9)))]), (nat_lit 8, nat_lit 1, []), (nat_lit 5, nat_lit 1, [(nat_lit 3, (.ofNat (nat_lit 0))), (nat_lit 0, (.ofNat (nat_lit 0))), (nat_lit 0, (.ofNat (nat_lit 1)))]), (nat_lit 6, nat_lit 0, [(nat_lit 1, (.ofNat (nat_lit 0))), (nat_lit 0, (.ofNat (nat_lit 0)))]), (nat_lit 4, nat_lit 1, [(nat_lit 3, (.ofNat (nat_lit 0))), (nat_lit 0, (.ofNat (nat_lit 0)))])],
  [(nat_lit 11, nat_lit 0, [(nat_lit 0, (.ofNat (nat_lit 0)))]), (nat_lit 6, nat_lit 0, [(nat_lit 3, (.ofNat (nat_lit 0))), (nat_lit 0, (.ofNat (nat_lit 0)))]), (nat_lit 8, nat_lit 2, [(nat_lit 0, (.ofNat (nat_lit 0))), (nat_lit 0, (.ofNat (nat_lit 9)))]), (nat_lit 8, nat_lit 1, []), (nat_lit 5, nat_lit 1, [(nat_lit 3, (.ofNat (nat_lit 0))), (nat_lit 0, (.ofNat (nat_lit 0))), (nat_lit 0, (.ofNat (nat_lit 1)))]), (nat_lit 6, nat_lit 0, [(nat_lit 1, (.ofNat (nat_lit 0))), (nat_lit 0, (.ofNat (nat_lit 0)))]), (nat_lit 4, nat_lit 1, [(nat_lit 3, (.ofNat (nat_lit 0))), (nat_lit 0, (.ofNat (nat_lit 0)))])],
  [(nat_lit 13, nat_lit 0, [(nat_lit 0, (.ofNat (nat_lit 3)))]), (nat_lit 6, nat_lit 1, [(nat_lit 1, (.ofNat (nat_lit 0))), (nat_lit 0, (.ofNat (nat_lit 0)))]), (nat_lit 4, nat_lit 1, [(nat_lit 3, (.ofNat (nat_lit 0))), (nat_lit 0, (.ofNat (nat_lit 0)))])],
  [(nat_lit 11, nat_lit 0, [(nat_lit 2, (.ofNat (nat_lit 0)))]), (nat_lit 8, nat_lit 0, [(nat_lit 0, (.ofNat (nat_lit 3)))]), (nat_lit 6, nat_lit 1, [(nat_lit 1, (.ofNat (nat_lit 0))), (nat_lit 0, (.ofNat (nat_lit 0)))]), (nat_lit 4, nat_lit 1, [(nat_lit 3, (.ofNat (nat_lit 0))), (nat_lit 0, (.ofNat (nat_lit 0)))])]]
def zFn_onceLine0 : List (List zK) := []
set_option maxHeartbeats 8000000 in
theorem zn_onceLine0_o0 {ro : Nat → List Int32} (η : zE) (hp : sP wl_n zTr zPn_onceLine0 [] η) (hpp : pPn_onceLine0 [] η) : ∀ x1 : Int, x1 = η 3 (Int.toNat 0) → zok 1 x1 → (x1 = 0) → ∀ η1 : zE, η1 = zup η 3 (Int.toNat 0) 1 → ((gC2 wl_n [(nat_lit 0, zPn_wrong, zOn_wrong, zMn_wrong), (nat_lit 1, zPn_token, zOn_token, zMn_token), (nat_lit 2, zPn_number, zOn_number, zMn_number)] pCn_onceLine0 qCn_onceLine0) 1).1 [] η1 := by
  have hk : ¬ η 0 8 = 0 := hpp.2
  intro x1 e1 r1 c1 η1 eη1
  replace e1 : x1 = η 3 0 := e1
  replace r1 : 0 ≤ x1 ∧ x1 ≤ 1 := r1
  have w0_0_7 : (0 : Int) ≤ η 0 7 ∧ η 0 7 ≤ 700 := wf_ok (a := 7) (b := 7) (z := (0, 700)) hp.1 (by decide +kernel) (Nat.le_refl _) (Nat.le_refl _)
  have v2 : zEq (η1 0 7) (η 0 7) := by rw [eη1]; exact (zup_ne (fun e _ => absurd e (by decide))).trans rfl
  have f0_7 : η1 0 7 = η 0 7 := v2
  have w0_0_6 : (0 : Int) ≤ η 0 6 ∧ η 0 6 ≤ 700 := wf_ok (a := 6) (b := 6) (z := (0, 700)) hp.1 (by decide +kernel) (Nat.le_refl _) (Nat.le_refl _)
  have v4 : zEq (η1 0 6) (η 0 6) := by rw [eη1]; exact (zup_ne (fun e _ => absurd e (by decide))).trans rfl
  have f0_6 : η1 0 6 = η 0 6 := v4
  have w0_0_8 : (0 : Int) ≤ η 0 8 ∧ η 0 8 ≤ 6 := wf_ok (a := 8) (b := 8) (z := (0, 6)) hp.1 (by decide +kernel) (Nat.le_refl _) (Nat.le_refl _)
  have v6 : zEq (η1 0 8) (η 0 8) := by rw [eη1]; exact (zup_ne (fun e _ => absurd e (by decide))).trans rfl
  have f0_8 : η1 0 8 = η 0 8 := v6
  have g1 : G_n η1 := by rw [eη1]; exact zGk_up gk_n hpp.1 (by decide +kernel)
  exact g1
set_option maxHeartbeats 8000000 in
theorem zn_onceLine0_o1 {ro : Nat → List Int32} (η : zE) (hp : sP wl_n zTr zPn_onceLine0 [] η) (hpp : pPn_onceLine0 [] η) : ∀ x1 : Int, x1 = η 3 (Int.toNat 0) → zok 1 x1 → (x1 = 0) → ∀ η1 : zE, η1 = zup η 3 (Int.toNat 0) 1 → ∀ (x2 : Int) (η2 : zE), ((gC2 wl_n [(nat_lit 0, zPn_wrong, zOn_wrong, zMn_wrong), (nat_lit 1, zPn_token, zOn_token, zMn_token), (nat_lit 2, zPn_number, zOn_number, zMn_number)] pCn_onceLine0 qCn_onceLine0) 1).2 [] η1 x2 η2 → ((gC2 wl_n [(nat_lit 0, zPn_wrong, zOn_wrong, zMn_wrong), (nat_lit 1, zPn_token, zOn_token, zMn_token), (nat_lit 2, zPn_number, zOn_number, zMn_number)] pCn_onceLine0 qCn_onceLine0) 2).1 [0, 9] η2 := by
  have hk : ¬ η 0 8 = 0 := hpp.2
  intro x1 e1 r1 c1 η1 eη1 x2 η2 h2
  have k2 : sQ wl_n zTr zOn_token zMn_token [] η1 x2 η2 ∧ pQn_token [] η1 x2 η2 := h2
  replace e1 : x1 = η 3 0 := e1
  replace r1 : 0 ≤ x1 ∧ x1 ≤ 1 := r1
  have w0_0_7 : (0 : Int) ≤ η 0 7 ∧ η 0 7 ≤ 700 := wf_ok (a := 7) (b := 7) (z := (0, 700)) hp.1 (by decide +kernel) (Nat.le_refl _) (Nat.le_refl _)
  have v2 : zEq (η1 0 7) (η 0 7) := by rw [eη1]; exact (zup_ne (fun e _ => absurd e (by decide))).trans rfl
  have c1_0_7 : η1 0 7 = η 0 7 := v2
  have w0_0_6 : (0 : Int) ≤ η 0 6 ∧ η 0 6 ≤ 700 := wf_ok (a := 6) (b := 6) (z := (0, 700)) hp.1 (by decide +kernel) (Nat.le_refl _) (Nat.le_refl _)
  have v4 : zEq (η1 0 6) (η 0 6) := by rw [eη1]; exact (zup_ne (fun e _ => absurd e (by decide))).trans rfl
  have c1_0_6 : η1 0 6 = η 0 6 := v4
  have w0_0_8 : (0 : Int) ≤ η 0 8 ∧ η 0 8 ≤ 6 := wf_ok (a := 8) (b := 8) (z := (0, 6)) hp.1 (by decide +kernel) (Nat.le_refl _) (Nat.le_refl _)
  have v6 : zEq (η1 0 8) (η 0 8) := by rw [eη1]; exact (zup_ne (fun e _ => absurd e (by decide))).trans rfl
  have c1_0_8 : η1 0 8 = η 0 8 := v6
  have bx2 : (0 : Int) ≤ x2 ∧ x2 ≤ 0 := k2.1.2.1
  have w2_0_7 : (0 : Int) ≤ η2 0 7 ∧ η2 0 7 ≤ 700 := wf_ok (a := 7) (b := 7) (z := (0, 700)) k2.1.1 (by decide +kernel) (Nat.le_refl _) (Nat.le_refl _)
  have d2_0_7 : η2 0 7 = η2 0 7 := rfl
  have v8 : zEq (η2 0 6) (η 0 6) := (k2.1.2.2.2.1 0 6 (by decide +kernel)).trans v4
  have d2_0_6 : η2 0 6 = η 0 6 := v8
  have w2_0_8 : (0 : Int) ≤ η2 0 8 ∧ η2 0 8 ≤ 6 := wf_ok (a := 8) (b := 8) (z := (0, 6)) k2.1.1 (by decide +kernel) (Nat.le_refl _) (Nat.le_refl _)
  have d2_0_8 : η2 0 8 = η2 0 8 := rfl
  have f0_7 : η2 0 7 = η2 0 7 := rfl
  have f0_6 : η2 0 6 = η 0 6 := v8
  have f0_8 : η2 0 8 = η2 0 8 := rfl
  have g1 : G_n η1 := by rw [eη1]; exact zGk_up gk_n hpp.1 (by decide +kernel)
  have qt2 : ¬ η1 0 8 = 0 → 10 * (η2 0 6 - η2 0 7) + η2 0 8 < 10 * (η1 0 6 - η1 0 7) + η1 0 8 := k2.2.2
  exact k2.2.1
set_option maxHeartbeats 8000000 in
theorem zn_onceLine0_o2 {ro : Nat → List Int32} (η : zE) (hp : sP wl_n zTr zPn_onceLine0 [] η) (hpp : pPn_onceLine0 [] η) : ∀ x1 : Int, x1 = η 3 (Int.toNat 0) → zok 1 x1 → (x1 = 0) → ∀ η1 : zE, η1 = zup η 3 (Int.toNat 0) 1 → ∀ (x2 : Int) (η2 : zE), ((gC2 wl_n [(nat_lit 0, zPn_wrong, zOn_wrong, zMn_wrong), (nat_lit 1, zPn_token, zOn_token, zMn_token), (nat_lit 2, zPn_number, zOn_number, zMn_number)] pCn_onceLine0 qCn_onceLine0) 1).2 [] η1 x2 η2 → ∀ (x3 : Int) (η3 : zE), ((gC2 wl_n [(nat_lit 0, zPn_wrong, zOn_wrong, zMn_wrong), (nat_lit 1, zPn_token, zOn_token, zMn_token), (nat_lit 2, zPn_number, zOn_number, zMn_number)] pCn_onceLine0 qCn_onceLine0) 2).2 [0, 9] η2 x3 η3 → (¬ x3 = 0) → ∀ x4 : Int, x4 = zd 0 1 4 0 → ∀ x5 : Int, x5 = η3 0 (Int.toNat 11) → zok 0 x5 → ∀ η4 : zE, η4 = zup η3 4 (Int.toNat x4) x5 → (¬ (0 : Int) = (1 : Int)) → (fun (_ : Nat) (y : Int) (η' : zE) => pQn_onceLine0 [] η y η') 0 1 η4 := by
  have hk : ¬ η 0 8 = 0 := hpp.2
  intro x1 e1 r1 c1 η1 eη1 x2 η2 h2 x3 η3 h3 c2 x4 e4 x5 e5 r5 η4 eη4 c3
  replace e4 := zEq_i e4
  have k2 : sQ wl_n zTr zOn_token zMn_token [] η1 x2 η2 ∧ pQn_token [] η1 x2 η2 := h2
  have k3 : sQ wl_n zTr zOn_number zMn_number [0, 9] η2 x3 η3 ∧ pQn_number [0, 9] η2 x3 η3 := h3
  replace e1 : x1 = η 3 0 := e1
  replace r1 : 0 ≤ x1 ∧ x1 ≤ 1 := r1
  have w0_0_7 : (0 : Int) ≤ η 0 7 ∧ η 0 7 ≤ 700 := wf_ok (a := 7) (b := 7) (z := (0, 700)) hp.1 (by decide +kernel) (Nat.le_refl _) (Nat.le_refl _)
  have v2 : zEq (η1 0 7) (η 0 7) := by rw [eη1]; exact (zup_ne (fun e _ => absurd e (by decide))).trans rfl
  have c1_0_7 : η1 0 7 = η 0 7 := v2
  have w0_0_6 : (0 : Int) ≤ η 0 6 ∧ η 0 6 ≤ 700 := wf_ok (a := 6) (b := 6) (z := (0, 700)) hp.1 (by decide +kernel) (Nat.le_refl _) (Nat.le_refl _)
  have v4 : zEq (η1 0 6) (η 0 6) := by rw [eη1]; exact (zup_ne (fun e _ => absurd e (by decide))).trans rfl
  have c1_0_6 : η1 0 6 = η 0 6 := v4
  have w0_0_8 : (0 : Int) ≤ η 0 8 ∧ η 0 8 ≤ 6 := wf_ok (a := 8) (b := 8) (z := (0, 6)) hp.1 (by decide +kernel) (Nat.le_refl _) (Nat.le_refl _)
  have v6 : zEq (η1 0 8) (η 0 8) := by rw [eη1]; exact (zup_ne (fun e _ => absurd e (by decide))).trans rfl
  have c1_0_8 : η1 0 8 = η 0 8 := v6
  have bx2 : (0 : Int) ≤ x2 ∧ x2 ≤ 0 := k2.1.2.1
  have w2_0_7 : (0 : Int) ≤ η2 0 7 ∧ η2 0 7 ≤ 700 := wf_ok (a := 7) (b := 7) (z := (0, 700)) k2.1.1 (by decide +kernel) (Nat.le_refl _) (Nat.le_refl _)
  have d2_0_7 : η2 0 7 = η2 0 7 := rfl
  have v8 : zEq (η2 0 6) (η 0 6) := (k2.1.2.2.2.1 0 6 (by decide +kernel)).trans v4
  have d2_0_6 : η2 0 6 = η 0 6 := v8
  have w2_0_8 : (0 : Int) ≤ η2 0 8 ∧ η2 0 8 ≤ 6 := wf_ok (a := 8) (b := 8) (z := (0, 6)) k2.1.1 (by decide +kernel) (Nat.le_refl _) (Nat.le_refl _)
  have d2_0_8 : η2 0 8 = η2 0 8 := rfl
  have c2_0_7 : η2 0 7 = η2 0 7 := rfl
  have c2_0_6 : η2 0 6 = η 0 6 := v8
  have c2_0_8 : η2 0 8 = η2 0 8 := rfl
  have bx3 : (0 : Int) ≤ x3 ∧ x3 ≤ 1 := k3.1.2.1
  have w3_0_7 : (0 : Int) ≤ η3 0 7 ∧ η3 0 7 ≤ 700 := wf_ok (a := 7) (b := 7) (z := (0, 700)) k3.1.1 (by decide +kernel) (Nat.le_refl _) (Nat.le_refl _)
  have d3_0_7 : η3 0 7 = η3 0 7 := rfl
  have v11 : zEq (η3 0 6) (η 0 6) := (k3.1.2.2.2.1 0 6 (by decide +kernel)).trans v8
  have d3_0_6 : η3 0 6 = η 0 6 := v11
  have w3_0_8 : (0 : Int) ≤ η3 0 8 ∧ η3 0 8 ≤ 6 := wf_ok (a := 8) (b := 8) (z := (0, 6)) k3.1.1 (by decide +kernel) (Nat.le_refl _) (Nat.le_refl _)
  have d3_0_8 : η3 0 8 = η3 0 8 := rfl
  first
  | replace e4 : x4 = 4 + 0 := zd_a2 (zEq_o e4) (by clear e4; exact ⟨by omega, by omega⟩)
  | clear e4
  replace e5 : x5 = η3 0 11 := e5
  replace r5 : -2147483648 ≤ x5 ∧ x5 ≤ 2147483647 := r5
  have v14 : zEq (η4 0 7) (η3 0 7) := by rw [eη4]; exact (zup_ne (fun e _ => absurd e (by decide))).trans rfl
  have f0_7 : η4 0 7 = η3 0 7 := v14
  have v15 : zEq (η4 0 6) (η 0 6) := by rw [eη4]; exact (zup_ne (fun e _ => absurd e (by decide))).trans v11
  have f0_6 : η4 0 6 = η 0 6 := v15
  have v16 : zEq (η4 0 8) (η3 0 8) := by rw [eη4]; exact (zup_ne (fun e _ => absurd e (by decide))).trans rfl
  have f0_8 : η4 0 8 = η3 0 8 := v16
  have g1 : G_n η1 := by rw [eη1]; exact zGk_up gk_n hpp.1 (by decide +kernel)
  have qt2 : ¬ η1 0 8 = 0 → 10 * (η2 0 6 - η2 0 7) + η2 0 8 < 10 * (η1 0 6 - η1 0 7) + η1 0 8 := k2.2.2
  have qn3 : ¬ x3 = 0 → 10 * (η3 0 6 - η3 0 7) + η3 0 8 < 10 * (η2 0 6 - η2 0 7) + η2 0 8 := k3.2.2
  have g4 : G_n η4 := by rw [eη4]; exact zGk_up gk_n k3.2.1 (by decide +kernel)
  exact ⟨g4, fun _ => show 10 * (η4 0 6 - η4 0 7) + η4 0 8 < 10 * (η 0 6 - η 0 7) + η 0 8 by omega⟩
set_option maxHeartbeats 8000000 in
theorem zn_onceLine0_o3 {ro : Nat → List Int32} (η : zE) (hp : sP wl_n zTr zPn_onceLine0 [] η) (hpp : pPn_onceLine0 [] η) : ∀ x1 : Int, x1 = η 3 (Int.toNat 0) → zok 1 x1 → (x1 = 0) → ∀ η1 : zE, η1 = zup η 3 (Int.toNat 0) 1 → ∀ (x2 : Int) (η2 : zE), ((gC2 wl_n [(nat_lit 0, zPn_wrong, zOn_wrong, zMn_wrong), (nat_lit 1, zPn_token, zOn_token, zMn_token), (nat_lit 2, zPn_number, zOn_number, zMn_number)] pCn_onceLine0 qCn_onceLine0) 1).2 [] η1 x2 η2 → ∀ (x3 : Int) (η3 : zE), ((gC2 wl_n [(nat_lit 0, zPn_wrong, zOn_wrong, zMn_wrong), (nat_lit 1, zPn_token, zOn_token, zMn_token), (nat_lit 2, zPn_number, zOn_number, zMn_number)] pCn_onceLine0 qCn_onceLine0) 2).2 [0, 9] η2 x3 η3 → (x3 = 0) → (fun (_ : Nat) (y : Int) (η' : zE) => pQn_onceLine0 [] η y η') 0 0 η3 := by
  have hk : ¬ η 0 8 = 0 := hpp.2
  intro x1 e1 r1 c1 η1 eη1 x2 η2 h2 x3 η3 h3 c2
  have k2 : sQ wl_n zTr zOn_token zMn_token [] η1 x2 η2 ∧ pQn_token [] η1 x2 η2 := h2
  have k3 : sQ wl_n zTr zOn_number zMn_number [0, 9] η2 x3 η3 ∧ pQn_number [0, 9] η2 x3 η3 := h3
  replace e1 : x1 = η 3 0 := e1
  replace r1 : 0 ≤ x1 ∧ x1 ≤ 1 := r1
  have w0_0_7 : (0 : Int) ≤ η 0 7 ∧ η 0 7 ≤ 700 := wf_ok (a := 7) (b := 7) (z := (0, 700)) hp.1 (by decide +kernel) (Nat.le_refl _) (Nat.le_refl _)
  have v2 : zEq (η1 0 7) (η 0 7) := by rw [eη1]; exact (zup_ne (fun e _ => absurd e (by decide))).trans rfl
  have c1_0_7 : η1 0 7 = η 0 7 := v2
  have w0_0_6 : (0 : Int) ≤ η 0 6 ∧ η 0 6 ≤ 700 := wf_ok (a := 6) (b := 6) (z := (0, 700)) hp.1 (by decide +kernel) (Nat.le_refl _) (Nat.le_refl _)
  have v4 : zEq (η1 0 6) (η 0 6) := by rw [eη1]; exact (zup_ne (fun e _ => absurd e (by decide))).trans rfl
  have c1_0_6 : η1 0 6 = η 0 6 := v4
  have w0_0_8 : (0 : Int) ≤ η 0 8 ∧ η 0 8 ≤ 6 := wf_ok (a := 8) (b := 8) (z := (0, 6)) hp.1 (by decide +kernel) (Nat.le_refl _) (Nat.le_refl _)
  have v6 : zEq (η1 0 8) (η 0 8) := by rw [eη1]; exact (zup_ne (fun e _ => absurd e (by decide))).trans rfl
  have c1_0_8 : η1 0 8 = η 0 8 := v6
  have bx2 : (0 : Int) ≤ x2 ∧ x2 ≤ 0 := k2.1.2.1
  have w2_0_7 : (0 : Int) ≤ η2 0 7 ∧ η2 0 7 ≤ 700 := wf_ok (a := 7) (b := 7) (z := (0, 700)) k2.1.1 (by decide +kernel) (Nat.le_refl _) (Nat.le_refl _)
  have d2_0_7 : η2 0 7 = η2 0 7 := rfl
  have v8 : zEq (η2 0 6) (η 0 6) := (k2.1.2.2.2.1 0 6 (by decide +kernel)).trans v4
  have d2_0_6 : η2 0 6 = η 0 6 := v8
  have w2_0_8 : (0 : Int) ≤ η2 0 8 ∧ η2 0 8 ≤ 6 := wf_ok (a := 8) (b := 8) (z := (0, 6)) k2.1.1 (by decide +kernel) (Nat.le_refl _) (Nat.le_refl _)
  have d2_0_8 : η2 0 8 = η2 0 8 := rfl
  have c2_0_7 : η2 0 7 = η2 0 7 := rfl
  have c2_0_6 : η2 0 6 = η 0 6 := v8
  have c2_0_8 : η2 0 8 = η2 0 8 := rfl
  have bx3 : (0 : Int) ≤ x3 ∧ x3 ≤ 1 := k3.1.2.1
  have w3_0_7 : (0 : Int) ≤ η3 0 7 ∧ η3 0 7 ≤ 700 := wf_ok (a := 7) (b := 7) (z := (0, 700)) k3.1.1 (by decide +kernel) (Nat.le_refl _) (Nat.le_refl _)
  have d3_0_7 : η3 0 7 = η3 0 7 := rfl
  have v11 : zEq (η3 0 6) (η 0 6) := (k3.1.2.2.2.1 0 6 (by decide +kernel)).trans v8
  have d3_0_6 : η3 0 6 = η 0 6 := v11
  have w3_0_8 : (0 : Int) ≤ η3 0 8 ∧ η3 0 8 ≤ 6 := wf_ok (a := 8) (b := 8) (z := (0, 6)) k3.1.1 (by decide +kernel) (Nat.le_refl _) (Nat.le_refl _)
  have d3_0_8 : η3 0 8 = η3 0 8 := rfl
  have f0_7 : η3 0 7 = η3 0 7 := rfl
  have f0_6 : η3 0 6 = η 0 6 := v11
  have f0_8 : η3 0 8 = η3 0 8 := rfl
  have g1 : G_n η1 := by rw [eη1]; exact zGk_up gk_n hpp.1 (by decide +kernel)
  have qt2 : ¬ η1 0 8 = 0 → 10 * (η2 0 6 - η2 0 7) + η2 0 8 < 10 * (η1 0 6 - η1 0 7) + η1 0 8 := k2.2.2
  have qn3 : ¬ x3 = 0 → 10 * (η3 0 6 - η3 0 7) + η3 0 8 < 10 * (η2 0 6 - η2 0 7) + η2 0 8 := k3.2.2
  exact ⟨k3.2.1, fun w => absurd (show (0 : Int) = 0 by apply Int.le_antisymm <;> omega) w⟩
set_option maxHeartbeats 8000000 in
theorem zn_onceLine0_o4 {ro : Nat → List Int32} (η : zE) (hp : sP wl_n zTr zPn_onceLine0 [] η) (hpp : pPn_onceLine0 [] η) : ∀ x1 : Int, x1 = η 3 (Int.toNat 0) → zok 1 x1 → (¬ x1 = 0) → ((gC2 wl_n [(nat_lit 0, zPn_wrong, zOn_wrong, zMn_wrong), (nat_lit 1, zPn_token, zOn_token, zMn_token), (nat_lit 2, zPn_number, zOn_number, zMn_number)] pCn_onceLine0 qCn_onceLine0) 0).1 [3] η := by
  have hk : ¬ η 0 8 = 0 := hpp.2
  intro x1 e1 r1 c1
  replace e1 : x1 = η 3 0 := e1
  replace r1 : 0 ≤ x1 ∧ x1 ≤ 1 := r1
  have w0_0_7 : (0 : Int) ≤ η 0 7 ∧ η 0 7 ≤ 700 := wf_ok (a := 7) (b := 7) (z := (0, 700)) hp.1 (by decide +kernel) (Nat.le_refl _) (Nat.le_refl _)
  have f0_7 : η 0 7 = η 0 7 := rfl
  have w0_0_6 : (0 : Int) ≤ η 0 6 ∧ η 0 6 ≤ 700 := wf_ok (a := 6) (b := 6) (z := (0, 700)) hp.1 (by decide +kernel) (Nat.le_refl _) (Nat.le_refl _)
  have f0_6 : η 0 6 = η 0 6 := rfl
  have w0_0_8 : (0 : Int) ≤ η 0 8 ∧ η 0 8 ≤ 6 := wf_ok (a := 8) (b := 8) (z := (0, 6)) hp.1 (by decide +kernel) (Nat.le_refl _) (Nat.le_refl _)
  have f0_8 : η 0 8 = η 0 8 := rfl
  exact hpp.1
set_option maxHeartbeats 8000000 in
theorem zn_onceLine0_o5 {ro : Nat → List Int32} (η : zE) (hp : sP wl_n zTr zPn_onceLine0 [] η) (hpp : pPn_onceLine0 [] η) : ∀ x1 : Int, x1 = η 3 (Int.toNat 0) → zok 1 x1 → (¬ x1 = 0) → ∀ (x2 : Int) (η1 : zE), ((gC2 wl_n [(nat_lit 0, zPn_wrong, zOn_wrong, zMn_wrong), (nat_lit 1, zPn_token, zOn_token, zMn_token), (nat_lit 2, zPn_number, zOn_number, zMn_number)] pCn_onceLine0 qCn_onceLine0) 0).2 [3] η x2 η1 → (fun (_ : Nat) (y : Int) (η' : zE) => pQn_onceLine0 [] η y η') 0 x2 η1 := by
  have hk : ¬ η 0 8 = 0 := hpp.2
  intro x1 e1 r1 c1 x2 η1 h2
  have k2 : sQ wl_n zTr zOn_wrong zMn_wrong [3] η x2 η1 ∧ pQn_wrong [3] η x2 η1 := h2
  replace e1 : x1 = η 3 0 := e1
  replace r1 : 0 ≤ x1 ∧ x1 ≤ 1 := r1
  have w0_0_7 : (0 : Int) ≤ η 0 7 ∧ η 0 7 ≤ 700 := wf_ok (a := 7) (b := 7) (z := (0, 700)) hp.1 (by decide +kernel) (Nat.le_refl _) (Nat.le_refl _)
  have c0_0_7 : η 0 7 = η 0 7 := rfl
  have w0_0_6 : (0 : Int) ≤ η 0 6 ∧ η 0 6 ≤ 700 := wf_ok (a := 6) (b := 6) (z := (0, 700)) hp.1 (by decide +kernel) (Nat.le_refl _) (Nat.le_refl _)
  have c0_0_6 : η 0 6 = η 0 6 := rfl
  have w0_0_8 : (0 : Int) ≤ η 0 8 ∧ η 0 8 ≤ 6 := wf_ok (a := 8) (b := 8) (z := (0, 6)) hp.1 (by decide +kernel) (Nat.le_refl _) (Nat.le_refl _)
  have c0_0_8 : η 0 8 = η 0 8 := rfl
  have bx2 : (0 : Int) ≤ x2 ∧ x2 ≤ 0 := k2.1.2.1
  have v4 : zEq (η1 0 7) (η 0 7) := (k2.1.2.2.2.1 0 7 (by decide +kernel)).trans rfl
  have d1_0_7 : η1 0 7 = η 0 7 := v4
  have v5 : zEq (η1 0 6) (η 0 6) := (k2.1.2.2.2.1 0 6 (by decide +kernel)).trans rfl
  have d1_0_6 : η1 0 6 = η 0 6 := v5
  have v6 : zEq (η1 0 8) (η 0 8) := (k2.1.2.2.2.1 0 8 (by decide +kernel)).trans rfl
  have d1_0_8 : η1 0 8 = η 0 8 := v6
  have f0_7 : η1 0 7 = η 0 7 := v4
  have f0_6 : η1 0 6 = η 0 6 := v5
  have f0_8 : η1 0 8 = η 0 8 := v6
  exact ⟨k2.2, fun w => absurd (show (x2 : Int) = 0 by apply Int.le_antisymm <;> omega) w⟩
set_option maxHeartbeats 8000000 in
theorem zn_onceLine0 {ro : Nat → List Int32} : zMet pr_P pr_K pr_df ro (sm_X0 1 6) 3 135 tm_n [(.inr (.inr (.inl (nat_lit 0)))), (.inl (nat_lit 0, (.ofNat (nat_lit 0)))), (.inl (nat_lit 0, (.ofNat (nat_lit 9))))] 2 [(nat_lit 0, nat_lit 0, nat_lit 1), (nat_lit 0, nat_lit 3, nat_lit 2), (nat_lit 0, nat_lit 20, nat_lit 3), (nat_lit 0, nat_lit 21, nat_lit 4), (nat_lit 0, nat_lit 22, nat_lit 5), (nat_lit 0, nat_lit 23, nat_lit 6), (nat_lit 0, nat_lit 24, nat_lit 7), (nat_lit 0, nat_lit 25, nat_lit 8), (nat_lit 0, nat_lit 26, nat_lit 9), (nat_lit 0, nat_lit 27, nat_lit 10), (nat_lit 0, nat_lit 28, nat_lit 11), (nat_lit 0, nat_lit 29, nat_lit 12), (nat_lit 0, nat_lit 30, nat_lit 13), (nat_lit 0, nat_lit 31, nat_lit 14), (nat_lit 0, nat_lit 32, nat_lit 15), (nat_lit 0, nat_lit 33, nat_lit 16), (nat_lit 0, nat_lit 34, nat_lit 17), (nat_lit 0, nat_lit 35, nat_lit 18), (nat_lit 0, nat_lit 36, nat_lit 19), (nat_lit 0, nat_lit 37, nat_lit 20), (nat_lit 0, nat_lit 38, nat_lit 21), (nat_lit 0, nat_lit 39, nat_lit 22), (nat_lit 0, nat_lit 40, nat_lit 23), (nat_lit 0, nat_lit 47, nat_lit 24), (nat_lit 0, nat_lit 48, nat_lit 25), (nat_lit 0, nat_lit 50, nat_lit 26), (nat_lit 0, nat_lit 51, nat_lit 27), (nat_lit 0, nat_lit 52, nat_lit 28), (nat_lit 0, nat_lit 53, nat_lit 29), (nat_lit 0, nat_lit 54, nat_lit 30), (nat_lit 0, nat_lit 55, nat_lit 31), (nat_lit 0, nat_lit 56, nat_lit 32), (nat_lit 0, nat_lit 57, nat_lit 33), (nat_lit 0, nat_lit 58, nat_lit 34), (nat_lit 0, nat_lit 59, nat_lit 35), (nat_lit 0, nat_lit 72, nat_lit 36), (nat_lit 0, nat_lit 73, nat_lit 37), (nat_lit 0, nat_lit 76, nat_lit 38), (nat_lit 0, nat_lit 77, nat_lit 39), (nat_lit 0, nat_lit 79, nat_lit 40), (nat_lit 0, nat_lit 81, nat_lit 41), (nat_lit 0, nat_lit 82, nat_lit 42)] [] (fun xs η => sP wl_n zTr zPn_onceLine0 xs η ∧ pPn_onceLine0 xs η) (fun xs η y η' => sQ wl_n zTr zOn_onceLine0 zMn_onceLine0 xs η y η' ∧ pQn_onceLine0 xs η y η') :=
  zmet_alt (zmea_gen (mi := (nat_lit 2, nat_lit 1, nat_lit 8, nat_lit 3, nat_lit 2, tX8_onceLine)) (cd := [(nat_lit 118, nat_lit 0, nat_lit 0, [(.inr (.inr (.inl (nat_lit 0)))), (.inl (nat_lit 1, (.ofNat (nat_lit 0))))], nat_lit 2, [(nat_lit 0, nat_lit 0, nat_lit 1), (nat_lit 0, nat_lit 3, nat_lit 2), (nat_lit 0, nat_lit 20, nat_lit 3), (nat_lit 0, nat_lit 21, nat_lit 4), (nat_lit 0, nat_lit 22, nat_lit 5), (nat_lit 0, nat_lit 23, nat_lit 6), (nat_lit 0, nat_lit 24, nat_lit 7), (nat_lit 0, nat_lit 25, nat_lit 8), (nat_lit 0, nat_lit 26, nat_lit 9), (nat_lit 0, nat_lit 27, nat_lit 10), (nat_lit 0, nat_lit 28, nat_lit 11), (nat_lit 0, nat_lit 29, nat_lit 12), (nat_lit 0, nat_lit 30, nat_lit 13), (nat_lit 0, nat_lit 31, nat_lit 14), (nat_lit 0, nat_lit 32, nat_lit 15), (nat_lit 0, nat_lit 33, nat_lit 16), (nat_lit 0, nat_lit 34, nat_lit 17), (nat_lit 0, nat_lit 35, nat_lit 18), (nat_lit 0, nat_lit 36, nat_lit 19), (nat_lit 0, nat_lit 37, nat_lit 20), (nat_lit 0, nat_lit 38, nat_lit 21), (nat_lit 0, nat_lit 39, nat_lit 22), (nat_lit 0, nat_lit 40, nat_lit 23), (nat_lit 0, nat_lit 47, nat_lit 24), (nat_lit 0, nat_lit 48, nat_lit 25), (nat_lit 0, nat_lit 50, nat_lit 26), (nat_lit 0, nat_lit 51, nat_lit 27), (nat_lit 0, nat_lit 52, nat_lit 28), (nat_lit 0, nat_lit 53, nat_lit 29), (nat_lit 0, nat_lit 54, nat_lit 30), (nat_lit 0, nat_lit 55, nat_lit 31), (nat_lit 0, nat_lit 56, nat_lit 32), (nat_lit 0, nat_lit 57, nat_lit 33), (nat_lit 0, nat_lit 58, nat_lit 34), (nat_lit 0, nat_lit 59, nat_lit 35), (nat_lit 0, nat_lit 72, nat_lit 36), (nat_lit 0, nat_lit 73, nat_lit 37), (nat_lit 0, nat_lit 76, nat_lit 38), (nat_lit 0, nat_lit 77, nat_lit 39), (nat_lit 0, nat_lit 79, nat_lit 40), (nat_lit 0, nat_lit 81, nat_lit 41), (nat_lit 0, nat_lit 82, nat_lit 42)], []), (nat_lit 122, nat_lit 1, nat_lit 1, [(.inr (.inr (.inl (nat_lit 0))))], nat_lit 0, [(nat_lit 0, nat_lit 0, nat_lit 1), (nat_lit 0, nat_lit 3, nat_lit 2), (nat_lit 0, nat_lit 20, nat_lit 3), (nat_lit 0, nat_lit 21, nat_lit 4), (nat_lit 0, nat_lit 22, nat_lit 5), (nat_lit 0, nat_lit 23, nat_lit 6), (nat_lit 0, nat_lit 24, nat_lit 7), (nat_lit 0, nat_lit 25, nat_lit 8), (nat_lit 0, nat_lit 26, nat_lit 9), (nat_lit 0, nat_lit 27, nat_lit 10), (nat_lit 0, nat_lit 28, nat_lit 11), (nat_lit 0, nat_lit 29, nat_lit 12), (nat_lit 0, nat_lit 30, nat_lit 13), (nat_lit 0, nat_lit 31, nat_lit 14), (nat_lit 0, nat_lit 32, nat_lit 15), (nat_lit 0, nat_lit 33, nat_lit 16), (nat_lit 0, nat_lit 34, nat_lit 17), (nat_lit 0, nat_lit 35, nat_lit 18), (nat_lit 0, nat_lit 36, nat_lit 19), (nat_lit 0, nat_lit 37, nat_lit 20), (nat_lit 0, nat_lit 38, nat_lit 21), (nat_lit 0, nat_lit 39, nat_lit 22), (nat_lit 0, nat_lit 40, nat_lit 23), (nat_lit 0, nat_lit 47, nat_lit 24), (nat_lit 0, nat_lit 48, nat_lit 25), (nat_lit 0, nat_lit 50, nat_lit 26), (nat_lit 0, nat_lit 51, nat_lit 27), (nat_lit 0, nat_lit 52, nat_lit 28), (nat_lit 0, nat_lit 53, nat_lit 29), (nat_lit 0, nat_lit 54, nat_lit 30), (nat_lit 0, nat_lit 55, nat_lit 31), (nat_lit 0, nat_lit 56, nat_lit 32), (nat_lit 0, nat_lit 57, nat_lit 33), (nat_lit 0, nat_lit 58, nat_lit 34), (nat_lit 0, nat_lit 59, nat_lit 35), (nat_lit 0, nat_lit 72, nat_lit 36), (nat_lit 0, nat_lit 73, nat_lit 37), (nat_lit 0, nat_lit 76, nat_lit 38), (nat_lit 0, nat_lit 77, nat_lit 39), (nat_lit 0, nat_lit 79, nat_lit 40), (nat_lit 0, nat_lit 81, nat_lit 41), (nat_lit 0, nat_lit 82, nat_lit 42)], []), (nat_lit 127, nat_lit 2, nat_lit 2, [(.inr (.inr (.inl (nat_lit 0)))), (.inl (nat_lit 1, (.ofNat (nat_lit 0)))), (.inl (nat_lit 2, (.ofNat (nat_lit 0))))], nat_lit 2, [(nat_lit 0, nat_lit 0, nat_lit 1), (nat_lit 0, nat_lit 3, nat_lit 2), (nat_lit 0, nat_lit 20, nat_lit 3), (nat_lit 0, nat_lit 21, nat_lit 4), (nat_lit 0, nat_lit 22, nat_lit 5), (nat_lit 0, nat_lit 23, nat_lit 6), (nat_lit 0, nat_lit 24, nat_lit 7), (nat_lit 0, nat_lit 25, nat_lit 8), (nat_lit 0, nat_lit 26, nat_lit 9), (nat_lit 0, nat_lit 27, nat_lit 10), (nat_lit 0, nat_lit 28, nat_lit 11), (nat_lit 0, nat_lit 29, nat_lit 12), (nat_lit 0, nat_lit 30, nat_lit 13), (nat_lit 0, nat_lit 31, nat_lit 14), (nat_lit 0, nat_lit 32, nat_lit 15), (nat_lit 0, nat_lit 33, nat_lit 16), (nat_lit 0, nat_lit 34, nat_lit 17), (nat_lit 0, nat_lit 35, nat_lit 18), (nat_lit 0, nat_lit 36, nat_lit 19), (nat_lit 0, nat_lit 37, nat_lit 20), (nat_lit 0, nat_lit 38, nat_lit 21), (nat_lit 0, nat_lit 39, nat_lit 22), (nat_lit 0, nat_lit 40, nat_lit 23), (nat_lit 0, nat_lit 47, nat_lit 24), (nat_lit 0, nat_lit 48, nat_lit 25), (nat_lit 0, nat_lit 50, nat_lit 26), (nat_lit 0, nat_lit 51, nat_lit 27), (nat_lit 0, nat_lit 52, nat_lit 28), (nat_lit 0, nat_lit 53, nat_lit 29), (nat_lit 0, nat_lit 54, nat_lit 30), (nat_lit 0, nat_lit 55, nat_lit 31), (nat_lit 0, nat_lit 56, nat_lit 32), (nat_lit 0, nat_lit 57, nat_lit 33), (nat_lit 0, nat_lit 58, nat_lit 34), (nat_lit 0, nat_lit 59, nat_lit 35), (nat_lit 0, nat_lit 72, nat_lit 36), (nat_lit 0, nat_lit 73, nat_lit 37), (nat_lit 0, nat_lit 76, nat_lit 38), (nat_lit 0, nat_lit 77, nat_lit 39), (nat_lit 0, nat_lit 79, nat_lit 40), (nat_lit 0, nat_lit 81, nat_lit 41), (nat_lit 0, nat_lit 82, nat_lit 42)], [])]) (cu := []) (cs := [(nat_lit 0, zPn_wrong, zOn_wrong, zMn_wrong), (nat_lit 1, zPn_token, zOn_token, zMn_token), (nat_lit 2, zPn_number, zOn_number, zMn_number)]) (iv := zVn_onceLine0) (po := [zOn_onceLine0]) (pr := zPn_onceLine0) (mods := zMn_onceLine0) (D7 := zDn_onceLine0) (D0 := zEn_onceLine0) (Dm := zFn_onceLine0) (f0 := 34) pCn_onceLine0 qCn_onceLine0 iCn_onceLine0 pPn_onceLine0 (fun xs η _ y η' => pQn_onceLine0 xs η y η') zX_low pr_mtR rfl (List.forall_mem_cons.mpr ⟨zn_wrong, List.forall_mem_cons.mpr ⟨zn_token, List.forall_mem_cons.mpr ⟨zn_number, fun _ h => nomatch h⟩⟩⟩) (by decide +kernel) (by decide +kernel) (by decide +kernel)
    (by
      intro xs η hr hl hp hpp
      match xs, hl, hp, hpp with
      | [], _, hp, hpp =>
        refine List.forall_mem_cons.mpr ⟨?_, List.forall_mem_cons.mpr ⟨?_, List.forall_mem_cons.mpr ⟨?_, List.forall_mem_cons.mpr ⟨?_, List.forall_mem_cons.mpr ⟨?_, List.forall_mem_cons.mpr ⟨?_, fun _ h => nomatch h⟩⟩⟩⟩⟩⟩
        · refine zden_L (n := 1) (ρ := [0]) rfl ?_
          exact zn_onceLine0_o0 (ro := ro)  η hp hpp
        · refine zden_L (n := 1) (ρ := [0]) rfl ?_
          exact zn_onceLine0_o1 (ro := ro)  η hp hpp
        · refine zden_L (n := 1) (ρ := [0]) rfl ?_
          exact zn_onceLine0_o2 (ro := ro)  η hp hpp
        · refine zden_L (n := 1) (ρ := [0]) rfl ?_
          exact zn_onceLine0_o3 (ro := ro)  η hp hpp
        · refine zden_L (n := 1) (ρ := [0]) rfl ?_
          exact zn_onceLine0_o4 (ro := ro)  η hp hpp
        · refine zden_L (n := 1) (ρ := [0]) rfl ?_
          exact zn_onceLine0_o5 (ro := ro)  η hp hpp
      )
    (fun _ _ _ _ _ _ _ h => nomatch h)
    (fun _ h => nomatch h))
def zPn_onceLine1 : zPq := ([], [])
def zOn_onceLine1 : zPo := (((.ofNat (nat_lit 0)), (.ofNat (nat_lit 1))), [], [])
def zMn_onceLine1 : List zCe := [(nat_lit 0, nat_lit 8), (nat_lit 0, nat_lit 9), (nat_lit 0, nat_lit 10), (nat_lit 0, nat_lit 11), (nat_lit 0, nat_lit 5), (nat_lit 0, nat_lit 6), (nat_lit 0, nat_lit 12), (nat_lit 4, nat_lit 0), (nat_lit 3, nat_lit 0)]
def pPn_onceLine1 : List Int → zE → Prop := fun _ η => G_n η ∧ ¬ η 0 8 = 0
def pQn_onceLine1 : List Int → zE → Int → zE → Prop := fun _ η y η' => G_n η' ∧ (¬ y = 0 → 10 * (η' 0 6 - η' 0 7) + η' 0 8 < 10 * (η 0 6 - η 0 7) + η 0 8)
def pCn_onceLine1 : Nat → List Int → zE → Prop := fun c => match c with
  | 0 => pPn_wrong
  | 1 => pPn_token
  | 2 => pPn_number
  | _ => fun _ _ => True
def qCn_onceLine1 : Nat → List Int → zE → Int → zE → Prop := fun c => match c with
  | 0 => pQn_wrong
  | 1 => pQn_token
  | 2 => pQn_number
  | _ => fun _ _ _ _ => True
def iCn_onceLine1 : List Int → zE → Nat → List Int → zE → Prop := fun xs η0 c => match c with
  | _ => fun _ _ => True
def zVn_onceLine1 : List zIv := []
def zDn_onceLine1 : List (List zK) := [[(nat_lit 7, nat_lit 0, [(nat_lit 0, (.ofNat (nat_lit 1))), (nat_lit 0, (.ofNat (nat_lit 3)))])],
  [(nat_lit 7, nat_lit 0, [(nat_lit 0, (.ofNat (nat_lit 1))), (nat_lit 0, (.ofNat (nat_lit 3)))]), (nat_lit 6, nat_lit 0, [(nat_lit 1, (.ofNat (nat_lit 0))), (nat_lit 0, (.ofNat (nat_lit 0)))]), (nat_lit 4, nat_lit 1, [(nat_lit 3, (.ofNat (nat_lit 0))), (nat_lit 0, (.ofNat (nat_lit 1)))])],
  [(nat_lit 7, nat_lit 2, [(nat_lit 0, (.ofNat (nat_lit 1)))]), (nat_lit 6, nat_lit 0, [(nat_lit 1, (.ofNat (nat_lit 0))), (nat_lit 0, (.ofNat (nat_lit 0)))]), (nat_lit 4, nat_lit 1, [(nat_lit 3, (.ofNat (nat_lit 0))), (nat_lit 0, (.ofNat (nat_lit 1)))])],
  [(nat_lit 7, nat_lit 0, [(nat_lit 4, (.ofNat (nat_lit 0))), (nat_lit 0, (.ofNat (nat_lit 8)))]), (nat_lit 4, nat_lit 0, [(nat_lit 0, (.ofNat (nat_lit 0))), (nat_lit 0, (.ofNat (nat_lit 11)))]), (nat_lit 0, nat_lit 1, [(nat_lit 0, (.ofNat (nat_lit 4))), (nat_lit 0, (.ofNat (nat_lit 1)))]), (nat_lit 6, nat_lit 1, [(nat_lit 3, (.ofNat (nat_lit 0))), (nat_lit 0, (.ofNat (nat_lit 0)))]), (nat_lit 8, nat_lit 2, [(nat_lit 0, (.ofNat (nat_lit 0))), (nat_lit 0, (.ofNat (nat_lit 99)))]), (nat_lit 8, nat_lit 1, []), (nat_lit 5, nat_lit 1, [(nat_lit 3, (.ofNat (nat_lit 0))), (nat_lit 0, (.ofNat (nat_lit 1))), (nat_lit 0, (.ofNat (nat_lit 1)))]), (nat_lit 6, nat_lit 0, [(nat_lit 1, (.ofNat (nat_lit 0))), (nat_lit 0, (.ofNat (nat_lit 0)))]), (nat_lit 4, nat_lit 1, [(nat_lit 3, (.ofNat (nat_lit 0))), (nat_lit 0, (.ofNat (nat_lit 1)))])],
  [(nat_lit 7, nat_lit 0, [(nat_lit 0, (.ofNat (nat_lit 7))), (nat_lit 0, (.ofNat (nat_lit 8)))]), (nat_lit 4, nat_lit 0, [(nat_lit 0, (.ofNat (nat_lit 0))), (nat_lit 0, (.ofNat (nat_lit 11)))]), (nat_lit 6, nat_lit 1, [(nat_lit 6, (.ofNat (nat_lit 0))), (nat_lit 0, (.ofNat (nat_lit 0)))]), (nat_lit 8, nat_lit 2, [(nat_lit 0, (.ofNat (nat_lit 0))), (nat_lit 0, (.ofNat (nat_lit 9)))]), (nat_lit 6, nat_lit 0, [(nat_lit 0, (.ofNat (nat_lit 1))), (nat_lit 0, (.ofNat (nat_lit 1)))]), (nat_lit 5, nat_lit 0, [(nat_lit 4, (.ofNat (nat_lit 0))), (nat_lit 4, (.ofNat (nat_lit 0))), (nat_lit 5, (.ofNat (nat_lit 0)))]), (nat_lit 4, nat_lit 0, [(nat_lit 0, (.ofNat (nat_lit 0))), (nat_lit 0, (.ofNat (nat_lit 11)))]), (nat_lit 0, nat_lit 1, [(nat_lit 0, (.ofNat (nat_lit 4))), (nat_lit 0, (.ofNat (nat_lit 1)))]), (nat_lit 6, nat_lit 1, [(nat_lit 3, (.ofNat (nat_lit 0))), (nat_lit 0, (.ofNat (nat_lit 0)))]), (nat_lit 8, nat_lit 2, [(nat_lit 0, (.ofNat (nat_lit 0))), (nat_lit 0, (.ofNat (nat_lit 99)))]), (nat_lit 8, nat_lit 1, []), (nat_lit 5, nat_lit 1, [(nat_lit 3, (.ofNat (nat_lit 0))), (nat_lit 0, (.ofNat (nat_lit 1))), (nat_lit 0, (.ofNat (nat_lit 1)))]), (nat_lit 6, nat_lit 0, [(nat_lit 1, (.ofNat (nat_lit 0))), (nat_lit 0, (.ofNat (nat_lit 0)))]), (nat_lit 4, nat_lit 1, [(nat_lit 3, (.ofNat (nat_lit 0))), (nat_lit 0, (.ofNat (nat_lit 1)))])],
  [(nat_lit 7, nat_lit 2, [(nat_lit 0, (.ofNat (nat_lit 1)))]), (nat_lit 5, nat_lit 0, [(nat_lit 4, (.ofNat (nat_lit 0))), (nat_lit 0, (.ofNat (nat_lit 7))), (nat_lit 7, (.ofNat (nat_lit 0)))]), (nat_lit 4, nat_lit 0, [(nat_lit 0, (.ofNat (nat_lit 0))), (nat_lit 0, (.ofNat (nat_lit 11)))]), (nat_lit 6, nat_lit 1, [(nat_lit 6, (.ofNat (nat_lit 0))), (nat_lit 0, (.ofNat (nat_lit 0)))]), (nat_lit 8, nat_lit 2, [(nat_lit 0, (.ofNat (nat_lit 0))), (nat_lit 0, (.ofNat (nat_lit 9)))]), (nat_lit 6, nat_lit 0, [(nat_lit 0, (.ofNat (nat_lit 1))), (nat_lit 0, (.ofNat (nat_lit 1)))]), (nat_lit 5, nat_lit 0, [(nat_lit 4, (.ofNat (nat_lit 0))), (nat_lit 4, (.ofNat (nat_lit 0))), (nat_lit 5, (.ofNat (nat_lit 0)))]), (nat_lit 4, nat_lit 0, [(nat_lit 0, (.ofNat (nat_lit 0))), (nat_lit 0, (.ofNat (nat_lit 11)))]), (nat_lit 0, nat_lit 1, [(nat_lit 0, (.ofNat (nat_lit 4))), (nat_lit 0, (.ofNat (nat_lit 1)))]), (nat_lit 6, nat_lit 1, [(nat_lit 3, (.ofNat (nat_lit 0))), (nat_lit 0, (.ofNat (nat_lit 0)))]), (nat_lit 8, nat_lit 2, [(nat_lit 0, (.ofNat (nat_lit 0))), (nat_lit 0, (.ofNat (nat_lit 99)))]), (nat_lit 8, nat_lit 1, []), (nat_lit 5, nat_lit 1, [(nat_lit 3, (.ofNat (nat_lit 0))), (nat_lit 0, (.ofNat (nat_lit 1))), (nat_lit 0, (.ofNat (nat_lit 1)))]), (nat_lit 6, nat_lit 0, [(nat_lit 1, (.ofNat (nat_lit 0))), (nat_lit 0, (.ofNat (nat_lit 0)))]), (nat_lit 4, nat_lit 1, [(nat_lit 3, (.ofNat (nat_lit 0))), (nat_lit 0, (.ofNat (nat_lit 1)))])],
  [(nat_lit 7, nat_lit 2, [(nat_lit 0, (.ofNat (nat_lit 0)))]), (nat_lit 6, nat_lit 0, [(nat_lit 6, (.ofNat (nat_lit 0))), (nat_lit 0, (.ofNat (nat_lit 0)))]), (nat_lit 8, nat_lit 2, [(nat_lit 0, (.ofNat (nat_lit 0))), (nat_lit 0, (.ofNat (nat_lit 9)))]), (nat_lit 6, nat_lit 0, [(nat_lit 0, (.ofNat (nat_lit 1))), (nat_lit 0, (.ofNat (nat_lit 1)))]), (nat_lit 5, nat_lit 0, [(nat_lit 4, (.ofNat (nat_lit 0))), (nat_lit 4, (.ofNat (nat_lit 0))), (nat_lit 5, (.ofNat (nat_lit 0)))]), (nat_lit 4, nat_lit 0, [(nat_lit 0, (.ofNat (nat_lit 0))), (nat_lit 0, (.ofNat (nat_lit 11)))]), (nat_lit 0, nat_lit 1, [(nat_lit 0, (.ofNat (nat_lit 4))), (nat_lit 0, (.ofNat (nat_lit 1)))]), (nat_lit 6, nat_lit 1, [(nat_lit 3, (.ofNat (nat_lit 0))), (nat_lit 0, (.ofNat (nat_lit 0)))]), (nat_lit 8, nat_lit 2, [(nat_lit 0, (.ofNat (nat_lit 0))), (nat_lit 0, (.ofNat (nat_lit 99)))]), (nat_lit 8, nat_lit 1, []), (nat_lit 5, nat_lit 1, [(nat_lit 3, (.ofNat (nat_lit 0))), (nat_lit 0, (.ofNat (nat_lit 1))), (nat_lit 0, (.ofNat (nat_lit 1)))]), (nat_lit 6, nat_lit 0, [(nat_lit 1, (.ofNat (nat_lit 0))), (nat_lit 0, (.ofNat (nat_lit 0)))]), (nat_lit 4, nat_lit 1, [(nat_lit 3, (.ofNat (nat_lit 0))), (nat_lit 0, (.ofNat (nat_lit 1)))])],
  [(nat_lit 7, nat_lit 3, []), (nat_lit 6, nat_lit 1, [(nat_lit 0, (.ofNat (nat_lit 1))), (nat_lit 0, (.ofNat (nat_lit 1)))]), (nat_lit 5, nat_lit 0, [(nat_lit 4, (.ofNat (nat_lit 0))), (nat_lit 4, (.ofNat (nat_lit 0))), (nat_lit 5, (.ofNat (nat_lit 0)))]), (nat_lit 4, nat_lit 0, [(nat_lit 0, (.ofNat (nat_lit 0))), (nat_lit 0, (.ofNat (nat_lit 11)))]), (nat_lit 0, nat_lit 1, [(nat_lit 0, (.ofNat (nat_lit 4))), (nat_lit 0, (.ofNat (nat_lit 1)))]), (nat_lit 6, nat_lit 1, [(nat_lit 3, (.ofNat (nat_lit 0))), (nat_lit 0, (.ofNat (nat_lit 0)))]), (nat_lit 8, nat_lit 2, [(nat_lit 0, (.ofNat (nat_lit 0))), (nat_lit 0, (.ofNat (nat_lit 99)))]), (nat_lit 8, nat_lit 1, []), (nat_lit 5, nat_lit 1, [(nat_lit 3, (.ofNat (nat_lit 0))), (nat_lit 0, (.ofNat (nat_lit 1))), (nat_lit 0, (.ofNat (nat_lit 1)))]), (nat_lit 6, nat_lit 0, [(nat_lit 1, (.ofNat (nat_lit 0))), (nat_lit 0, (.ofNat (nat_lit 0)))]), (nat_lit 4, nat_lit 1, [(nat_lit 3, (.ofNat (nat_lit 0))), (nat_lit 0, (.ofNat (nat_lit 1)))])],
  [(nat_lit 7, nat_lit 2, [(nat_lit 0, (.ofNat (nat_lit 0)))]), (nat_lit 6, nat_lit 0, [(nat_lit 3, (.ofNat (nat_lit 0))), (nat_lit 0, (.ofNat (nat_lit 0)))]), (nat_lit 8, nat_lit 2, [(nat_lit 0, (.ofNat (nat_lit 0))), (nat_lit 0, (.ofNat (nat_lit 99)))]), (nat_lit 8, nat_lit 1, []), (nat_lit 5, nat_lit 1, [(nat_lit 3, (.ofNat (nat_lit 0))), (nat_lit 0, (.ofNat (nat_lit 1))), (nat_lit 0, (.ofNat (nat_lit 1)))]), (nat_lit 6, nat_lit 0, [(nat_lit 1, (.ofNat (nat_lit 0))), (nat_lit 0, (.ofNat (nat_lit 0)))]), (nat_lit 4, nat_lit 1, [(nat_lit 3, (.ofNat (nat_lit 0))), (nat_lit 0, (.ofNat (nat_lit 1)))])],
  [(nat_lit 7, nat_lit 2, [(nat_lit 2, (.ofNat (nat_lit 0)))]), (nat_lit 8, nat_lit 0, [(nat_lit 0, (.ofNat (nat_lit 3)))]), (nat_lit 6, nat_lit 1, [(nat_lit 1, (.ofNat (nat_lit 0))), (nat_lit 0, (.ofNat (nat_lit 0)))]), (nat_lit 4, nat_lit 1, [(nat_lit 3, (.ofNat (nat_lit 0))), (nat_lit 0, (.ofNat (nat_lit 1)))])]]
def zEn_onceLine1 : List (List zK) := [[(nat_lit 13, nat_lit 1, []), (nat_lit 5, nat_lit 1, [(nat_lit 3, (.ofNat (nat_lit 0))), (nat_lit 0, (.ofNat (nat_lit 1))), (nat_lit 0, (.ofNat (nat_lit 1)))]), (nat_lit 6, nat_lit 0, [(nat_lit 1, (.ofNat (nat_lit 0))), (nat_lit 0, (.ofNat (nat_lit 0)))]), (nat_lit 4, nat_lit 1, [(nat_lit 3, (.ofNat (nat_lit 0))), (nat_lit 0, (.ofNat (nat_lit 1)))])],
  [(nat_lit 13, nat_lit 2, [(nat_lit 0, (.ofNat (nat_lit 0))), (nat_lit 0, (.ofNat (nat_lit 99)))]), (nat_lit 8, nat_lit 1, []), (nat_lit 5, nat_lit 1, [(nat_lit 3, (.ofNat (nat_lit 0))), (nat_lit 0, (.ofNat (nat_lit 1))), (nat_lit 0, (.ofNat (nat_lit 1)))]), (nat_lit 6, nat_lit 0, [(nat_lit 1, (.ofNat (nat_lit 0))), (nat_lit 0, (.ofNat (nat_lit 0)))]), (nat_lit 4, nat_lit 1, [(nat_lit 3, (.ofNat (nat_lit 0))), (nat_lit 0, (.ofNat (nat_lit 1)))])],
  [(nat_lit 13, nat_lit 2, [(nat_lit 0, (.ofNat (nat_lit 0))), (nat_lit 0, (.ofNat (nat_lit 9)))]), (nat_lit 6, nat_lit 0, [(nat_lit 0, (.ofNat (nat_lit 1))), (nat_lit 0, (.ofNat (nat_lit 1)))]), (nat_lit 5, nat_lit 0, [(nat_lit 4, (.ofNat (nat_lit 0))), (nat_lit 4, (.ofNat (nat_lit 0))), (nat_lit 5, (.ofNat (nat_lit 0)))]), (nat_lit 4, nat_lit 0, [(nat_lit 0, (.ofNat (nat_lit 0))), (nat_lit 0, (.ofNat (nat_lit 11)))]), (nat_lit 0, nat_lit 1, [(nat_lit 0, (.ofNat (nat_lit 4))), (nat_lit 0, (.ofNat (nat_lit 1)))]), (nat_lit 6, nat_lit 1, [(nat_lit 3, (.ofNat (nat_lit 0))), (nat_lit 0, (.ofNat (nat_lit 0)))]), (nat_lit 8, nat_lit 2, [(nat_lit 0, (.ofNat (nat_lit 0))), (nat_lit 0, (.ofNat (nat_lit 99)))]), (nat_lit 8, nat_lit 1, []), (nat_lit 5, nat_lit 1, [(nat_lit 3, (.ofNat (nat_lit 0))), (nat_lit 0, (.ofNat (nat_lit 1))), (nat_lit 0, (.ofNat (nat_lit 1)))]), (nat_lit 6, nat_lit 0, [(nat_lit 1, (.ofNat (nat_lit 0))), (nat_lit 0, (.ofNat (nat_lit 0)))]), (nat_lit 4, nat_lit 1, [(nat_lit 3, (.ofNat (nat_lit 0))), (nat_lit 0, (.ofNat (nat_lit 1)))])],
  [(nat_lit 11, nat_lit 0, [(nat_lit 0, (.ofNat (nat_lit 1)))]), (nat_lit 5, nat_lit 0, [(nat_lit 4, (.ofNat (nat_lit 0))), (nat_lit 0, (.ofNat (nat_lit 7))), (nat_lit 7, (.ofNat (nat_lit 0)))]), (nat_lit 4, nat_lit 0, [(nat_lit 0, (.ofNat (nat_lit 0))), (nat_lit 0, (.ofNat (nat_lit 11)))]), (nat_lit 6, nat_lit 1, [(nat_lit 6, (.ofNat (nat_lit 0))), (nat_lit 0, (.ofNat (nat_lit 0)))]), (nat_lit 8, nat_lit 2, [(nat_lit 0, (.ofNat (nat_lit 0))), (nat_lit 0, (.ofNat (nat_lit 9)))]), (nat_lit 6, nat_lit 0, [(nat_lit 0, (.ofNat (nat_lit 1))), (nat_lit 0, (.ofNat (nat_lit 1)))]), (nat_lit 5, nat_lit 0, [(nat_lit 4, (.ofNat (nat_lit 0))), (nat_lit 4, (.ofNat (nat_lit 0))), (nat_lit 5, (.ofNat (nat_lit 0)))]), (nat_lit 4, nat_lit 0, [(nat_lit 0, (.ofNat (nat_lit 0))), (nat_lit 0, (.ofNat (nat_lit 11)))]), (nat_lit 0, nat_lit 1, [(nat_lit 0, (.ofNat (nat_lit 4))), (nat_lit 0, (.ofNat (nat_lit 1)))]), (nat_lit 6, nat_lit 1, [(nat_lit 3, (.ofNat (nat_lit 0))), (nat_lit 0, (.ofNat (nat_lit 0)))]), (nat_lit 8, nat_lit 2, [(nat_lit 0, (.ofNat (nat_lit 0))), (nat_lit 0, (.ofNat (nat_lit 99)))]), (nat_lit 8, nat_lit 1, []), (nat_lit 5, nat_lit 1, [(nat_lit 3, (.ofNat (nat_lit 0))), (nat_lit 0, (.ofNat (nat_lit 1))), (nat_lit 0, (.ofNat (nat_lit 1)))]), (nat_lit 6, nat_lit 0, [(nat_lit 1, (.ofNat (nat_lit 0))), (nat_lit 0, (.ofNat (nat_lit 0)))]), (nat_lit 4, nat_lit 1, [(nat_lit 3, (.ofNat (nat_lit 0))), (nat_lit 0, (.ofNat (nat_lit 1)))])],
  [(nat_lit 11, nat_lit 0, [(nat_lit 0, (.ofNat (nat_lit 0)))]), (nat_lit 6, nat_lit 0, [(nat_lit 6, (.ofNat (nat_lit 0))), (nat_lit 0, (.ofNat (nat_lit 0)))]), (nat_lit 8, nat_lit 2, [(nat_lit 0, (.ofNat (nat_lit 0))), (nat_lit 0, (.ofNat (nat_lit 9)))]), (nat_lit 6, nat_lit 0, [(nat_lit 0, (.ofNat (nat_lit 1))), (nat_lit 0, (.ofNat (nat_lit 1)))]), (nat_lit 5, nat_lit 0, [(nat_lit 4, (.ofNat (nat_lit 0))), (nat_lit 4, (.ofNat (nat_lit 0))), (nat_lit 5, (.ofNat (nat_lit 0)))]), (nat_lit 4, nat_lit 0, [(nat_lit 0, (.ofNat (nat_lit 0))), (nat_lit 0, (.ofNat (nat_lit 11)))]), (nat_lit 0, nat_lit 1, [(nat_lit 0, (.ofNat (nat_lit 4))), (nat_lit 0, (.ofNat (nat_lit 1)))]), (nat_lit 6, nat_lit 1, [(nat_lit 3, (.ofNat (nat_lit 0))), (nat_lit 0, (.ofNat (nat_lit 0)))]), (nat_lit 8, nat_lit 2, [(nat_lit 0, (.ofNat (nat_lit 0))), (nat_lit 0, (.ofNat (nat_lit 99)))]), (nat_lit 8, nat_lit 1, []), (nat_lit 5, nat_lit 1, [(nat_lit 3, (.ofNat (nat_lit 0))), (nat_lit 0, (.ofNat (nat_lit 1))), (nat_lit 0, (.ofNat (nat_lit 1)))]), (nat_lit 6, nat_lit 0, [(nat_lit 1, (.ofNat (nat_lit 0))), (nat_lit 0, (.ofNat (nat_lit 0)))]), (nat_lit 4, nat_lit 1, [(nat_lit 3, (.ofNat (nat_lit 0))), (nat_lit 0, (.ofNat (nat_lit 1)))])],
  [(nat_lit 11, nat_lit 0, [(nat_lit 0, (.ofNat (nat_lit 0)))]), (nat_lit 6, nat_lit 0, [(nat_lit 3, (.ofNat (nat_lit 0))), (nat_lit 0, (.ofNat (nat_lit 0)))]), (nat_lit 8, nat_lit 2, [(nat_lit 0, (.ofNat (nat_lit 0))), (nat_lit 0, (.ofNat (nat_lit 99)))]), (nat_lit 8, nat_lit 1, []), (nat_lit 5, nat_lit 1, [(nat_lit 3, (.ofNat (nat_lit 0))), (nat_lit 0, (.ofNat (nat_lit 1))), (nat_lit 0, (.ofNat (nat_lit 1)))]), (nat_lit 6, nat_lit 0, [(nat_lit 1, (.ofNat (nat_lit 0))), (nat_lit 0, (.ofNat (nat_lit 0)))]), (nat_lit 4, nat_lit 1, [(nat_lit 3, (.ofNat (nat_lit 0))), (nat_lit 0, (.ofNat (nat_lit 1)))])],
  [(nat_lit 13, nat_lit 0, [(nat_lit 0, (.ofNat (nat_lit 3)))]), (nat_lit 6, nat_lit 1, [(nat_lit 1, (.ofNat (nat_lit 0))), (nat_lit 0, (.ofNat (nat_lit 0)))]), (nat_lit 4, nat_lit 1, [(nat_lit 3, (.ofNat (nat_lit 0))), (nat_lit 0, (.ofNat (nat_lit 1)))])],
  [(nat_lit 11, nat_lit 0, [(nat_lit 2, (.ofNat (nat_lit 0)))]), (nat_lit 8, nat_lit 0, [(nat_lit 0, (.ofNat (nat_lit 3)))]), (nat_lit 6, nat_lit 1, [(nat_lit 1, (.ofNat (nat_lit 0))), (nat_lit 0, (.ofNat (nat_lit 0)))]), (nat_lit 4, nat_lit 1, [(nat_lit 3, (.ofNat (nat_lit 0))), (nat_lit 0, (.ofNat (nat_lit 1)))])]]
def zFn_onceLine1 : List (List zK) := []
set_option maxHeartbeats 8000000 in
theorem zn_onceLine1_o0 {ro : Nat → List Int32} (η : zE) (hp : sP wl_n zTr zPn_onceLine1 [] η) (hpp : pPn_onceLine1 [] η) : ∀ x1 : Int, x1 = η 3 (Int.toNat 1) → zok 1 x1 → (x1 = 0) → ∀ η1 : zE, η1 = zup η 3 (Int.toNat 1) 1 → ((gC2 wl_n [(nat_lit 0, zPn_wrong, zOn_wrong, zMn_wrong), (nat_lit 1, zPn_token, zOn_token, zMn_token), (nat_lit 2, zPn_number, zOn_number, zMn_number)] pCn_onceLine1 qCn_onceLine1) 1).1 [] η1 := by
  have hk : ¬ η 0 8 = 0 := hpp.2
  intro x1 e1 r1 c1 η1 eη1
  replace e1 : x1 = η 3 1 := e1
  replace r1 : 0 ≤ x1 ∧ x1 ≤ 1 := r1
  have w0_0_7 : (0 : Int) ≤ η 0 7 ∧ η 0 7 ≤ 700 := wf_ok (a := 7) (b := 7) (z := (0, 700)) hp.1 (by decide +kernel) (Nat.le_refl _) (Nat.le_refl _)
  have v2 : zEq (η1 0 7) (η 0 7) := by rw [eη1]; exact (zup_ne (fun e _ => absurd e (by decide))).trans rfl
  have f0_7 : η1 0 7 = η 0 7 := v2
  have w0_0_6 : (0 : Int) ≤ η 0 6 ∧ η 0 6 ≤ 700 := wf_ok (a := 6) (b := 6) (z := (0, 700)) hp.1 (by decide +kernel) (Nat.le_refl _) (Nat.le_refl _)
  have v4 : zEq (η1 0 6) (η 0 6) := by rw [eη1]; exact (zup_ne (fun e _ => absurd e (by decide))).trans rfl
  have f0_6 : η1 0 6 = η 0 6 := v4
  have w0_0_8 : (0 : Int) ≤ η 0 8 ∧ η 0 8 ≤ 6 := wf_ok (a := 8) (b := 8) (z := (0, 6)) hp.1 (by decide +kernel) (Nat.le_refl _) (Nat.le_refl _)
  have v6 : zEq (η1 0 8) (η 0 8) := by rw [eη1]; exact (zup_ne (fun e _ => absurd e (by decide))).trans rfl
  have f0_8 : η1 0 8 = η 0 8 := v6
  have g1 : G_n η1 := by rw [eη1]; exact zGk_up gk_n hpp.1 (by decide +kernel)
  exact g1
