set_option maxHeartbeats 8000000 in
theorem zl_bind_o1 {ro : Nat → List Int32} (xs : List Int) (η0 : zE) (hp : sP wl_l zTr zPl_bind xs η0) (hpp : pPl_bind xs η0) (x1 : Int) (η : zE) (hI : zsI wl_l zTr zVl_bind zMl_bind η0 0 [x1] η) (hig : iCl_bind xs η0 0 [x1] η) : ∀ x2 : Int, x2 = η 0 (Int.toNat 41) → zok 0 x2 → (0 < x2) → ∀ x3 : Int, x3 = η 0 (Int.toNat 41) → zok 0 x3 → ∀ x4 : Int, x4 = zd 0 2 x3 1 → ∀ x5 : Int, x5 = η 22 (Int.toNat x4) → zok 0 x5 → ∀ (x6 : Int) (η1 : zE), ((gC2 wl_l [(nat_lit 0, zPl_rank, zOl_rank, zMl_rank), (nat_lit 1, zPl_dropHeld, zOl_dropHeld, zMl_dropHeld), (nat_lit 2, zPl_grown, zOl_grown, zMl_grown)] pCl_bind qCl_bind) 0).2 [x5] η x6 η1 → (x1 ≤ x6) → ∀ x7 : Int, x7 = η1 0 (Int.toNat 41) → zok 0 x7 → ∀ x8 : Int, x8 = zd 0 2 x7 1 → ∀ η2 : zE, η2 = zup η1 0 (Int.toNat 41) x8 → ∀ x9 : Int, x9 = η2 0 (Int.toNat 41) → zok 0 x9 → ∀ x10 : Int, x10 = η2 22 (Int.toNat x9) → zok 0 x10 → (¬ x10 = 2) → ((gC2 wl_l [(nat_lit 0, zPl_rank, zOl_rank, zMl_rank), (nat_lit 1, zPl_dropHeld, zOl_dropHeld, zMl_dropHeld), (nat_lit 2, zPl_grown, zOl_grown, zMl_grown)] pCl_bind qCl_bind) 1).1 [] η2 := by
  obtain ⟨⟨g0, j1, j2, j3, j4⟩, hw, hy, hk⟩ := hig
  have hk : η0 0 19 ≤ η 0 19 := hk
  have hw : η 0 45 = 0 := hw
  have hy : x1 = xs.getD 0 0 := hy
  have cn := cz_n (η := η) (η 0 41).toNat
  have cn1 := cz_n (η := η) (η 0 41 - 1).toNat
  have bd43 : (0 : Int) ≤ η 0 43 ∧ η 0 43 ≤ 8 := wf_ok (a := 43) (b := 43) (z := (0, 8)) hI.1.1 (by decide +kernel) (Nat.le_refl _) (Nat.le_refl _)
  have bd44 : (0 : Int) ≤ η 0 44 ∧ η 0 44 ≤ 64 := wf_ok (a := 44) (b := 44) (z := (0, 64)) hI.1.1 (by decide +kernel) (Nat.le_refl _) (Nat.le_refl _)
  have bd19 : (0 : Int) ≤ η 0 19 ∧ η 0 19 ≤ 64 := wf_ok (a := 19) (b := 19) (z := (0, 64)) hI.1.1 (by decide +kernel) (Nat.le_refl _) (Nat.le_refl _)
  intro x2 e2 r2 c1 x3 e3 r3 x4 e4 x5 e5 r5 x6 η1 h6 c2 x7 e7 r7 x8 e8 η2 eη2 x9 e9 r9 x10 e10 r10 c3
  replace e4 := zEq_i e4
  replace e8 := zEq_i e8
  have k6 : sQ wl_l zTr zOl_rank zMl_rank [x5] η x6 η1 ∧ pQl_rank [x5] η x6 η1 := h6
  have bx1 : (1 : Int) ≤ x1 ∧ x1 ≤ 6 := hI.1.2.1.1
  replace e2 : x2 = η 0 41 := e2
  replace r2 : -2147483648 ≤ x2 ∧ x2 ≤ 2147483647 := r2
  replace e3 : x3 = η 0 41 := e3
  replace r3 : -2147483648 ≤ x3 ∧ x3 ≤ 2147483647 := r3
  first
  | replace e4 : x4 = x3 - 1 := zd_s2 (zEq_o e4) (by clear e4; exact ⟨by omega, by omega⟩)
  | clear e4
  replace e5 : x5 = η 22 (Int.toNat x4) := e5
  replace r5 : -2147483648 ≤ x5 ∧ x5 ≤ 2147483647 := r5
  try have rb5 : (0 : Int) ≤ η 22 (Int.toNat x4) ∧ η 22 (Int.toNat x4) ≤ 14 := wf_ok (a := 0) (b := 95) (z := (0, 14)) hI.1.1 (by decide +kernel) (Nat.zero_le _) (by omega)
  have c0_0_41 : η 0 41 = η 0 41 := rfl
  have w0_0_43 : (0 : Int) ≤ η 0 43 ∧ η 0 43 ≤ 8 := wf_ok (a := 43) (b := 43) (z := (0, 8)) hI.1.1 (by decide +kernel) (Nat.le_refl _) (Nat.le_refl _)
  have c0_0_43 : η 0 43 = η 0 43 := rfl
  have c0_0_42 : η 0 42 = η 0 42 := rfl
  have c0_0_45 : η 0 45 = η 0 45 := rfl
  have w0_0_19 : (0 : Int) ≤ η 0 19 ∧ η 0 19 ≤ 64 := wf_ok (a := 19) (b := 19) (z := (0, 64)) hI.1.1 (by decide +kernel) (Nat.le_refl _) (Nat.le_refl _)
  have c0_0_19 : η 0 19 = η 0 19 := rfl
  have w0_0_44 : (0 : Int) ≤ η 0 44 ∧ η 0 44 ≤ 64 := wf_ok (a := 44) (b := 44) (z := (0, 64)) hI.1.1 (by decide +kernel) (Nat.le_refl _) (Nat.le_refl _)
  have c0_0_44 : η 0 44 = η 0 44 := rfl
  have bx6 : (0 : Int) ≤ x6 ∧ x6 ≤ 6 := k6.1.2.1
  have v7 : zEq (η1 0 41) (η 0 41) := (k6.1.2.2.2.1 0 41 (by decide +kernel)).trans rfl
  replace e7 : x7 = η 0 41 := e7.trans v7
  replace r7 : -2147483648 ≤ x7 ∧ x7 ≤ 2147483647 := r7
  first
  | replace e8 : x8 = x7 - 1 := zd_s2 (zEq_o e8) (by clear e8; exact ⟨by omega, by omega⟩)
  | clear e8
  have c1_0_41 : η1 0 41 = η 0 41 := v7
  have v8 : zEq (η2 0 41) (x8) := by rw [eη2]; exact zup_eq
  replace e9 : x9 = x8 := e9.trans v8
  replace r9 : -2147483648 ≤ x9 ∧ x9 ≤ 2147483647 := r9
  have v10 : zEq (η1 22 (Int.toNat x9)) (η 22 (Int.toNat x9)) := (k6.1.2.2.2.1 22 _ (zinr_not (by decide +kernel))).trans rfl
  have v11 : zEq (η2 22 (Int.toNat x9)) (η 22 (Int.toNat x9)) := by rw [eη2]; exact (zup_ne (fun e _ => absurd e (by decide))).trans v10
  replace e10 : x10 = η 22 (Int.toNat x9) := e10.trans v11
  replace r10 : -2147483648 ≤ x10 ∧ x10 ≤ 2147483647 := r10
  try have rb10 : (0 : Int) ≤ η 22 (Int.toNat x9) ∧ η 22 (Int.toNat x9) ≤ 14 := wf_ok (a := 0) (b := 95) (z := (0, 14)) hI.1.1 (by decide +kernel) (Nat.zero_le _) (by omega)
  have fm1 : zFm zMl_bind η0 η1 := zFm_tr2 hI.2 k6.1.2.2.2.1 (by decide +kernel)
  have fm2 : zFm zMl_bind η0 η2 := by rw [eη2]; exact zFm_up fm1 rfl
  have fmE : zFm zMl_bind η0 η2 := fm2
  have fr22_0 : ∀ j, η 22 j = η 22 j := fun _ => rfl
  have v12 : ∀ j, η1 22 j = η 22 j := fun j => k6.1.2.2.2.1 22 _ (zinr_not (by decide +kernel))
  have fr22_1 : ∀ j, η1 22 j = η 22 j := v12
  have v13 : ∀ j, η2 22 j = η 22 j := fun j => by rw [eη2]; exact (zup_ne (fun e _ => absurd e (by decide))).trans (v12 j)
  have fr22_2 : ∀ j, η2 22 j = η 22 j := v13
  have fr22 : ∀ j, η2 22 j = η 22 j := v13
  have f0_41 : η2 0 41 = x8 := v8
  have v14 : zEq (η1 0 43) (η 0 43) := (k6.1.2.2.2.1 0 43 (by decide +kernel)).trans rfl
  have v15 : zEq (η2 0 43) (η 0 43) := by rw [eη2]; exact (zup_ne (fun _ e => absurd e (by decide))).trans v14
  have f0_43 : η2 0 43 = η 0 43 := v15
  have v16 : zEq (η1 0 42) (η 0 42) := (k6.1.2.2.2.1 0 42 (by decide +kernel)).trans rfl
  have v17 : zEq (η2 0 42) (η 0 42) := by rw [eη2]; exact (zup_ne (fun _ e => absurd e (by decide))).trans v16
  have f0_42 : η2 0 42 = η 0 42 := v17
  have v18 : zEq (η1 0 45) (η 0 45) := (k6.1.2.2.2.1 0 45 (by decide +kernel)).trans rfl
  have v19 : zEq (η2 0 45) (η 0 45) := by rw [eη2]; exact (zup_ne (fun _ e => absurd e (by decide))).trans v18
  have f0_45 : η2 0 45 = η 0 45 := v19
  have v20 : zEq (η1 0 19) (η 0 19) := (k6.1.2.2.2.1 0 19 (by decide +kernel)).trans rfl
  have v21 : zEq (η2 0 19) (η 0 19) := by rw [eη2]; exact (zup_ne (fun _ e => absurd e (by decide))).trans v20
  have f0_19 : η2 0 19 = η 0 19 := v21
  have v22 : zEq (η1 0 44) (η 0 44) := (k6.1.2.2.2.1 0 44 (by decide +kernel)).trans rfl
  have v23 : zEq (η2 0 44) (η 0 44) := by rw [eη2]; exact (zup_ne (fun _ e => absurd e (by decide))).trans v22
  have f0_44 : η2 0 44 = η 0 44 := v23
  have q5 : 2 ≤ x5 := k6.2.2.1 (Int.le_trans bx1.1 c2)
  have q94 : x9 = x4 := by rw [e9, e8, e7, e4, e3]
  have q10 : x10 = x5 := by rw [e10, e5, q94]
  have G2 : G0_l η2 := by rw [eη2]; exact zGk_upc g0k_l k6.2.1.1 (by decide +kernel)
  have PB := pop_b (η2 := η2) (t := x5) ⟨g0, j1, j2, j3, j4⟩ hw (by rw [← e2]; exact c1) bd43.2 bd44.2 bd19.1 G2 (f0_41.trans (by rw [e8, e7])) f0_43 f0_42 f0_45 f0_19 f0_44 fr22_2 (by rw [e5, e4, e3])
  have P2 := PB.1 (ne2_l q5 q10 c3)
  exact ⟨⟨1, P2.1⟩, Int.le_trans (by decide) P2.2.1, P2.2.2⟩
