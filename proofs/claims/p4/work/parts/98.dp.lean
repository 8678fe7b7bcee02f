set_option maxHeartbeats 8000000 in
theorem zl_bind_o0 {ro : Nat → List Int32} (xs : List Int) (η0 : zE) (hp : sP wl_l zTr zPl_bind xs η0) (hpp : pPl_bind xs η0) (x1 : Int) (η : zE) (hI : zsI wl_l zTr zVl_bind zMl_bind η0 0 [x1] η) (hig : iCl_bind xs η0 0 [x1] η) : ∀ x2 : Int, x2 = η 0 (Int.toNat 41) → zok 0 x2 → (0 < x2) → ∀ x3 : Int, x3 = η 0 (Int.toNat 41) → zok 0 x3 → ∀ x4 : Int, x4 = zd 0 2 x3 1 → ∀ x5 : Int, x5 = η 22 (Int.toNat x4) → zok 0 x5 → ∀ (x6 : Int) (η1 : zE), ((gC2 wl_l [(nat_lit 0, zPl_rank, zOl_rank, zMl_rank), (nat_lit 1, zPl_dropHeld, zOl_dropHeld, zMl_dropHeld), (nat_lit 2, zPl_grown, zOl_grown, zMl_grown)] pCl_bind qCl_bind) 0).2 [x5] η x6 η1 → (x6 < x1) → (fun (_ : Nat) (y : Int) (η' : zE) => pQl_bind xs η0 y η') 0 0 η1 := by
  obtain ⟨⟨g0, j1, j2, j3, j4⟩, hw, hy, hk⟩ := hig
  have hk : η0 0 19 ≤ η 0 19 := hk
  have hw : η 0 45 = 0 := hw
  have hy : x1 = xs.getD 0 0 := hy
  have cn := cz_n (η := η) (η 0 41).toNat
  have cn1 := cz_n (η := η) (η 0 41 - 1).toNat
  have bd43 : (0 : Int) ≤ η 0 43 ∧ η 0 43 ≤ 8 := wf_ok (a := 43) (b := 43) (z := (0, 8)) hI.1.1 (by decide +kernel) (Nat.le_refl _) (Nat.le_refl _)
  have bd44 : (0 : Int) ≤ η 0 44 ∧ η 0 44 ≤ 64 := wf_ok (a := 44) (b := 44) (z := (0, 64)) hI.1.1 (by decide +kernel) (Nat.le_refl _) (Nat.le_refl _)
  have bd19 : (0 : Int) ≤ η 0 19 ∧ η 0 19 ≤ 64 := wf_ok (a := 19) (b := 19) (z := (0, 64)) hI.1.1 (by decide +kernel) (Nat.le_refl _) (Nat.le_refl _)
  intro x2 e2 r2 c1 x3 e3 r3 x4 e4 x5 e5 r5 x6 η1 h6 c2
  replace e4 := zEq_i e4
  have k6 : sQ wl_l zTr zOl_rank zMl_rank [x5] η x6 η1 ∧ pQl_rank [x5] η x6 η1 := h6
  have bx1 : (1 : Int) ≤ x1 ∧ x1 ≤ 6 := hI.1.2.1.1
  replace e2 : x2 = η 0 41 := e2
  replace r2 : -2147483648 ≤ x2 ∧ x2 ≤ 2147483647 := r2
  replace e3 : x3 = η 0 41 := e3
  replace r3 : -2147483648 ≤ x3 ∧ x3 ≤ 2147483647 := r3
  first
  | replace e4 : x4 = x3 - 1 := zd_s2 (zEq_o e4) (by clear e4; exact ⟨by omega, by omega⟩)
  | clear e4
  replace e5 : x5 = η 22 (Int.toNat x4) := e5
  replace r5 : -2147483648 ≤ x5 ∧ x5 ≤ 2147483647 := r5
  try have rb5 : (0 : Int) ≤ η 22 (Int.toNat x4) ∧ η 22 (Int.toNat x4) ≤ 14 := wf_ok (a := 0) (b := 95) (z := (0, 14)) hI.1.1 (by decide +kernel) (Nat.zero_le _) (by omega)
  have c0_0_41 : η 0 41 = η 0 41 := rfl
  have w0_0_43 : (0 : Int) ≤ η 0 43 ∧ η 0 43 ≤ 8 := wf_ok (a := 43) (b := 43) (z := (0, 8)) hI.1.1 (by decide +kernel) (Nat.le_refl _) (Nat.le_refl _)
  have c0_0_43 : η 0 43 = η 0 43 := rfl
  have c0_0_42 : η 0 42 = η 0 42 := rfl
  have c0_0_45 : η 0 45 = η 0 45 := rfl
  have w0_0_19 : (0 : Int) ≤ η 0 19 ∧ η 0 19 ≤ 64 := wf_ok (a := 19) (b := 19) (z := (0, 64)) hI.1.1 (by decide +kernel) (Nat.le_refl _) (Nat.le_refl _)
  have c0_0_19 : η 0 19 = η 0 19 := rfl
  have w0_0_44 : (0 : Int) ≤ η 0 44 ∧ η 0 44 ≤ 64 := wf_ok (a := 44) (b := 44) (z := (0, 64)) hI.1.1 (by decide +kernel) (Nat.le_refl _) (Nat.le_refl _)
  have c0_0_44 : η 0 44 = η 0 44 := rfl
  have bx6 : (0 : Int) ≤ x6 ∧ x6 ≤ 6 := k6.1.2.1
  have fm1 : zFm zMl_bind η0 η1 := zFm_tr2 hI.2 k6.1.2.2.2.1 (by decide +kernel)
  have fmE : zFm zMl_bind η0 η1 := fm1
  have fr22_0 : ∀ j, η 22 j = η 22 j := fun _ => rfl
  have v7 : ∀ j, η1 22 j = η 22 j := fun j => k6.1.2.2.2.1 22 _ (zinr_not (by decide +kernel))
  have fr22_1 : ∀ j, η1 22 j = η 22 j := v7
  have fr22 : ∀ j, η1 22 j = η 22 j := v7
  have v8 : zEq (η1 0 41) (η 0 41) := (k6.1.2.2.2.1 0 41 (by decide +kernel)).trans rfl
  have f0_41 : η1 0 41 = η 0 41 := v8
  have v9 : zEq (η1 0 43) (η 0 43) := (k6.1.2.2.2.1 0 43 (by decide +kernel)).trans rfl
  have f0_43 : η1 0 43 = η 0 43 := v9
  have v10 : zEq (η1 0 42) (η 0 42) := (k6.1.2.2.2.1 0 42 (by decide +kernel)).trans rfl
  have f0_42 : η1 0 42 = η 0 42 := v10
  have v11 : zEq (η1 0 45) (η 0 45) := (k6.1.2.2.2.1 0 45 (by decide +kernel)).trans rfl
  have f0_45 : η1 0 45 = η 0 45 := v11
  have v12 : zEq (η1 0 19) (η 0 19) := (k6.1.2.2.2.1 0 19 (by decide +kernel)).trans rfl
  have f0_19 : η1 0 19 = η 0 19 := v12
  have v13 : zEq (η1 0 44) (η 0 44) := (k6.1.2.2.2.1 0 44 (by decide +kernel)).trans rfl
  have f0_44 : η1 0 44 = η 0 44 := v13
  have q6 : 2 ≤ x5 → 1 ≤ x6 := k6.2.2.2
  exact ⟨k6.2.1, fun w => Or.inr (by
    have w : xs.getD 0 0 = 1 := w
    rw [fr22, f0_41, show η 0 41 - 1 = x4 by omega]
    omega), show η0 0 19 ≤ η1 0 19 by omega⟩
