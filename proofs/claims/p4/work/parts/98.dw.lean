set_option maxHeartbeats 8000000 in
theorem zl_bind_o7 {ro : Nat → List Int32} (xs : List Int) (η0 : zE) (hp : sP wl_l zTr zPl_bind xs η0) (hpp : pPl_bind xs η0) (x1 : Int) (η : zE) (hI : zsI wl_l zTr zVl_bind zMl_bind η0 0 [x1] η) (hig : iCl_bind xs η0 0 [x1] η) : ∀ x2 : Int, x2 = η 0 (Int.toNat 41) → zok 0 x2 → (0 < x2) → ∀ x3 : Int, x3 = η 0 (Int.toNat 41) → zok 0 x3 → ∀ x4 : Int, x4 = zd 0 2 x3 1 → (0 : Int) ≤ x4 ∧ (x4 : Int) < 96 := by
  obtain ⟨⟨g0, j1, j2, j3, j4⟩, hw, hy, hk⟩ := hig
  have hk : η0 0 19 ≤ η 0 19 := hk
  have hw : η 0 45 = 0 := hw
  have hy : x1 = xs.getD 0 0 := hy
  have cn := cz_n (η := η) (η 0 41).toNat
  have cn1 := cz_n (η := η) (η 0 41 - 1).toNat
  have bd43 : (0 : Int) ≤ η 0 43 ∧ η 0 43 ≤ 8 := wf_ok (a := 43) (b := 43) (z := (0, 8)) hI.1.1 (by decide +kernel) (Nat.le_refl _) (Nat.le_refl _)
  have bd44 : (0 : Int) ≤ η 0 44 ∧ η 0 44 ≤ 64 := wf_ok (a := 44) (b := 44) (z := (0, 64)) hI.1.1 (by decide +kernel) (Nat.le_refl _) (Nat.le_refl _)
  have bd19 : (0 : Int) ≤ η 0 19 ∧ η 0 19 ≤ 64 := wf_ok (a := 19) (b := 19) (z := (0, 64)) hI.1.1 (by decide +kernel) (Nat.le_refl _) (Nat.le_refl _)
  intro x2 e2 r2 c1 x3 e3 r3 x4 e4
  replace e4 := zEq_i e4
  have bx1 : (1 : Int) ≤ x1 ∧ x1 ≤ 6 := hI.1.2.1.1
  replace e2 : x2 = η 0 41 := e2
  replace r2 : -2147483648 ≤ x2 ∧ x2 ≤ 2147483647 := r2
  replace e3 : x3 = η 0 41 := e3
  replace r3 : -2147483648 ≤ x3 ∧ x3 ≤ 2147483647 := r3
  first
  | replace e4 : x4 = x3 - 1 := zd_s2 (zEq_o e4) (by clear e4; exact ⟨by omega, by omega⟩)
  | clear e4
  have fmE : zFm zMl_bind η0 η := hI.2
  have fr22_0 : ∀ j, η 22 j = η 22 j := fun _ => rfl
  have fr22 : ∀ j, η 22 j = η 22 j := fun _ => rfl
  have f0_41 : η 0 41 = η 0 41 := rfl
  have w0_0_43 : (0 : Int) ≤ η 0 43 ∧ η 0 43 ≤ 8 := wf_ok (a := 43) (b := 43) (z := (0, 8)) hI.1.1 (by decide +kernel) (Nat.le_refl _) (Nat.le_refl _)
  have f0_43 : η 0 43 = η 0 43 := rfl
  have f0_42 : η 0 42 = η 0 42 := rfl
  have f0_45 : η 0 45 = η 0 45 := rfl
  have w0_0_19 : (0 : Int) ≤ η 0 19 ∧ η 0 19 ≤ 64 := wf_ok (a := 19) (b := 19) (z := (0, 64)) hI.1.1 (by decide +kernel) (Nat.le_refl _) (Nat.le_refl _)
  have f0_19 : η 0 19 = η 0 19 := rfl
  have w0_0_44 : (0 : Int) ≤ η 0 44 ∧ η 0 44 ≤ 64 := wf_ok (a := 44) (b := 44) (z := (0, 64)) hI.1.1 (by decide +kernel) (Nat.le_refl _) (Nat.le_refl _)
  have f0_44 : η 0 44 = η 0 44 := rfl
  exact ⟨by omega, by omega⟩
