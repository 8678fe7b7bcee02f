set_option maxHeartbeats 8000000 in
theorem zl_signs_o5 {ro : Nat → List Int32} (η : zE) (hp : sP wl_l zTr zPl_signs [] η) (hpp : pPl_signs [] η) : ∀ (x1 : Int) (η1 : zE), ((gC2 wl_l [(nat_lit 0, zPl_isSign, zOl_isSign, zMl_isSign), (nat_lit 1, zPl_wrong, zOl_wrong, zMl_wrong), (nat_lit 2, zPl_token, zOl_token, zMl_token), (nat_lit 3, zPl_isKey, zOl_isKey, zMl_isKey), (nat_lit 4, zPl_isCounted, zOl_isCounted, zMl_isCounted), (nat_lit 5, zPl_waitsFor, zOl_waitsFor, zMl_waitsFor), (nat_lit 6, zPl_rank, zOl_rank, zMl_rank), (nat_lit 7, zPl_bind, zOl_bind, zMl_bind)] pCl_signs qCl_signs) 0).2 [41] η x1 η1 → (¬ x1 = 0) → ∀ x2 : Int, x2 = η1 0 (Int.toNat 43) → zok 0 x2 → (0 < x2) → ∀ (x3 : Int) (η2 : zE), ((gC2 wl_l [(nat_lit 0, zPl_isSign, zOl_isSign, zMl_isSign), (nat_lit 1, zPl_wrong, zOl_wrong, zMl_wrong), (nat_lit 2, zPl_token, zOl_token, zMl_token), (nat_lit 3, zPl_isKey, zOl_isKey, zMl_isKey), (nat_lit 4, zPl_isCounted, zOl_isCounted, zMl_isCounted), (nat_lit 5, zPl_waitsFor, zOl_waitsFor, zMl_waitsFor), (nat_lit 6, zPl_rank, zOl_rank, zMl_rank), (nat_lit 7, zPl_bind, zOl_bind, zMl_bind)] pCl_signs qCl_signs) 7).2 [1] η1 x3 η2 → ∀ x4 : Int, x4 = η2 0 (Int.toNat 41) → zok 0 x4 → ∀ x5 : Int, x5 = zd 0 2 x4 1 → ∀ η3 : zE, η3 = zup η2 0 (Int.toNat 41) x5 → ∀ x6 : Int, x6 = η3 0 (Int.toNat 43) → zok 0 x6 → ∀ x7 : Int, x7 = zd 0 2 x6 1 → ∀ η4 : zE, η4 = zup η3 0 (Int.toNat 43) x7 → ∀ (x8 : Int) (η5 : zE), ((gC2 wl_l [(nat_lit 0, zPl_isSign, zOl_isSign, zMl_isSign), (nat_lit 1, zPl_wrong, zOl_wrong, zMl_wrong), (nat_lit 2, zPl_token, zOl_token, zMl_token), (nat_lit 3, zPl_isKey, zOl_isKey, zMl_isKey), (nat_lit 4, zPl_isCounted, zOl_isCounted, zMl_isCounted), (nat_lit 5, zPl_waitsFor, zOl_waitsFor, zMl_waitsFor), (nat_lit 6, zPl_rank, zOl_rank, zMl_rank), (nat_lit 7, zPl_bind, zOl_bind, zMl_bind)] pCl_signs qCl_signs) 2).2 [] η4 x8 η5 → (fun (_ : Nat) (y : Int) (η' : zE) => pQl_signs [] η y η') 0 1 η5 := by
  have hw : η 0 45 = 0 := hpp.2.1
  have hr1 : 1 ≤ η 0 19 := hpp.2.2
  have bd43 : (0 : Int) ≤ η 0 43 ∧ η 0 43 ≤ 8 := wf_ok (a := 43) (b := 43) (z := (0, 8)) hp.1 (by decide +kernel) (Nat.le_refl _) (Nat.le_refl _)
  have bd44 : (0 : Int) ≤ η 0 44 ∧ η 0 44 ≤ 64 := wf_ok (a := 44) (b := 44) (z := (0, 64)) hp.1 (by decide +kernel) (Nat.le_refl _) (Nat.le_refl _)
  have bd19 : (0 : Int) ≤ η 0 19 ∧ η 0 19 ≤ 64 := wf_ok (a := 19) (b := 19) (z := (0, 64)) hp.1 (by decide +kernel) (Nat.le_refl _) (Nat.le_refl _)
  intro x1 η1 h1 c1 x2 e2 r2 c2 x3 η2 h3 x4 e4 r4 x5 e5 η3 eη3 x6 e6 r6 x7 e7 η4 eη4 x8 η5 h8
  replace e5 := zEq_i e5
  replace e7 := zEq_i e7
  have k1 : sQ wl_l zTr zOl_isSign zMl_isSign [41] η x1 η1 ∧ pQl_isSign [41] η x1 η1 := h1
  have k3 : sQ wl_l zTr zOl_bind zMl_bind [1] η1 x3 η2 ∧ pQl_bind [1] η1 x3 η2 := h3
  have k8 : sQ wl_l zTr zOl_token zMl_token [] η4 x8 η5 ∧ pQl_token [] η4 x8 η5 := h8
  have c0_0_41 : η 0 41 = η 0 41 := rfl
  have w0_0_43 : (0 : Int) ≤ η 0 43 ∧ η 0 43 ≤ 8 := wf_ok (a := 43) (b := 43) (z := (0, 8)) hp.1 (by decide +kernel) (Nat.le_refl _) (Nat.le_refl _)
  have c0_0_43 : η 0 43 = η 0 43 := rfl
  have c0_0_42 : η 0 42 = η 0 42 := rfl
  have c0_0_45 : η 0 45 = η 0 45 := rfl
  have w0_0_19 : (0 : Int) ≤ η 0 19 ∧ η 0 19 ≤ 64 := wf_ok (a := 19) (b := 19) (z := (0, 64)) hp.1 (by decide +kernel) (Nat.le_refl _) (Nat.le_refl _)
  have c0_0_19 : η 0 19 = η 0 19 := rfl
  have w0_0_44 : (0 : Int) ≤ η 0 44 ∧ η 0 44 ≤ 64 := wf_ok (a := 44) (b := 44) (z := (0, 64)) hp.1 (by decide +kernel) (Nat.le_refl _) (Nat.le_refl _)
  have c0_0_44 : η 0 44 = η 0 44 := rfl
  have w0_0_7 : (0 : Int) ≤ η 0 7 ∧ η 0 7 ≤ 700 := wf_ok (a := 7) (b := 7) (z := (0, 700)) hp.1 (by decide +kernel) (Nat.le_refl _) (Nat.le_refl _)
  have c0_0_7 : η 0 7 = η 0 7 := rfl
  have w0_0_6 : (0 : Int) ≤ η 0 6 ∧ η 0 6 ≤ 700 := wf_ok (a := 6) (b := 6) (z := (0, 700)) hp.1 (by decide +kernel) (Nat.le_refl _) (Nat.le_refl _)
  have c0_0_6 : η 0 6 = η 0 6 := rfl
  have w0_0_8 : (0 : Int) ≤ η 0 8 ∧ η 0 8 ≤ 6 := wf_ok (a := 8) (b := 8) (z := (0, 6)) hp.1 (by decide +kernel) (Nat.le_refl _) (Nat.le_refl _)
  have c0_0_8 : η 0 8 = η 0 8 := rfl
  have wb1 : wB wl_l zTr η1 := k1.1.1
  have bx1 : (0 : Int) ≤ x1 ∧ x1 ≤ 1 := k1.1.2.1
  have v9 : zEq (η1 0 43) (η 0 43) := (k1.1.2.2.2.1 0 43 (by decide +kernel)).trans rfl
  replace e2 : x2 = η 0 43 := e2.trans v9
  replace r2 : -2147483648 ≤ x2 ∧ x2 ≤ 2147483647 := r2
  have v10 : zEq (η1 0 41) (η 0 41) := (k1.1.2.2.2.1 0 41 (by decide +kernel)).trans rfl
  have c1_0_41 : η1 0 41 = η 0 41 := v10
  have c1_0_43 : η1 0 43 = η 0 43 := v9
  have v11 : zEq (η1 0 42) (η 0 42) := (k1.1.2.2.2.1 0 42 (by decide +kernel)).trans rfl
  have c1_0_42 : η1 0 42 = η 0 42 := v11
  have v12 : zEq (η1 0 45) (η 0 45) := (k1.1.2.2.2.1 0 45 (by decide +kernel)).trans rfl
  have c1_0_45 : η1 0 45 = η 0 45 := v12
  have v13 : zEq (η1 0 19) (η 0 19) := (k1.1.2.2.2.1 0 19 (by decide +kernel)).trans rfl
  have c1_0_19 : η1 0 19 = η 0 19 := v13
  have v14 : zEq (η1 0 44) (η 0 44) := (k1.1.2.2.2.1 0 44 (by decide +kernel)).trans rfl
  have c1_0_44 : η1 0 44 = η 0 44 := v14
  have v15 : zEq (η1 0 7) (η 0 7) := (k1.1.2.2.2.1 0 7 (by decide +kernel)).trans rfl
  have c1_0_7 : η1 0 7 = η 0 7 := v15
  have v16 : zEq (η1 0 6) (η 0 6) := (k1.1.2.2.2.1 0 6 (by decide +kernel)).trans rfl
  have c1_0_6 : η1 0 6 = η 0 6 := v16
  have v17 : zEq (η1 0 8) (η 0 8) := (k1.1.2.2.2.1 0 8 (by decide +kernel)).trans rfl
  have c1_0_8 : η1 0 8 = η 0 8 := v17
  have wb2 : wB wl_l zTr η2 := k3.1.1
  have bx3 : (0 : Int) ≤ x3 ∧ x3 ≤ 0 := k3.1.2.1
  have v18 : zEq (η2 0 43) (η 0 43) := (k3.1.2.2.2.1 0 43 (by decide +kernel)).trans v9
  have pb2 : η2 0 43 = η 0 43 := v18
  have pw2 : 1 ≤ η2 0 41 ∧ η2 22 (η2 0 41 - 1).toNat ≤ 1 := by
    obtain ⟨j1, j2, j3, j4⟩ := k3.2.1.2
    rcases k3.2.2.1 rfl with h | h
    · exfalso
      rw [h] at j2
      have : cz_l η2 (Int.toNat 0) = 0 := rfl
      omega
    · refine ⟨?_, h⟩
      by_cases q : η2 0 41 = 0
      · exfalso
        rw [q] at j2
        have : cz_l η2 (Int.toNat 0) = 0 := rfl
        omega
      · omega
  have pq2 : η2 0 41 ≤ 96 := by
    obtain ⟨j1, j2, j3, j4⟩ := k3.2.1.2
    have b1 : (0 : Int) ≤ η2 0 44 ∧ η2 0 44 ≤ 64 := wf_ok (a := 44) (b := 44) (z := (0, 64)) k3.1.1 (by decide +kernel) (Nat.le_refl _) (Nat.le_refl _)
    have b2 : (0 : Int) ≤ η2 0 43 ∧ η2 0 43 ≤ 8 := wf_ok (a := 43) (b := 43) (z := (0, 8)) k3.1.1 (by decide +kernel) (Nat.le_refl _) (Nat.le_refl _)
    have b3 : (0 : Int) ≤ η2 0 19 ∧ η2 0 19 ≤ 64 := wf_ok (a := 19) (b := 19) (z := (0, 64)) k3.1.1 (by decide +kernel) (Nat.le_refl _) (Nat.le_refl _)
    omega
  replace e4 : x4 = η2 0 41 := e4
  replace r4 : -2147483648 ≤ x4 ∧ x4 ≤ 2147483647 := r4
  first
  | replace e5 : x5 = x4 - 1 := zd_s2 (zEq_o e5) (by clear e5; exact ⟨by omega, by omega⟩)
  | clear e5
  have c2_0_41 : η2 0 41 = η2 0 41 := rfl
  have wb3 : wB wl_l zTr η3 := by rw [eη3]; exact wk_ok (a := 41) (b := 41) (z := ((-2147483648), 2147483647)) zTr_k (GR := []) wb2 (by decide +kernel) (by decide) (by decide) (show ((-2147483648) : Int) ≤ x5 by omega) (show x5 ≤ (2147483647 : Int) by omega)
  have v20 : zEq (η3 0 43) (η 0 43) := by rw [eη3]; exact (zup_ne (fun _ e => absurd e (by decide))).trans v18
  replace e6 : x6 = η 0 43 := e6.trans v20
  replace r6 : -2147483648 ≤ x6 ∧ x6 ≤ 2147483647 := r6
  first
  | replace e7 : x7 = x6 - 1 := zd_s2 (zEq_o e7) (by clear e7; exact ⟨by omega, by omega⟩)
  | clear e7
  have c3_0_43 : η3 0 43 = η 0 43 := v20
  have wb4 : wB wl_l zTr η4 := by rw [eη4]; exact wk_ok (a := 43) (b := 43) (z := (0, 8)) zTr_k (GR := []) wb3 (by decide +kernel) (by decide) (by decide) (show (0 : Int) ≤ x7 by omega) (show x7 ≤ (8 : Int) by omega)
  have v21 : zEq (η3 0 41) (x5) := by rw [eη3]; exact zup_eq
  have v22 : zEq (η4 0 41) (x5) := by rw [eη4]; exact (zup_ne (fun _ e => absurd e (by decide))).trans v21
  have c4_0_41 : η4 0 41 = x5 := v22
  have v23 : zEq (η4 0 43) (x7) := by rw [eη4]; exact zup_eq
  have c4_0_43 : η4 0 43 = x7 := v23
  have v25 : zEq (η3 0 42) (η2 0 42) := by rw [eη3]; exact (zup_ne (fun _ e => absurd e (by decide))).trans rfl
  have v26 : zEq (η4 0 42) (η2 0 42) := by rw [eη4]; exact (zup_ne (fun _ e => absurd e (by decide))).trans v25
  have c4_0_42 : η4 0 42 = η2 0 42 := v26
  have v27 : zEq (η2 0 45) (η 0 45) := (k3.1.2.2.2.1 0 45 (by decide +kernel)).trans v12
  have v28 : zEq (η3 0 45) (η 0 45) := by rw [eη3]; exact (zup_ne (fun _ e => absurd e (by decide))).trans v27
  have v29 : zEq (η4 0 45) (η 0 45) := by rw [eη4]; exact (zup_ne (fun _ e => absurd e (by decide))).trans v28
  have c4_0_45 : η4 0 45 = η 0 45 := v29
  have w2_0_19 : (0 : Int) ≤ η2 0 19 ∧ η2 0 19 ≤ 64 := wf_ok (a := 19) (b := 19) (z := (0, 64)) k3.1.1 (by decide +kernel) (Nat.le_refl _) (Nat.le_refl _)
  have v31 : zEq (η3 0 19) (η2 0 19) := by rw [eη3]; exact (zup_ne (fun _ e => absurd e (by decide))).trans rfl
  have v32 : zEq (η4 0 19) (η2 0 19) := by rw [eη4]; exact (zup_ne (fun _ e => absurd e (by decide))).trans v31
  have c4_0_19 : η4 0 19 = η2 0 19 := v32
  have v33 : zEq (η2 0 44) (η 0 44) := (k3.1.2.2.2.1 0 44 (by decide +kernel)).trans v14
  have v34 : zEq (η3 0 44) (η 0 44) := by rw [eη3]; exact (zup_ne (fun _ e => absurd e (by decide))).trans v33
  have v35 : zEq (η4 0 44) (η 0 44) := by rw [eη4]; exact (zup_ne (fun _ e => absurd e (by decide))).trans v34
  have c4_0_44 : η4 0 44 = η 0 44 := v35
  have v36 : zEq (η2 0 7) (η 0 7) := (k3.1.2.2.2.1 0 7 (by decide +kernel)).trans v15
  have v37 : zEq (η3 0 7) (η 0 7) := by rw [eη3]; exact (zup_ne (fun _ e => absurd e (by decide))).trans v36
  have v38 : zEq (η4 0 7) (η 0 7) := by rw [eη4]; exact (zup_ne (fun _ e => absurd e (by decide))).trans v37
  have c4_0_7 : η4 0 7 = η 0 7 := v38
  have v39 : zEq (η2 0 6) (η 0 6) := (k3.1.2.2.2.1 0 6 (by decide +kernel)).trans v16
  have v40 : zEq (η3 0 6) (η 0 6) := by rw [eη3]; exact (zup_ne (fun _ e => absurd e (by decide))).trans v39
  have v41 : zEq (η4 0 6) (η 0 6) := by rw [eη4]; exact (zup_ne (fun _ e => absurd e (by decide))).trans v40
  have c4_0_6 : η4 0 6 = η 0 6 := v41
  have v42 : zEq (η2 0 8) (η 0 8) := (k3.1.2.2.2.1 0 8 (by decide +kernel)).trans v17
  have v43 : zEq (η3 0 8) (η 0 8) := by rw [eη3]; exact (zup_ne (fun _ e => absurd e (by decide))).trans v42
  have v44 : zEq (η4 0 8) (η 0 8) := by rw [eη4]; exact (zup_ne (fun _ e => absurd e (by decide))).trans v43
  have c4_0_8 : η4 0 8 = η 0 8 := v44
  have wb5 : wB wl_l zTr η5 := k8.1.1
  have bx8 : (0 : Int) ≤ x8 ∧ x8 ≤ 0 := k8.1.2.1
  have fm1 : zFm zMl_signs η η1 := zFm_tr2 zFm_rf k1.1.2.2.2.1 (by decide +kernel)
  have fm2 : zFm zMl_signs η η2 := zFm_tr2 fm1 k3.1.2.2.2.1 (by decide +kernel)
  have fm3 : zFm zMl_signs η η3 := by rw [eη3]; exact zFm_up fm2 rfl
  have fm4 : zFm zMl_signs η η4 := by rw [eη4]; exact zFm_up fm3 rfl
  have fm5 : zFm zMl_signs η η5 := zFm_tr2 fm4 k8.1.2.2.2.1 (by decide +kernel)
  have fmE : zFm zMl_signs η η5 := fm5
  have fr22_0 : ∀ j, η 22 j = η 22 j := fun _ => rfl
  have v45 : ∀ j, η1 22 j = η 22 j := fun j => k1.1.2.2.2.1 22 _ (zinr_not (by decide +kernel))
  have fr22_1 : ∀ j, η1 22 j = η 22 j := v45
  have v46 : ∀ j, η2 22 j = η 22 j := fun j => (k3.1.2.2.2.1 22 _ (zinr_not (by decide +kernel))).trans (v45 j)
  have fr22_2 : ∀ j, η2 22 j = η 22 j := v46
  have v47 : ∀ j, η3 22 j = η 22 j := fun j => by rw [eη3]; exact (zup_ne (fun e _ => absurd e (by decide))).trans (v46 j)
  have fr22_3 : ∀ j, η3 22 j = η 22 j := v47
  have v48 : ∀ j, η4 22 j = η 22 j := fun j => by rw [eη4]; exact (zup_ne (fun e _ => absurd e (by decide))).trans (v47 j)
  have fr22_4 : ∀ j, η4 22 j = η 22 j := v48
  have v49 : ∀ j, η5 22 j = η 22 j := fun j => (k8.1.2.2.2.1 22 _ (zinr_not (by decide +kernel))).trans (v48 j)
  have fr22_5 : ∀ j, η5 22 j = η 22 j := v49
  have fr22 : ∀ j, η5 22 j = η 22 j := v49
  have v50 : zEq (η5 0 41) (x5) := (k8.1.2.2.2.1 0 41 (by decide +kernel)).trans v22
  have f0_41 : η5 0 41 = x5 := v50
  have v51 : zEq (η5 0 43) (x7) := (k8.1.2.2.2.1 0 43 (by decide +kernel)).trans v23
  have f0_43 : η5 0 43 = x7 := v51
  have v52 : zEq (η5 0 42) (η2 0 42) := (k8.1.2.2.2.1 0 42 (by decide +kernel)).trans v26
  have f0_42 : η5 0 42 = η2 0 42 := v52
  have v53 : zEq (η5 0 45) (η 0 45) := (k8.1.2.2.2.1 0 45 (by decide +kernel)).trans v29
  have f0_45 : η5 0 45 = η 0 45 := v53
  have v54 : zEq (η5 0 19) (η2 0 19) := (k8.1.2.2.2.1 0 19 (by decide +kernel)).trans v32
  have f0_19 : η5 0 19 = η2 0 19 := v54
  have v55 : zEq (η5 0 44) (η 0 44) := (k8.1.2.2.2.1 0 44 (by decide +kernel)).trans v35
  have f0_44 : η5 0 44 = η 0 44 := v55
  have w5_0_7 : (0 : Int) ≤ η5 0 7 ∧ η5 0 7 ≤ 700 := wf_ok (a := 7) (b := 7) (z := (0, 700)) k8.1.1 (by decide +kernel) (Nat.le_refl _) (Nat.le_refl _)
  have f0_7 : η5 0 7 = η5 0 7 := rfl
  have v57 : zEq (η5 0 6) (η 0 6) := (k8.1.2.2.2.1 0 6 (by decide +kernel)).trans v41
  have f0_6 : η5 0 6 = η 0 6 := v57
  have w5_0_8 : (0 : Int) ≤ η5 0 8 ∧ η5 0 8 ≤ 6 := wf_ok (a := 8) (b := 8) (z := (0, 6)) k8.1.1 (by decide +kernel) (Nat.le_refl _) (Nat.le_refl _)
  have f0_8 : η5 0 8 = η5 0 8 := rfl
  have wbE : wB wl_l zTr η5 := wb5
  
  have I0 : H_l 0 0 0 η := hpp.1
  have I1 : H_l 0 0 0 η1 := k1.2.1
  have qk1 : η 0 8 = 4 := k1.2.2 c1
  have I2 : H_l 0 0 0 η2 := k3.2.1
  have qb3 : η1 0 19 ≤ η2 0 19 := k3.2.2.2
  have I3 : H_l 0 1 0 η3 := by rw [eη3]; exact h_eq (wa_pop I2 (pw2).1 (pw2).2 (by omega)) rfl (by omega) rfl
  have I4 : H_l 0 0 0 η4 := by rw [eη4]; exact h_eq (br_dn I3 (by omega)) rfl (by omega) rfl
  have I5 : H_l 0 0 0 η5 := k8.2.1
  have qt8 : ¬ η4 0 8 = 0 → 10 * (η5 0 6 - η5 0 7) + η5 0 8 < 10 * (η4 0 6 - η4 0 7) + η4 0 8 := k8.2.2
  refine ⟨I5.1, fun _ => ⟨I5, show 10 * (η5 0 6 - η5 0 7) + η5 0 8 < 10 * (η 0 6 - η 0 7) + η 0 8 by omega, fun w => ?_⟩⟩
  have w : η5 0 45 = 0 := w
  omega
set_option maxHeartbeats 8000000 in
theorem zl_signs_o6 {ro : Nat → List Int32} (xs : List Int) (η0 : zE) (hp : sP wl_l zTr zPl_signs xs η0) (hpp : pPl_signs xs η0) (η : zE) (hI : zsI wl_l zTr zVl_signs zMl_signs η0 0 [] η) (hig : iCl_signs xs η0 0 [] η) : ((gC2 wl_l [(nat_lit 0, zPl_isSign, zOl_isSign, zMl_isSign), (nat_lit 1, zPl_wrong, zOl_wrong, zMl_wrong), (nat_lit 2, zPl_token, zOl_token, zMl_token), (nat_lit 3, zPl_isKey, zOl_isKey, zMl_isKey), (nat_lit 4, zPl_isCounted, zOl_isCounted, zMl_isCounted), (nat_lit 5, zPl_waitsFor, zOl_waitsFor, zMl_waitsFor), (nat_lit 6, zPl_rank, zOl_rank, zMl_rank), (nat_lit 7, zPl_bind, zOl_bind, zMl_bind)] pCl_signs qCl_signs) 3).1 [10] η := by
  have hw : η 0 45 = 0 := hig.2.1
  have hr1 : 1 ≤ η 0 19 := hig.2.2.1
  have hs1 : η 0 7 = η0 0 7 := hig.2.2.2.1
  have hs2 : η 0 6 = η0 0 6 := hig.2.2.2.2.1
  have hs3 : η 0 8 = η0 0 8 := hig.2.2.2.2.2
  have kk : η 0 8 = 5 → 0 ≤ η 0 9 ∧ η 0 9 ≤ 5 := hig.1.1.1.2.1.2
  have bd43 : (0 : Int) ≤ η 0 43 ∧ η 0 43 ≤ 8 := wf_ok (a := 43) (b := 43) (z := (0, 8)) hI.1.1 (by decide +kernel) (Nat.le_refl _) (Nat.le_refl _)
  have bd44 : (0 : Int) ≤ η 0 44 ∧ η 0 44 ≤ 64 := wf_ok (a := 44) (b := 44) (z := (0, 64)) hI.1.1 (by decide +kernel) (Nat.le_refl _) (Nat.le_refl _)
  have bd19 : (0 : Int) ≤ η 0 19 ∧ η 0 19 ≤ 64 := wf_ok (a := 19) (b := 19) (z := (0, 64)) hI.1.1 (by decide +kernel) (Nat.le_refl _) (Nat.le_refl _)
  obtain ⟨u1, u2, u3, u4⟩ := hig.1.2
  have cn := cz_n (η := η) (η 0 41).toNat
  have fmE : zFm zMl_signs η0 η := hI.2
  have fr22_0 : ∀ j, η 22 j = η 22 j := fun _ => rfl
  have fr22 : ∀ j, η 22 j = η 22 j := fun _ => rfl
  have f0_41 : η 0 41 = η 0 41 := rfl
  have w0_0_43 : (0 : Int) ≤ η 0 43 ∧ η 0 43 ≤ 8 := wf_ok (a := 43) (b := 43) (z := (0, 8)) hI.1.1 (by decide +kernel) (Nat.le_refl _) (Nat.le_refl _)
  have f0_43 : η 0 43 = η 0 43 := rfl
  have f0_42 : η 0 42 = η 0 42 := rfl
  have f0_45 : η 0 45 = η 0 45 := rfl
  have w0_0_19 : (0 : Int) ≤ η 0 19 ∧ η 0 19 ≤ 64 := wf_ok (a := 19) (b := 19) (z := (0, 64)) hI.1.1 (by decide +kernel) (Nat.le_refl _) (Nat.le_refl _)
  have f0_19 : η 0 19 = η 0 19 := rfl
  have w0_0_44 : (0 : Int) ≤ η 0 44 ∧ η 0 44 ≤ 64 := wf_ok (a := 44) (b := 44) (z := (0, 64)) hI.1.1 (by decide +kernel) (Nat.le_refl _) (Nat.le_refl _)
  have f0_44 : η 0 44 = η 0 44 := rfl
  have w0_0_7 : (0 : Int) ≤ η 0 7 ∧ η 0 7 ≤ 700 := wf_ok (a := 7) (b := 7) (z := (0, 700)) hI.1.1 (by decide +kernel) (Nat.le_refl _) (Nat.le_refl _)
  have f0_7 : η 0 7 = η 0 7 := rfl
  have w0_0_6 : (0 : Int) ≤ η 0 6 ∧ η 0 6 ≤ 700 := wf_ok (a := 6) (b := 6) (z := (0, 700)) hI.1.1 (by decide +kernel) (Nat.le_refl _) (Nat.le_refl _)
  have f0_6 : η 0 6 = η 0 6 := rfl
  have w0_0_8 : (0 : Int) ≤ η 0 8 ∧ η 0 8 ≤ 6 := wf_ok (a := 8) (b := 8) (z := (0, 6)) hI.1.1 (by decide +kernel) (Nat.le_refl _) (Nat.le_refl _)
  have f0_8 : η 0 8 = η 0 8 := rfl
  have wbE : wB wl_l zTr η := hI.1.1
  
  have I0 : H_l 0 0 0 η := hig.1
  exact I0
set_option maxHeartbeats 8000000 in
theorem zl_signs_o7 {ro : Nat → List Int32} (xs : List Int) (η0 : zE) (hp : sP wl_l zTr zPl_signs xs η0) (hpp : pPl_signs xs η0) (η : zE) (hI : zsI wl_l zTr zVl_signs zMl_signs η0 0 [] η) (hig : iCl_signs xs η0 0 [] η) : ∀ (x1 : Int) (η1 : zE), ((gC2 wl_l [(nat_lit 0, zPl_isSign, zOl_isSign, zMl_isSign), (nat_lit 1, zPl_wrong, zOl_wrong, zMl_wrong), (nat_lit 2, zPl_token, zOl_token, zMl_token), (nat_lit 3, zPl_isKey, zOl_isKey, zMl_isKey), (nat_lit 4, zPl_isCounted, zOl_isCounted, zMl_isCounted), (nat_lit 5, zPl_waitsFor, zOl_waitsFor, zMl_waitsFor), (nat_lit 6, zPl_rank, zOl_rank, zMl_rank), (nat_lit 7, zPl_bind, zOl_bind, zMl_bind)] pCl_signs qCl_signs) 3).2 [10] η x1 η1 → (x1 = 0) → ((gC2 wl_l [(nat_lit 0, zPl_isSign, zOl_isSign, zMl_isSign), (nat_lit 1, zPl_wrong, zOl_wrong, zMl_wrong), (nat_lit 2, zPl_token, zOl_token, zMl_token), (nat_lit 3, zPl_isKey, zOl_isKey, zMl_isKey), (nat_lit 4, zPl_isCounted, zOl_isCounted, zMl_isCounted), (nat_lit 5, zPl_waitsFor, zOl_waitsFor, zMl_waitsFor), (nat_lit 6, zPl_rank, zOl_rank, zMl_rank), (nat_lit 7, zPl_bind, zOl_bind, zMl_bind)] pCl_signs qCl_signs) 3).1 [11] η1 := by
  have hw : η 0 45 = 0 := hig.2.1
  have hr1 : 1 ≤ η 0 19 := hig.2.2.1
  have hs1 : η 0 7 = η0 0 7 := hig.2.2.2.1
  have hs2 : η 0 6 = η0 0 6 := hig.2.2.2.2.1
  have hs3 : η 0 8 = η0 0 8 := hig.2.2.2.2.2
  have kk : η 0 8 = 5 → 0 ≤ η 0 9 ∧ η 0 9 ≤ 5 := hig.1.1.1.2.1.2
  have bd43 : (0 : Int) ≤ η 0 43 ∧ η 0 43 ≤ 8 := wf_ok (a := 43) (b := 43) (z := (0, 8)) hI.1.1 (by decide +kernel) (Nat.le_refl _) (Nat.le_refl _)
  have bd44 : (0 : Int) ≤ η 0 44 ∧ η 0 44 ≤ 64 := wf_ok (a := 44) (b := 44) (z := (0, 64)) hI.1.1 (by decide +kernel) (Nat.le_refl _) (Nat.le_refl _)
  have bd19 : (0 : Int) ≤ η 0 19 ∧ η 0 19 ≤ 64 := wf_ok (a := 19) (b := 19) (z := (0, 64)) hI.1.1 (by decide +kernel) (Nat.le_refl _) (Nat.le_refl _)
  obtain ⟨u1, u2, u3, u4⟩ := hig.1.2
  have cn := cz_n (η := η) (η 0 41).toNat
  intro x1 η1 h1 c1
  have k1 : sQ wl_l zTr zOl_isKey zMl_isKey [10] η x1 η1 ∧ pQl_isKey [10] η x1 η1 := h1
  have c0_0_41 : η 0 41 = η 0 41 := rfl
  have w0_0_43 : (0 : Int) ≤ η 0 43 ∧ η 0 43 ≤ 8 := wf_ok (a := 43) (b := 43) (z := (0, 8)) hI.1.1 (by decide +kernel) (Nat.le_refl _) (Nat.le_refl _)
  have c0_0_43 : η 0 43 = η 0 43 := rfl
  have c0_0_42 : η 0 42 = η 0 42 := rfl
  have c0_0_45 : η 0 45 = η 0 45 := rfl
  have w0_0_19 : (0 : Int) ≤ η 0 19 ∧ η 0 19 ≤ 64 := wf_ok (a := 19) (b := 19) (z := (0, 64)) hI.1.1 (by decide +kernel) (Nat.le_refl _) (Nat.le_refl _)
  have c0_0_19 : η 0 19 = η 0 19 := rfl
  have w0_0_44 : (0 : Int) ≤ η 0 44 ∧ η 0 44 ≤ 64 := wf_ok (a := 44) (b := 44) (z := (0, 64)) hI.1.1 (by decide +kernel) (Nat.le_refl _) (Nat.le_refl _)
  have c0_0_44 : η 0 44 = η 0 44 := rfl
  have w0_0_7 : (0 : Int) ≤ η 0 7 ∧ η 0 7 ≤ 700 := wf_ok (a := 7) (b := 7) (z := (0, 700)) hI.1.1 (by decide +kernel) (Nat.le_refl _) (Nat.le_refl _)
  have c0_0_7 : η 0 7 = η 0 7 := rfl
  have w0_0_6 : (0 : Int) ≤ η 0 6 ∧ η 0 6 ≤ 700 := wf_ok (a := 6) (b := 6) (z := (0, 700)) hI.1.1 (by decide +kernel) (Nat.le_refl _) (Nat.le_refl _)
  have c0_0_6 : η 0 6 = η 0 6 := rfl
  have w0_0_8 : (0 : Int) ≤ η 0 8 ∧ η 0 8 ≤ 6 := wf_ok (a := 8) (b := 8) (z := (0, 6)) hI.1.1 (by decide +kernel) (Nat.le_refl _) (Nat.le_refl _)
  have c0_0_8 : η 0 8 = η 0 8 := rfl
  have wb1 : wB wl_l zTr η1 := k1.1.1
  have bx1 : (0 : Int) ≤ x1 ∧ x1 ≤ 1 := k1.1.2.1
  have fm1 : zFm zMl_signs η0 η1 := zFm_tr2 hI.2 k1.1.2.2.2.1 (by decide +kernel)
  have fmE : zFm zMl_signs η0 η1 := fm1
  have fr22_0 : ∀ j, η 22 j = η 22 j := fun _ => rfl
  have v9 : ∀ j, η1 22 j = η 22 j := fun j => k1.1.2.2.2.1 22 _ (zinr_not (by decide +kernel))
  have fr22_1 : ∀ j, η1 22 j = η 22 j := v9
  have fr22 : ∀ j, η1 22 j = η 22 j := v9
  have v10 : zEq (η1 0 41) (η 0 41) := (k1.1.2.2.2.1 0 41 (by decide +kernel)).trans rfl
  have f0_41 : η1 0 41 = η 0 41 := v10
  have v11 : zEq (η1 0 43) (η 0 43) := (k1.1.2.2.2.1 0 43 (by decide +kernel)).trans rfl
  have f0_43 : η1 0 43 = η 0 43 := v11
  have v12 : zEq (η1 0 42) (η 0 42) := (k1.1.2.2.2.1 0 42 (by decide +kernel)).trans rfl
  have f0_42 : η1 0 42 = η 0 42 := v12
  have v13 : zEq (η1 0 45) (η 0 45) := (k1.1.2.2.2.1 0 45 (by decide +kernel)).trans rfl
  have f0_45 : η1 0 45 = η 0 45 := v13
  have v14 : zEq (η1 0 19) (η 0 19) := (k1.1.2.2.2.1 0 19 (by decide +kernel)).trans rfl
  have f0_19 : η1 0 19 = η 0 19 := v14
  have v15 : zEq (η1 0 44) (η 0 44) := (k1.1.2.2.2.1 0 44 (by decide +kernel)).trans rfl
  have f0_44 : η1 0 44 = η 0 44 := v15
  have v16 : zEq (η1 0 7) (η 0 7) := (k1.1.2.2.2.1 0 7 (by decide +kernel)).trans rfl
  have f0_7 : η1 0 7 = η 0 7 := v16
  have v17 : zEq (η1 0 6) (η 0 6) := (k1.1.2.2.2.1 0 6 (by decide +kernel)).trans rfl
  have f0_6 : η1 0 6 = η 0 6 := v17
  have v18 : zEq (η1 0 8) (η 0 8) := (k1.1.2.2.2.1 0 8 (by decide +kernel)).trans rfl
  have f0_8 : η1 0 8 = η 0 8 := v18
  have wbE : wB wl_l zTr η1 := wb1
  
  have I0 : H_l 0 0 0 η := hig.1
  have I1 : H_l 0 0 0 η1 := k1.2.1
  exact I1
set_option maxHeartbeats 8000000 in
theorem zl_signs_o8 {ro : Nat → List Int32} (xs : List Int) (η0 : zE) (hp : sP wl_l zTr zPl_signs xs η0) (hpp : pPl_signs xs η0) (η : zE) (hI : zsI wl_l zTr zVl_signs zMl_signs η0 0 [] η) (hig : iCl_signs xs η0 0 [] η) : ∀ (x1 : Int) (η1 : zE), ((gC2 wl_l [(nat_lit 0, zPl_isSign, zOl_isSign, zMl_isSign), (nat_lit 1, zPl_wrong, zOl_wrong, zMl_wrong), (nat_lit 2, zPl_token, zOl_token, zMl_token), (nat_lit 3, zPl_isKey, zOl_isKey, zMl_isKey), (nat_lit 4, zPl_isCounted, zOl_isCounted, zMl_isCounted), (nat_lit 5, zPl_waitsFor, zOl_waitsFor, zMl_waitsFor), (nat_lit 6, zPl_rank, zOl_rank, zMl_rank), (nat_lit 7, zPl_bind, zOl_bind, zMl_bind)] pCl_signs qCl_signs) 3).2 [10] η x1 η1 → (x1 = 0) → ∀ (x2 : Int) (η2 : zE), ((gC2 wl_l [(nat_lit 0, zPl_isSign, zOl_isSign, zMl_isSign), (nat_lit 1, zPl_wrong, zOl_wrong, zMl_wrong), (nat_lit 2, zPl_token, zOl_token, zMl_token), (nat_lit 3, zPl_isKey, zOl_isKey, zMl_isKey), (nat_lit 4, zPl_isCounted, zOl_isCounted, zMl_isCounted), (nat_lit 5, zPl_waitsFor, zOl_waitsFor, zMl_waitsFor), (nat_lit 6, zPl_rank, zOl_rank, zMl_rank), (nat_lit 7, zPl_bind, zOl_bind, zMl_bind)] pCl_signs qCl_signs) 3).2 [11] η1 x2 η2 → (x2 = 0) → ∀ x3 : Int, x3 = η2 0 (Int.toNat 8) → zok 0 x3 → (¬ x3 = 5) → ((gC2 wl_l [(nat_lit 0, zPl_isSign, zOl_isSign, zMl_isSign), (nat_lit 1, zPl_wrong, zOl_wrong, zMl_wrong), (nat_lit 2, zPl_token, zOl_token, zMl_token), (nat_lit 3, zPl_isKey, zOl_isKey, zMl_isKey), (nat_lit 4, zPl_isCounted, zOl_isCounted, zMl_isCounted), (nat_lit 5, zPl_waitsFor, zOl_waitsFor, zMl_waitsFor), (nat_lit 6, zPl_rank, zOl_rank, zMl_rank), (nat_lit 7, zPl_bind, zOl_bind, zMl_bind)] pCl_signs qCl_signs) 0).1 [43] η2 := by
  have hw : η 0 45 = 0 := hig.2.1
  have hr1 : 1 ≤ η 0 19 := hig.2.2.1
  have hs1 : η 0 7 = η0 0 7 := hig.2.2.2.1
  have hs2 : η 0 6 = η0 0 6 := hig.2.2.2.2.1
  have hs3 : η 0 8 = η0 0 8 := hig.2.2.2.2.2
  have kk : η 0 8 = 5 → 0 ≤ η 0 9 ∧ η 0 9 ≤ 5 := hig.1.1.1.2.1.2
  have bd43 : (0 : Int) ≤ η 0 43 ∧ η 0 43 ≤ 8 := wf_ok (a := 43) (b := 43) (z := (0, 8)) hI.1.1 (by decide +kernel) (Nat.le_refl _) (Nat.le_refl _)
  have bd44 : (0 : Int) ≤ η 0 44 ∧ η 0 44 ≤ 64 := wf_ok (a := 44) (b := 44) (z := (0, 64)) hI.1.1 (by decide +kernel) (Nat.le_refl _) (Nat.le_refl _)
  have bd19 : (0 : Int) ≤ η 0 19 ∧ η 0 19 ≤ 64 := wf_ok (a := 19) (b := 19) (z := (0, 64)) hI.1.1 (by decide +kernel) (Nat.le_refl _) (Nat.le_refl _)
  obtain ⟨u1, u2, u3, u4⟩ := hig.1.2
  have cn := cz_n (η := η) (η 0 41).toNat
  intro x1 η1 h1 c1 x2 η2 h2 c2 x3 e3 r3 c3
  have k1 : sQ wl_l zTr zOl_isKey zMl_isKey [10] η x1 η1 ∧ pQl_isKey [10] η x1 η1 := h1
  have k2 : sQ wl_l zTr zOl_isKey zMl_isKey [11] η1 x2 η2 ∧ pQl_isKey [11] η1 x2 η2 := h2
  have c0_0_41 : η 0 41 = η 0 41 := rfl
  have w0_0_43 : (0 : Int) ≤ η 0 43 ∧ η 0 43 ≤ 8 := wf_ok (a := 43) (b := 43) (z := (0, 8)) hI.1.1 (by decide +kernel) (Nat.le_refl _) (Nat.le_refl _)
  have c0_0_43 : η 0 43 = η 0 43 := rfl
  have c0_0_42 : η 0 42 = η 0 42 := rfl
  have c0_0_45 : η 0 45 = η 0 45 := rfl
  have w0_0_19 : (0 : Int) ≤ η 0 19 ∧ η 0 19 ≤ 64 := wf_ok (a := 19) (b := 19) (z := (0, 64)) hI.1.1 (by decide +kernel) (Nat.le_refl _) (Nat.le_refl _)
  have c0_0_19 : η 0 19 = η 0 19 := rfl
  have w0_0_44 : (0 : Int) ≤ η 0 44 ∧ η 0 44 ≤ 64 := wf_ok (a := 44) (b := 44) (z := (0, 64)) hI.1.1 (by decide +kernel) (Nat.le_refl _) (Nat.le_refl _)
  have c0_0_44 : η 0 44 = η 0 44 := rfl
  have w0_0_7 : (0 : Int) ≤ η 0 7 ∧ η 0 7 ≤ 700 := wf_ok (a := 7) (b := 7) (z := (0, 700)) hI.1.1 (by decide +kernel) (Nat.le_refl _) (Nat.le_refl _)
  have c0_0_7 : η 0 7 = η 0 7 := rfl
  have w0_0_6 : (0 : Int) ≤ η 0 6 ∧ η 0 6 ≤ 700 := wf_ok (a := 6) (b := 6) (z := (0, 700)) hI.1.1 (by decide +kernel) (Nat.le_refl _) (Nat.le_refl _)
  have c0_0_6 : η 0 6 = η 0 6 := rfl
  have w0_0_8 : (0 : Int) ≤ η 0 8 ∧ η 0 8 ≤ 6 := wf_ok (a := 8) (b := 8) (z := (0, 6)) hI.1.1 (by decide +kernel) (Nat.le_refl _) (Nat.le_refl _)
  have c0_0_8 : η 0 8 = η 0 8 := rfl
  have wb1 : wB wl_l zTr η1 := k1.1.1
  have bx1 : (0 : Int) ≤ x1 ∧ x1 ≤ 1 := k1.1.2.1
  have v9 : zEq (η1 0 41) (η 0 41) := (k1.1.2.2.2.1 0 41 (by decide +kernel)).trans rfl
  have c1_0_41 : η1 0 41 = η 0 41 := v9
  have v10 : zEq (η1 0 43) (η 0 43) := (k1.1.2.2.2.1 0 43 (by decide +kernel)).trans rfl
  have c1_0_43 : η1 0 43 = η 0 43 := v10
  have v11 : zEq (η1 0 42) (η 0 42) := (k1.1.2.2.2.1 0 42 (by decide +kernel)).trans rfl
  have c1_0_42 : η1 0 42 = η 0 42 := v11
  have v12 : zEq (η1 0 45) (η 0 45) := (k1.1.2.2.2.1 0 45 (by decide +kernel)).trans rfl
  have c1_0_45 : η1 0 45 = η 0 45 := v12
  have v13 : zEq (η1 0 19) (η 0 19) := (k1.1.2.2.2.1 0 19 (by decide +kernel)).trans rfl
  have c1_0_19 : η1 0 19 = η 0 19 := v13
  have v14 : zEq (η1 0 44) (η 0 44) := (k1.1.2.2.2.1 0 44 (by decide +kernel)).trans rfl
  have c1_0_44 : η1 0 44 = η 0 44 := v14
  have v15 : zEq (η1 0 7) (η 0 7) := (k1.1.2.2.2.1 0 7 (by decide +kernel)).trans rfl
  have c1_0_7 : η1 0 7 = η 0 7 := v15
  have v16 : zEq (η1 0 6) (η 0 6) := (k1.1.2.2.2.1 0 6 (by decide +kernel)).trans rfl
  have c1_0_6 : η1 0 6 = η 0 6 := v16
  have v17 : zEq (η1 0 8) (η 0 8) := (k1.1.2.2.2.1 0 8 (by decide +kernel)).trans rfl
  have c1_0_8 : η1 0 8 = η 0 8 := v17
  have wb2 : wB wl_l zTr η2 := k2.1.1
  have bx2 : (0 : Int) ≤ x2 ∧ x2 ≤ 1 := k2.1.2.1
  have v18 : zEq (η2 0 8) (η 0 8) := (k2.1.2.2.2.1 0 8 (by decide +kernel)).trans v17
  replace e3 : x3 = η 0 8 := e3.trans v18
  replace r3 : -2147483648 ≤ x3 ∧ x3 ≤ 2147483647 := r3
  have fm1 : zFm zMl_signs η0 η1 := zFm_tr2 hI.2 k1.1.2.2.2.1 (by decide +kernel)
  have fm2 : zFm zMl_signs η0 η2 := zFm_tr2 fm1 k2.1.2.2.2.1 (by decide +kernel)
  have fmE : zFm zMl_signs η0 η2 := fm2
  have fr22_0 : ∀ j, η 22 j = η 22 j := fun _ => rfl
  have v19 : ∀ j, η1 22 j = η 22 j := fun j => k1.1.2.2.2.1 22 _ (zinr_not (by decide +kernel))
  have fr22_1 : ∀ j, η1 22 j = η 22 j := v19
  have v20 : ∀ j, η2 22 j = η 22 j := fun j => (k2.1.2.2.2.1 22 _ (zinr_not (by decide +kernel))).trans (v19 j)
  have fr22_2 : ∀ j, η2 22 j = η 22 j := v20
  have fr22 : ∀ j, η2 22 j = η 22 j := v20
  have v21 : zEq (η2 0 41) (η 0 41) := (k2.1.2.2.2.1 0 41 (by decide +kernel)).trans v9
  have f0_41 : η2 0 41 = η 0 41 := v21
  have v22 : zEq (η2 0 43) (η 0 43) := (k2.1.2.2.2.1 0 43 (by decide +kernel)).trans v10
  have f0_43 : η2 0 43 = η 0 43 := v22
  have v23 : zEq (η2 0 42) (η 0 42) := (k2.1.2.2.2.1 0 42 (by decide +kernel)).trans v11
  have f0_42 : η2 0 42 = η 0 42 := v23
  have v24 : zEq (η2 0 45) (η 0 45) := (k2.1.2.2.2.1 0 45 (by decide +kernel)).trans v12
  have f0_45 : η2 0 45 = η 0 45 := v24
  have v25 : zEq (η2 0 19) (η 0 19) := (k2.1.2.2.2.1 0 19 (by decide +kernel)).trans v13
  have f0_19 : η2 0 19 = η 0 19 := v25
  have v26 : zEq (η2 0 44) (η 0 44) := (k2.1.2.2.2.1 0 44 (by decide +kernel)).trans v14
  have f0_44 : η2 0 44 = η 0 44 := v26
  have v27 : zEq (η2 0 7) (η 0 7) := (k2.1.2.2.2.1 0 7 (by decide +kernel)).trans v15
  have f0_7 : η2 0 7 = η 0 7 := v27
  have v28 : zEq (η2 0 6) (η 0 6) := (k2.1.2.2.2.1 0 6 (by decide +kernel)).trans v16
  have f0_6 : η2 0 6 = η 0 6 := v28
  have f0_8 : η2 0 8 = η 0 8 := v18
  have wbE : wB wl_l zTr η2 := wb2
  
  have I0 : H_l 0 0 0 η := hig.1
  have I1 : H_l 0 0 0 η1 := k1.2.1
  have I2 : H_l 0 0 0 η2 := k2.2.1
  exact I2
set_option maxHeartbeats 8000000 in
theorem zl_signs_o9 {ro : Nat → List Int32} (xs : List Int) (η0 : zE) (hp : sP wl_l zTr zPl_signs xs η0) (hpp : pPl_signs xs η0) (η : zE) (hI : zsI wl_l zTr zVl_signs zMl_signs η0 0 [] η) (hig : iCl_signs xs η0 0 [] η) : ∀ (x1 : Int) (η1 : zE), ((gC2 wl_l [(nat_lit 0, zPl_isSign, zOl_isSign, zMl_isSign), (nat_lit 1, zPl_wrong, zOl_wrong, zMl_wrong), (nat_lit 2, zPl_token, zOl_token, zMl_token), (nat_lit 3, zPl_isKey, zOl_isKey, zMl_isKey), (nat_lit 4, zPl_isCounted, zOl_isCounted, zMl_isCounted), (nat_lit 5, zPl_waitsFor, zOl_waitsFor, zMl_waitsFor), (nat_lit 6, zPl_rank, zOl_rank, zMl_rank), (nat_lit 7, zPl_bind, zOl_bind, zMl_bind)] pCl_signs qCl_signs) 3).2 [10] η x1 η1 → (x1 = 0) → ∀ (x2 : Int) (η2 : zE), ((gC2 wl_l [(nat_lit 0, zPl_isSign, zOl_isSign, zMl_isSign), (nat_lit 1, zPl_wrong, zOl_wrong, zMl_wrong), (nat_lit 2, zPl_token, zOl_token, zMl_token), (nat_lit 3, zPl_isKey, zOl_isKey, zMl_isKey), (nat_lit 4, zPl_isCounted, zOl_isCounted, zMl_isCounted), (nat_lit 5, zPl_waitsFor, zOl_waitsFor, zMl_waitsFor), (nat_lit 6, zPl_rank, zOl_rank, zMl_rank), (nat_lit 7, zPl_bind, zOl_bind, zMl_bind)] pCl_signs qCl_signs) 3).2 [11] η1 x2 η2 → (x2 = 0) → ∀ x3 : Int, x3 = η2 0 (Int.toNat 8) → zok 0 x3 → (¬ x3 = 5) → ∀ (x4 : Int) (η3 : zE), ((gC2 wl_l [(nat_lit 0, zPl_isSign, zOl_isSign, zMl_isSign), (nat_lit 1, zPl_wrong, zOl_wrong, zMl_wrong), (nat_lit 2, zPl_token, zOl_token, zMl_token), (nat_lit 3, zPl_isKey, zOl_isKey, zMl_isKey), (nat_lit 4, zPl_isCounted, zOl_isCounted, zMl_isCounted), (nat_lit 5, zPl_waitsFor, zOl_waitsFor, zMl_waitsFor), (nat_lit 6, zPl_rank, zOl_rank, zMl_rank), (nat_lit 7, zPl_bind, zOl_bind, zMl_bind)] pCl_signs qCl_signs) 0).2 [43] η2 x4 η3 → (x4 = 0) → ((gC2 wl_l [(nat_lit 0, zPl_isSign, zOl_isSign, zMl_isSign), (nat_lit 1, zPl_wrong, zOl_wrong, zMl_wrong), (nat_lit 2, zPl_token, zOl_token, zMl_token), (nat_lit 3, zPl_isKey, zOl_isKey, zMl_isKey), (nat_lit 4, zPl_isCounted, zOl_isCounted, zMl_isCounted), (nat_lit 5, zPl_waitsFor, zOl_waitsFor, zMl_waitsFor), (nat_lit 6, zPl_rank, zOl_rank, zMl_rank), (nat_lit 7, zPl_bind, zOl_bind, zMl_bind)] pCl_signs qCl_signs) 0).1 [45] η3 := by
  have hw : η 0 45 = 0 := hig.2.1
  have hr1 : 1 ≤ η 0 19 := hig.2.2.1
  have hs1 : η 0 7 = η0 0 7 := hig.2.2.2.1
  have hs2 : η 0 6 = η0 0 6 := hig.2.2.2.2.1
  have hs3 : η 0 8 = η0 0 8 := hig.2.2.2.2.2
  have kk : η 0 8 = 5 → 0 ≤ η 0 9 ∧ η 0 9 ≤ 5 := hig.1.1.1.2.1.2
  have bd43 : (0 : Int) ≤ η 0 43 ∧ η 0 43 ≤ 8 := wf_ok (a := 43) (b := 43) (z := (0, 8)) hI.1.1 (by decide +kernel) (Nat.le_refl _) (Nat.le_refl _)
  have bd44 : (0 : Int) ≤ η 0 44 ∧ η 0 44 ≤ 64 := wf_ok (a := 44) (b := 44) (z := (0, 64)) hI.1.1 (by decide +kernel) (Nat.le_refl _) (Nat.le_refl _)
  have bd19 : (0 : Int) ≤ η 0 19 ∧ η 0 19 ≤ 64 := wf_ok (a := 19) (b := 19) (z := (0, 64)) hI.1.1 (by decide +kernel) (Nat.le_refl _) (Nat.le_refl _)
  obtain ⟨u1, u2, u3, u4⟩ := hig.1.2
  have cn := cz_n (η := η) (η 0 41).toNat
  intro x1 η1 h1 c1 x2 η2 h2 c2 x3 e3 r3 c3 x4 η3 h4 c4
  have k1 : sQ wl_l zTr zOl_isKey zMl_isKey [10] η x1 η1 ∧ pQl_isKey [10] η x1 η1 := h1
  have k2 : sQ wl_l zTr zOl_isKey zMl_isKey [11] η1 x2 η2 ∧ pQl_isKey [11] η1 x2 η2 := h2
  have k4 : sQ wl_l zTr zOl_isSign zMl_isSign [43] η2 x4 η3 ∧ pQl_isSign [43] η2 x4 η3 := h4
  have c0_0_41 : η 0 41 = η 0 41 := rfl
  have w0_0_43 : (0 : Int) ≤ η 0 43 ∧ η 0 43 ≤ 8 := wf_ok (a := 43) (b := 43) (z := (0, 8)) hI.1.1 (by decide +kernel) (Nat.le_refl _) (Nat.le_refl _)
  have c0_0_43 : η 0 43 = η 0 43 := rfl
  have c0_0_42 : η 0 42 = η 0 42 := rfl
  have c0_0_45 : η 0 45 = η 0 45 := rfl
  have w0_0_19 : (0 : Int) ≤ η 0 19 ∧ η 0 19 ≤ 64 := wf_ok (a := 19) (b := 19) (z := (0, 64)) hI.1.1 (by decide +kernel) (Nat.le_refl _) (Nat.le_refl _)
  have c0_0_19 : η 0 19 = η 0 19 := rfl
  have w0_0_44 : (0 : Int) ≤ η 0 44 ∧ η 0 44 ≤ 64 := wf_ok (a := 44) (b := 44) (z := (0, 64)) hI.1.1 (by decide +kernel) (Nat.le_refl _) (Nat.le_refl _)
  have c0_0_44 : η 0 44 = η 0 44 := rfl
  have w0_0_7 : (0 : Int) ≤ η 0 7 ∧ η 0 7 ≤ 700 := wf_ok (a := 7) (b := 7) (z := (0, 700)) hI.1.1 (by decide +kernel) (Nat.le_refl _) (Nat.le_refl _)
  have c0_0_7 : η 0 7 = η 0 7 := rfl
  have w0_0_6 : (0 : Int) ≤ η 0 6 ∧ η 0 6 ≤ 700 := wf_ok (a := 6) (b := 6) (z := (0, 700)) hI.1.1 (by decide +kernel) (Nat.le_refl _) (Nat.le_refl _)
  have c0_0_6 : η 0 6 = η 0 6 := rfl
  have w0_0_8 : (0 : Int) ≤ η 0 8 ∧ η 0 8 ≤ 6 := wf_ok (a := 8) (b := 8) (z := (0, 6)) hI.1.1 (by decide +kernel) (Nat.le_refl _) (Nat.le_refl _)
  have c0_0_8 : η 0 8 = η 0 8 := rfl
  have wb1 : wB wl_l zTr η1 := k1.1.1
  have bx1 : (0 : Int) ≤ x1 ∧ x1 ≤ 1 := k1.1.2.1
  have v9 : zEq (η1 0 41) (η 0 41) := (k1.1.2.2.2.1 0 41 (by decide +kernel)).trans rfl
  have c1_0_41 : η1 0 41 = η 0 41 := v9
  have v10 : zEq (η1 0 43) (η 0 43) := (k1.1.2.2.2.1 0 43 (by decide +kernel)).trans rfl
  have c1_0_43 : η1 0 43 = η 0 43 := v10
  have v11 : zEq (η1 0 42) (η 0 42) := (k1.1.2.2.2.1 0 42 (by decide +kernel)).trans rfl
  have c1_0_42 : η1 0 42 = η 0 42 := v11
  have v12 : zEq (η1 0 45) (η 0 45) := (k1.1.2.2.2.1 0 45 (by decide +kernel)).trans rfl
  have c1_0_45 : η1 0 45 = η 0 45 := v12
  have v13 : zEq (η1 0 19) (η 0 19) := (k1.1.2.2.2.1 0 19 (by decide +kernel)).trans rfl
  have c1_0_19 : η1 0 19 = η 0 19 := v13
  have v14 : zEq (η1 0 44) (η 0 44) := (k1.1.2.2.2.1 0 44 (by decide +kernel)).trans rfl
  have c1_0_44 : η1 0 44 = η 0 44 := v14
  have v15 : zEq (η1 0 7) (η 0 7) := (k1.1.2.2.2.1 0 7 (by decide +kernel)).trans rfl
  have c1_0_7 : η1 0 7 = η 0 7 := v15
  have v16 : zEq (η1 0 6) (η 0 6) := (k1.1.2.2.2.1 0 6 (by decide +kernel)).trans rfl
  have c1_0_6 : η1 0 6 = η 0 6 := v16
  have v17 : zEq (η1 0 8) (η 0 8) := (k1.1.2.2.2.1 0 8 (by decide +kernel)).trans rfl
  have c1_0_8 : η1 0 8 = η 0 8 := v17
  have wb2 : wB wl_l zTr η2 := k2.1.1
  have bx2 : (0 : Int) ≤ x2 ∧ x2 ≤ 1 := k2.1.2.1
  have v18 : zEq (η2 0 8) (η 0 8) := (k2.1.2.2.2.1 0 8 (by decide +kernel)).trans v17
  replace e3 : x3 = η 0 8 := e3.trans v18
  replace r3 : -2147483648 ≤ x3 ∧ x3 ≤ 2147483647 := r3
  have v19 : zEq (η2 0 41) (η 0 41) := (k2.1.2.2.2.1 0 41 (by decide +kernel)).trans v9
  have c2_0_41 : η2 0 41 = η 0 41 := v19
  have v20 : zEq (η2 0 43) (η 0 43) := (k2.1.2.2.2.1 0 43 (by decide +kernel)).trans v10
  have c2_0_43 : η2 0 43 = η 0 43 := v20
  have v21 : zEq (η2 0 42) (η 0 42) := (k2.1.2.2.2.1 0 42 (by decide +kernel)).trans v11
  have c2_0_42 : η2 0 42 = η 0 42 := v21
  have v22 : zEq (η2 0 45) (η 0 45) := (k2.1.2.2.2.1 0 45 (by decide +kernel)).trans v12
  have c2_0_45 : η2 0 45 = η 0 45 := v22
  have v23 : zEq (η2 0 19) (η 0 19) := (k2.1.2.2.2.1 0 19 (by decide +kernel)).trans v13
  have c2_0_19 : η2 0 19 = η 0 19 := v23
  have v24 : zEq (η2 0 44) (η 0 44) := (k2.1.2.2.2.1 0 44 (by decide +kernel)).trans v14
  have c2_0_44 : η2 0 44 = η 0 44 := v24
  have v25 : zEq (η2 0 7) (η 0 7) := (k2.1.2.2.2.1 0 7 (by decide +kernel)).trans v15
  have c2_0_7 : η2 0 7 = η 0 7 := v25
  have v26 : zEq (η2 0 6) (η 0 6) := (k2.1.2.2.2.1 0 6 (by decide +kernel)).trans v16
  have c2_0_6 : η2 0 6 = η 0 6 := v26
  have c2_0_8 : η2 0 8 = η 0 8 := v18
  have wb3 : wB wl_l zTr η3 := k4.1.1
  have bx4 : (0 : Int) ≤ x4 ∧ x4 ≤ 1 := k4.1.2.1
  have fm1 : zFm zMl_signs η0 η1 := zFm_tr2 hI.2 k1.1.2.2.2.1 (by decide +kernel)
  have fm2 : zFm zMl_signs η0 η2 := zFm_tr2 fm1 k2.1.2.2.2.1 (by decide +kernel)
  have fm3 : zFm zMl_signs η0 η3 := zFm_tr2 fm2 k4.1.2.2.2.1 (by decide +kernel)
  have fmE : zFm zMl_signs η0 η3 := fm3
  have fr22_0 : ∀ j, η 22 j = η 22 j := fun _ => rfl
  have v27 : ∀ j, η1 22 j = η 22 j := fun j => k1.1.2.2.2.1 22 _ (zinr_not (by decide +kernel))
  have fr22_1 : ∀ j, η1 22 j = η 22 j := v27
  have v28 : ∀ j, η2 22 j = η 22 j := fun j => (k2.1.2.2.2.1 22 _ (zinr_not (by decide +kernel))).trans (v27 j)
  have fr22_2 : ∀ j, η2 22 j = η 22 j := v28
  have v29 : ∀ j, η3 22 j = η 22 j := fun j => (k4.1.2.2.2.1 22 _ (zinr_not (by decide +kernel))).trans (v28 j)
  have fr22_3 : ∀ j, η3 22 j = η 22 j := v29
  have fr22 : ∀ j, η3 22 j = η 22 j := v29
  have v30 : zEq (η3 0 41) (η 0 41) := (k4.1.2.2.2.1 0 41 (by decide +kernel)).trans v19
  have f0_41 : η3 0 41 = η 0 41 := v30
  have v31 : zEq (η3 0 43) (η 0 43) := (k4.1.2.2.2.1 0 43 (by decide +kernel)).trans v20
  have f0_43 : η3 0 43 = η 0 43 := v31
  have v32 : zEq (η3 0 42) (η 0 42) := (k4.1.2.2.2.1 0 42 (by decide +kernel)).trans v21
  have f0_42 : η3 0 42 = η 0 42 := v32
  have v33 : zEq (η3 0 45) (η 0 45) := (k4.1.2.2.2.1 0 45 (by decide +kernel)).trans v22
  have f0_45 : η3 0 45 = η 0 45 := v33
  have v34 : zEq (η3 0 19) (η 0 19) := (k4.1.2.2.2.1 0 19 (by decide +kernel)).trans v23
  have f0_19 : η3 0 19 = η 0 19 := v34
  have v35 : zEq (η3 0 44) (η 0 44) := (k4.1.2.2.2.1 0 44 (by decide +kernel)).trans v24
  have f0_44 : η3 0 44 = η 0 44 := v35
  have v36 : zEq (η3 0 7) (η 0 7) := (k4.1.2.2.2.1 0 7 (by decide +kernel)).trans v25
  have f0_7 : η3 0 7 = η 0 7 := v36
  have v37 : zEq (η3 0 6) (η 0 6) := (k4.1.2.2.2.1 0 6 (by decide +kernel)).trans v26
  have f0_6 : η3 0 6 = η 0 6 := v37
  have v38 : zEq (η3 0 8) (η 0 8) := (k4.1.2.2.2.1 0 8 (by decide +kernel)).trans v18
  have f0_8 : η3 0 8 = η 0 8 := v38
  have wbE : wB wl_l zTr η3 := wb3
  
  have I0 : H_l 0 0 0 η := hig.1
  have I1 : H_l 0 0 0 η1 := k1.2.1
  have I2 : H_l 0 0 0 η2 := k2.2.1
  have I3 : H_l 0 0 0 η3 := k4.2.1
  exact I3
set_option maxHeartbeats 8000000 in
theorem zl_signs_o10 {ro : Nat → List Int32} (xs : List Int) (η0 : zE) (hp : sP wl_l zTr zPl_signs xs η0) (hpp : pPl_signs xs η0) (η : zE) (hI : zsI wl_l zTr zVl_signs zMl_signs η0 0 [] η) (hig : iCl_signs xs η0 0 [] η) : ∀ (x1 : Int) (η1 : zE), ((gC2 wl_l [(nat_lit 0, zPl_isSign, zOl_isSign, zMl_isSign), (nat_lit 1, zPl_wrong, zOl_wrong, zMl_wrong), (nat_lit 2, zPl_token, zOl_token, zMl_token), (nat_lit 3, zPl_isKey, zOl_isKey, zMl_isKey), (nat_lit 4, zPl_isCounted, zOl_isCounted, zMl_isCounted), (nat_lit 5, zPl_waitsFor, zOl_waitsFor, zMl_waitsFor), (nat_lit 6, zPl_rank, zOl_rank, zMl_rank), (nat_lit 7, zPl_bind, zOl_bind, zMl_bind)] pCl_signs qCl_signs) 3).2 [10] η x1 η1 → (x1 = 0) → ∀ (x2 : Int) (η2 : zE), ((gC2 wl_l [(nat_lit 0, zPl_isSign, zOl_isSign, zMl_isSign), (nat_lit 1, zPl_wrong, zOl_wrong, zMl_wrong), (nat_lit 2, zPl_token, zOl_token, zMl_token), (nat_lit 3, zPl_isKey, zOl_isKey, zMl_isKey), (nat_lit 4, zPl_isCounted, zOl_isCounted, zMl_isCounted), (nat_lit 5, zPl_waitsFor, zOl_waitsFor, zMl_waitsFor), (nat_lit 6, zPl_rank, zOl_rank, zMl_rank), (nat_lit 7, zPl_bind, zOl_bind, zMl_bind)] pCl_signs qCl_signs) 3).2 [11] η1 x2 η2 → (x2 = 0) → ∀ x3 : Int, x3 = η2 0 (Int.toNat 8) → zok 0 x3 → (¬ x3 = 5) → ∀ (x4 : Int) (η3 : zE), ((gC2 wl_l [(nat_lit 0, zPl_isSign, zOl_isSign, zMl_isSign), (nat_lit 1, zPl_wrong, zOl_wrong, zMl_wrong), (nat_lit 2, zPl_token, zOl_token, zMl_token), (nat_lit 3, zPl_isKey, zOl_isKey, zMl_isKey), (nat_lit 4, zPl_isCounted, zOl_isCounted, zMl_isCounted), (nat_lit 5, zPl_waitsFor, zOl_waitsFor, zMl_waitsFor), (nat_lit 6, zPl_rank, zOl_rank, zMl_rank), (nat_lit 7, zPl_bind, zOl_bind, zMl_bind)] pCl_signs qCl_signs) 0).2 [43] η2 x4 η3 → (x4 = 0) → ∀ (x5 : Int) (η4 : zE), ((gC2 wl_l [(nat_lit 0, zPl_isSign, zOl_isSign, zMl_isSign), (nat_lit 1, zPl_wrong, zOl_wrong, zMl_wrong), (nat_lit 2, zPl_token, zOl_token, zMl_token), (nat_lit 3, zPl_isKey, zOl_isKey, zMl_isKey), (nat_lit 4, zPl_isCounted, zOl_isCounted, zMl_isCounted), (nat_lit 5, zPl_waitsFor, zOl_waitsFor, zMl_waitsFor), (nat_lit 6, zPl_rank, zOl_rank, zMl_rank), (nat_lit 7, zPl_bind, zOl_bind, zMl_bind)] pCl_signs qCl_signs) 0).2 [45] η3 x5 η4 → (x5 = 0) → ((gC2 wl_l [(nat_lit 0, zPl_isSign, zOl_isSign, zMl_isSign), (nat_lit 1, zPl_wrong, zOl_wrong, zMl_wrong), (nat_lit 2, zPl_token, zOl_token, zMl_token), (nat_lit 3, zPl_isKey, zOl_isKey, zMl_isKey), (nat_lit 4, zPl_isCounted, zOl_isCounted, zMl_isCounted), (nat_lit 5, zPl_waitsFor, zOl_waitsFor, zMl_waitsFor), (nat_lit 6, zPl_rank, zOl_rank, zMl_rank), (nat_lit 7, zPl_bind, zOl_bind, zMl_bind)] pCl_signs qCl_signs) 0).1 [42] η4 := by
  have hw : η 0 45 = 0 := hig.2.1
  have hr1 : 1 ≤ η 0 19 := hig.2.2.1
  have hs1 : η 0 7 = η0 0 7 := hig.2.2.2.1
  have hs2 : η 0 6 = η0 0 6 := hig.2.2.2.2.1
  have hs3 : η 0 8 = η0 0 8 := hig.2.2.2.2.2
  have kk : η 0 8 = 5 → 0 ≤ η 0 9 ∧ η 0 9 ≤ 5 := hig.1.1.1.2.1.2
  have bd43 : (0 : Int) ≤ η 0 43 ∧ η 0 43 ≤ 8 := wf_ok (a := 43) (b := 43) (z := (0, 8)) hI.1.1 (by decide +kernel) (Nat.le_refl _) (Nat.le_refl _)
  have bd44 : (0 : Int) ≤ η 0 44 ∧ η 0 44 ≤ 64 := wf_ok (a := 44) (b := 44) (z := (0, 64)) hI.1.1 (by decide +kernel) (Nat.le_refl _) (Nat.le_refl _)
  have bd19 : (0 : Int) ≤ η 0 19 ∧ η 0 19 ≤ 64 := wf_ok (a := 19) (b := 19) (z := (0, 64)) hI.1.1 (by decide +kernel) (Nat.le_refl _) (Nat.le_refl _)
  obtain ⟨u1, u2, u3, u4⟩ := hig.1.2
  have cn := cz_n (η := η) (η 0 41).toNat
  intro x1 η1 h1 c1 x2 η2 h2 c2 x3 e3 r3 c3 x4 η3 h4 c4 x5 η4 h5 c5
  have k1 : sQ wl_l zTr zOl_isKey zMl_isKey [10] η x1 η1 ∧ pQl_isKey [10] η x1 η1 := h1
  have k2 : sQ wl_l zTr zOl_isKey zMl_isKey [11] η1 x2 η2 ∧ pQl_isKey [11] η1 x2 η2 := h2
  have k4 : sQ wl_l zTr zOl_isSign zMl_isSign [43] η2 x4 η3 ∧ pQl_isSign [43] η2 x4 η3 := h4
  have k5 : sQ wl_l zTr zOl_isSign zMl_isSign [45] η3 x5 η4 ∧ pQl_isSign [45] η3 x5 η4 := h5
  have c0_0_41 : η 0 41 = η 0 41 := rfl
  have w0_0_43 : (0 : Int) ≤ η 0 43 ∧ η 0 43 ≤ 8 := wf_ok (a := 43) (b := 43) (z := (0, 8)) hI.1.1 (by decide +kernel) (Nat.le_refl _) (Nat.le_refl _)
  have c0_0_43 : η 0 43 = η 0 43 := rfl
  have c0_0_42 : η 0 42 = η 0 42 := rfl
  have c0_0_45 : η 0 45 = η 0 45 := rfl
  have w0_0_19 : (0 : Int) ≤ η 0 19 ∧ η 0 19 ≤ 64 := wf_ok (a := 19) (b := 19) (z := (0, 64)) hI.1.1 (by decide +kernel) (Nat.le_refl _) (Nat.le_refl _)
  have c0_0_19 : η 0 19 = η 0 19 := rfl
  have w0_0_44 : (0 : Int) ≤ η 0 44 ∧ η 0 44 ≤ 64 := wf_ok (a := 44) (b := 44) (z := (0, 64)) hI.1.1 (by decide +kernel) (Nat.le_refl _) (Nat.le_refl _)
  have c0_0_44 : η 0 44 = η 0 44 := rfl
  have w0_0_7 : (0 : Int) ≤ η 0 7 ∧ η 0 7 ≤ 700 := wf_ok (a := 7) (b := 7) (z := (0, 700)) hI.1.1 (by decide +kernel) (Nat.le_refl _) (Nat.le_refl _)
  have c0_0_7 : η 0 7 = η 0 7 := rfl
  have w0_0_6 : (0 : Int) ≤ η 0 6 ∧ η 0 6 ≤ 700 := wf_ok (a := 6) (b := 6) (z := (0, 700)) hI.1.1 (by decide +kernel) (Nat.le_refl _) (Nat.le_refl _)
  have c0_0_6 : η 0 6 = η 0 6 := rfl
  have w0_0_8 : (0 : Int) ≤ η 0 8 ∧ η 0 8 ≤ 6 := wf_ok (a := 8) (b := 8) (z := (0, 6)) hI.1.1 (by decide +kernel) (Nat.le_refl _) (Nat.le_refl _)
  have c0_0_8 : η 0 8 = η 0 8 := rfl
  have wb1 : wB wl_l zTr η1 := k1.1.1
  have bx1 : (0 : Int) ≤ x1 ∧ x1 ≤ 1 := k1.1.2.1
  have v9 : zEq (η1 0 41) (η 0 41) := (k1.1.2.2.2.1 0 41 (by decide +kernel)).trans rfl
  have c1_0_41 : η1 0 41 = η 0 41 := v9
  have v10 : zEq (η1 0 43) (η 0 43) := (k1.1.2.2.2.1 0 43 (by decide +kernel)).trans rfl
  have c1_0_43 : η1 0 43 = η 0 43 := v10
  have v11 : zEq (η1 0 42) (η 0 42) := (k1.1.2.2.2.1 0 42 (by decide +kernel)).trans rfl
  have c1_0_42 : η1 0 42 = η 0 42 := v11
  have v12 : zEq (η1 0 45) (η 0 45) := (k1.1.2.2.2.1 0 45 (by decide +kernel)).trans rfl
  have c1_0_45 : η1 0 45 = η 0 45 := v12
  have v13 : zEq (η1 0 19) (η 0 19) := (k1.1.2.2.2.1 0 19 (by decide +kernel)).trans rfl
  have c1_0_19 : η1 0 19 = η 0 19 := v13
  have v14 : zEq (η1 0 44) (η 0 44) := (k1.1.2.2.2.1 0 44 (by decide +kernel)).trans rfl
  have c1_0_44 : η1 0 44 = η 0 44 := v14
  have v15 : zEq (η1 0 7) (η 0 7) := (k1.1.2.2.2.1 0 7 (by decide +kernel)).trans rfl
  have c1_0_7 : η1 0 7 = η 0 7 := v15
  have v16 : zEq (η1 0 6) (η 0 6) := (k1.1.2.2.2.1 0 6 (by decide +kernel)).trans rfl
  have c1_0_6 : η1 0 6 = η 0 6 := v16
  have v17 : zEq (η1 0 8) (η 0 8) := (k1.1.2.2.2.1 0 8 (by decide +kernel)).trans rfl
  have c1_0_8 : η1 0 8 = η 0 8 := v17
  have wb2 : wB wl_l zTr η2 := k2.1.1
  have bx2 : (0 : Int) ≤ x2 ∧ x2 ≤ 1 := k2.1.2.1
  have v18 : zEq (η2 0 8) (η 0 8) := (k2.1.2.2.2.1 0 8 (by decide +kernel)).trans v17
  replace e3 : x3 = η 0 8 := e3.trans v18
  replace r3 : -2147483648 ≤ x3 ∧ x3 ≤ 2147483647 := r3
  have v19 : zEq (η2 0 41) (η 0 41) := (k2.1.2.2.2.1 0 41 (by decide +kernel)).trans v9
  have c2_0_41 : η2 0 41 = η 0 41 := v19
  have v20 : zEq (η2 0 43) (η 0 43) := (k2.1.2.2.2.1 0 43 (by decide +kernel)).trans v10
  have c2_0_43 : η2 0 43 = η 0 43 := v20
  have v21 : zEq (η2 0 42) (η 0 42) := (k2.1.2.2.2.1 0 42 (by decide +kernel)).trans v11
  have c2_0_42 : η2 0 42 = η 0 42 := v21
  have v22 : zEq (η2 0 45) (η 0 45) := (k2.1.2.2.2.1 0 45 (by decide +kernel)).trans v12
  have c2_0_45 : η2 0 45 = η 0 45 := v22
  have v23 : zEq (η2 0 19) (η 0 19) := (k2.1.2.2.2.1 0 19 (by decide +kernel)).trans v13
  have c2_0_19 : η2 0 19 = η 0 19 := v23
  have v24 : zEq (η2 0 44) (η 0 44) := (k2.1.2.2.2.1 0 44 (by decide +kernel)).trans v14
  have c2_0_44 : η2 0 44 = η 0 44 := v24
  have v25 : zEq (η2 0 7) (η 0 7) := (k2.1.2.2.2.1 0 7 (by decide +kernel)).trans v15
  have c2_0_7 : η2 0 7 = η 0 7 := v25
  have v26 : zEq (η2 0 6) (η 0 6) := (k2.1.2.2.2.1 0 6 (by decide +kernel)).trans v16
  have c2_0_6 : η2 0 6 = η 0 6 := v26
  have c2_0_8 : η2 0 8 = η 0 8 := v18
  have wb3 : wB wl_l zTr η3 := k4.1.1
  have bx4 : (0 : Int) ≤ x4 ∧ x4 ≤ 1 := k4.1.2.1
  have v27 : zEq (η3 0 41) (η 0 41) := (k4.1.2.2.2.1 0 41 (by decide +kernel)).trans v19
  have c3_0_41 : η3 0 41 = η 0 41 := v27
  have v28 : zEq (η3 0 43) (η 0 43) := (k4.1.2.2.2.1 0 43 (by decide +kernel)).trans v20
  have c3_0_43 : η3 0 43 = η 0 43 := v28
  have v29 : zEq (η3 0 42) (η 0 42) := (k4.1.2.2.2.1 0 42 (by decide +kernel)).trans v21
  have c3_0_42 : η3 0 42 = η 0 42 := v29
  have v30 : zEq (η3 0 45) (η 0 45) := (k4.1.2.2.2.1 0 45 (by decide +kernel)).trans v22
  have c3_0_45 : η3 0 45 = η 0 45 := v30
  have v31 : zEq (η3 0 19) (η 0 19) := (k4.1.2.2.2.1 0 19 (by decide +kernel)).trans v23
  have c3_0_19 : η3 0 19 = η 0 19 := v31
  have v32 : zEq (η3 0 44) (η 0 44) := (k4.1.2.2.2.1 0 44 (by decide +kernel)).trans v24
  have c3_0_44 : η3 0 44 = η 0 44 := v32
  have v33 : zEq (η3 0 7) (η 0 7) := (k4.1.2.2.2.1 0 7 (by decide +kernel)).trans v25
  have c3_0_7 : η3 0 7 = η 0 7 := v33
  have v34 : zEq (η3 0 6) (η 0 6) := (k4.1.2.2.2.1 0 6 (by decide +kernel)).trans v26
  have c3_0_6 : η3 0 6 = η 0 6 := v34
  have v35 : zEq (η3 0 8) (η 0 8) := (k4.1.2.2.2.1 0 8 (by decide +kernel)).trans v18
  have c3_0_8 : η3 0 8 = η 0 8 := v35
  have wb4 : wB wl_l zTr η4 := k5.1.1
  have bx5 : (0 : Int) ≤ x5 ∧ x5 ≤ 1 := k5.1.2.1
  have fm1 : zFm zMl_signs η0 η1 := zFm_tr2 hI.2 k1.1.2.2.2.1 (by decide +kernel)
  have fm2 : zFm zMl_signs η0 η2 := zFm_tr2 fm1 k2.1.2.2.2.1 (by decide +kernel)
  have fm3 : zFm zMl_signs η0 η3 := zFm_tr2 fm2 k4.1.2.2.2.1 (by decide +kernel)
  have fm4 : zFm zMl_signs η0 η4 := zFm_tr2 fm3 k5.1.2.2.2.1 (by decide +kernel)
  have fmE : zFm zMl_signs η0 η4 := fm4
  have fr22_0 : ∀ j, η 22 j = η 22 j := fun _ => rfl
  have v36 : ∀ j, η1 22 j = η 22 j := fun j => k1.1.2.2.2.1 22 _ (zinr_not (by decide +kernel))
  have fr22_1 : ∀ j, η1 22 j = η 22 j := v36
  have v37 : ∀ j, η2 22 j = η 22 j := fun j => (k2.1.2.2.2.1 22 _ (zinr_not (by decide +kernel))).trans (v36 j)
  have fr22_2 : ∀ j, η2 22 j = η 22 j := v37
  have v38 : ∀ j, η3 22 j = η 22 j := fun j => (k4.1.2.2.2.1 22 _ (zinr_not (by decide +kernel))).trans (v37 j)
  have fr22_3 : ∀ j, η3 22 j = η 22 j := v38
  have v39 : ∀ j, η4 22 j = η 22 j := fun j => (k5.1.2.2.2.1 22 _ (zinr_not (by decide +kernel))).trans (v38 j)
  have fr22_4 : ∀ j, η4 22 j = η 22 j := v39
  have fr22 : ∀ j, η4 22 j = η 22 j := v39
  have v40 : zEq (η4 0 41) (η 0 41) := (k5.1.2.2.2.1 0 41 (by decide +kernel)).trans v27
  have f0_41 : η4 0 41 = η 0 41 := v40
  have v41 : zEq (η4 0 43) (η 0 43) := (k5.1.2.2.2.1 0 43 (by decide +kernel)).trans v28
  have f0_43 : η4 0 43 = η 0 43 := v41
  have v42 : zEq (η4 0 42) (η 0 42) := (k5.1.2.2.2.1 0 42 (by decide +kernel)).trans v29
  have f0_42 : η4 0 42 = η 0 42 := v42
  have v43 : zEq (η4 0 45) (η 0 45) := (k5.1.2.2.2.1 0 45 (by decide +kernel)).trans v30
  have f0_45 : η4 0 45 = η 0 45 := v43
  have v44 : zEq (η4 0 19) (η 0 19) := (k5.1.2.2.2.1 0 19 (by decide +kernel)).trans v31
  have f0_19 : η4 0 19 = η 0 19 := v44
  have v45 : zEq (η4 0 44) (η 0 44) := (k5.1.2.2.2.1 0 44 (by decide +kernel)).trans v32
  have f0_44 : η4 0 44 = η 0 44 := v45
  have v46 : zEq (η4 0 7) (η 0 7) := (k5.1.2.2.2.1 0 7 (by decide +kernel)).trans v33
  have f0_7 : η4 0 7 = η 0 7 := v46
  have v47 : zEq (η4 0 6) (η 0 6) := (k5.1.2.2.2.1 0 6 (by decide +kernel)).trans v34
  have f0_6 : η4 0 6 = η 0 6 := v47
  have v48 : zEq (η4 0 8) (η 0 8) := (k5.1.2.2.2.1 0 8 (by decide +kernel)).trans v35
  have f0_8 : η4 0 8 = η 0 8 := v48
  have wbE : wB wl_l zTr η4 := wb4
  
  have I0 : H_l 0 0 0 η := hig.1
  have I1 : H_l 0 0 0 η1 := k1.2.1
  have I2 : H_l 0 0 0 η2 := k2.2.1
  have I3 : H_l 0 0 0 η3 := k4.2.1
  have I4 : H_l 0 0 0 η4 := k5.2.1
  exact I4
set_option maxHeartbeats 8000000 in
theorem zl_signs_o11 {ro : Nat → List Int32} (xs : List Int) (η0 : zE) (hp : sP wl_l zTr zPl_signs xs η0) (hpp : pPl_signs xs η0) (η : zE) (hI : zsI wl_l zTr zVl_signs zMl_signs η0 0 [] η) (hig : iCl_signs xs η0 0 [] η) : ∀ (x1 : Int) (η1 : zE), ((gC2 wl_l [(nat_lit 0, zPl_isSign, zOl_isSign, zMl_isSign), (nat_lit 1, zPl_wrong, zOl_wrong, zMl_wrong), (nat_lit 2, zPl_token, zOl_token, zMl_token), (nat_lit 3, zPl_isKey, zOl_isKey, zMl_isKey), (nat_lit 4, zPl_isCounted, zOl_isCounted, zMl_isCounted), (nat_lit 5, zPl_waitsFor, zOl_waitsFor, zMl_waitsFor), (nat_lit 6, zPl_rank, zOl_rank, zMl_rank), (nat_lit 7, zPl_bind, zOl_bind, zMl_bind)] pCl_signs qCl_signs) 3).2 [10] η x1 η1 → (x1 = 0) → ∀ (x2 : Int) (η2 : zE), ((gC2 wl_l [(nat_lit 0, zPl_isSign, zOl_isSign, zMl_isSign), (nat_lit 1, zPl_wrong, zOl_wrong, zMl_wrong), (nat_lit 2, zPl_token, zOl_token, zMl_token), (nat_lit 3, zPl_isKey, zOl_isKey, zMl_isKey), (nat_lit 4, zPl_isCounted, zOl_isCounted, zMl_isCounted), (nat_lit 5, zPl_waitsFor, zOl_waitsFor, zMl_waitsFor), (nat_lit 6, zPl_rank, zOl_rank, zMl_rank), (nat_lit 7, zPl_bind, zOl_bind, zMl_bind)] pCl_signs qCl_signs) 3).2 [11] η1 x2 η2 → (x2 = 0) → ∀ x3 : Int, x3 = η2 0 (Int.toNat 8) → zok 0 x3 → (¬ x3 = 5) → ∀ (x4 : Int) (η3 : zE), ((gC2 wl_l [(nat_lit 0, zPl_isSign, zOl_isSign, zMl_isSign), (nat_lit 1, zPl_wrong, zOl_wrong, zMl_wrong), (nat_lit 2, zPl_token, zOl_token, zMl_token), (nat_lit 3, zPl_isKey, zOl_isKey, zMl_isKey), (nat_lit 4, zPl_isCounted, zOl_isCounted, zMl_isCounted), (nat_lit 5, zPl_waitsFor, zOl_waitsFor, zMl_waitsFor), (nat_lit 6, zPl_rank, zOl_rank, zMl_rank), (nat_lit 7, zPl_bind, zOl_bind, zMl_bind)] pCl_signs qCl_signs) 0).2 [43] η2 x4 η3 → (x4 = 0) → ∀ (x5 : Int) (η4 : zE), ((gC2 wl_l [(nat_lit 0, zPl_isSign, zOl_isSign, zMl_isSign), (nat_lit 1, zPl_wrong, zOl_wrong, zMl_wrong), (nat_lit 2, zPl_token, zOl_token, zMl_token), (nat_lit 3, zPl_isKey, zOl_isKey, zMl_isKey), (nat_lit 4, zPl_isCounted, zOl_isCounted, zMl_isCounted), (nat_lit 5, zPl_waitsFor, zOl_waitsFor, zMl_waitsFor), (nat_lit 6, zPl_rank, zOl_rank, zMl_rank), (nat_lit 7, zPl_bind, zOl_bind, zMl_bind)] pCl_signs qCl_signs) 0).2 [45] η3 x5 η4 → (x5 = 0) → ∀ (x6 : Int) (η5 : zE), ((gC2 wl_l [(nat_lit 0, zPl_isSign, zOl_isSign, zMl_isSign), (nat_lit 1, zPl_wrong, zOl_wrong, zMl_wrong), (nat_lit 2, zPl_token, zOl_token, zMl_token), (nat_lit 3, zPl_isKey, zOl_isKey, zMl_isKey), (nat_lit 4, zPl_isCounted, zOl_isCounted, zMl_isCounted), (nat_lit 5, zPl_waitsFor, zOl_waitsFor, zMl_waitsFor), (nat_lit 6, zPl_rank, zOl_rank, zMl_rank), (nat_lit 7, zPl_bind, zOl_bind, zMl_bind)] pCl_signs qCl_signs) 0).2 [42] η4 x6 η5 → (x6 = 0) → ((gC2 wl_l [(nat_lit 0, zPl_isSign, zOl_isSign, zMl_isSign), (nat_lit 1, zPl_wrong, zOl_wrong, zMl_wrong), (nat_lit 2, zPl_token, zOl_token, zMl_token), (nat_lit 3, zPl_isKey, zOl_isKey, zMl_isKey), (nat_lit 4, zPl_isCounted, zOl_isCounted, zMl_isCounted), (nat_lit 5, zPl_waitsFor, zOl_waitsFor, zMl_waitsFor), (nat_lit 6, zPl_rank, zOl_rank, zMl_rank), (nat_lit 7, zPl_bind, zOl_bind, zMl_bind)] pCl_signs qCl_signs) 0).1 [47] η5 := by
  have hw : η 0 45 = 0 := hig.2.1
  have hr1 : 1 ≤ η 0 19 := hig.2.2.1
  have hs1 : η 0 7 = η0 0 7 := hig.2.2.2.1
  have hs2 : η 0 6 = η0 0 6 := hig.2.2.2.2.1
  have hs3 : η 0 8 = η0 0 8 := hig.2.2.2.2.2
  have kk : η 0 8 = 5 → 0 ≤ η 0 9 ∧ η 0 9 ≤ 5 := hig.1.1.1.2.1.2
  have bd43 : (0 : Int) ≤ η 0 43 ∧ η 0 43 ≤ 8 := wf_ok (a := 43) (b := 43) (z := (0, 8)) hI.1.1 (by decide +kernel) (Nat.le_refl _) (Nat.le_refl _)
  have bd44 : (0 : Int) ≤ η 0 44 ∧ η 0 44 ≤ 64 := wf_ok (a := 44) (b := 44) (z := (0, 64)) hI.1.1 (by decide +kernel) (Nat.le_refl _) (Nat.le_refl _)
  have bd19 : (0 : Int) ≤ η 0 19 ∧ η 0 19 ≤ 64 := wf_ok (a := 19) (b := 19) (z := (0, 64)) hI.1.1 (by decide +kernel) (Nat.le_refl _) (Nat.le_refl _)
  obtain ⟨u1, u2, u3, u4⟩ := hig.1.2
  have cn := cz_n (η := η) (η 0 41).toNat
  intro x1 η1 h1 c1 x2 η2 h2 c2 x3 e3 r3 c3 x4 η3 h4 c4 x5 η4 h5 c5 x6 η5 h6 c6
  have k1 : sQ wl_l zTr zOl_isKey zMl_isKey [10] η x1 η1 ∧ pQl_isKey [10] η x1 η1 := h1
  have k2 : sQ wl_l zTr zOl_isKey zMl_isKey [11] η1 x2 η2 ∧ pQl_isKey [11] η1 x2 η2 := h2
  have k4 : sQ wl_l zTr zOl_isSign zMl_isSign [43] η2 x4 η3 ∧ pQl_isSign [43] η2 x4 η3 := h4
  have k5 : sQ wl_l zTr zOl_isSign zMl_isSign [45] η3 x5 η4 ∧ pQl_isSign [45] η3 x5 η4 := h5
  have k6 : sQ wl_l zTr zOl_isSign zMl_isSign [42] η4 x6 η5 ∧ pQl_isSign [42] η4 x6 η5 := h6
  have c0_0_41 : η 0 41 = η 0 41 := rfl
  have w0_0_43 : (0 : Int) ≤ η 0 43 ∧ η 0 43 ≤ 8 := wf_ok (a := 43) (b := 43) (z := (0, 8)) hI.1.1 (by decide +kernel) (Nat.le_refl _) (Nat.le_refl _)
  have c0_0_43 : η 0 43 = η 0 43 := rfl
  have c0_0_42 : η 0 42 = η 0 42 := rfl
  have c0_0_45 : η 0 45 = η 0 45 := rfl
  have w0_0_19 : (0 : Int) ≤ η 0 19 ∧ η 0 19 ≤ 64 := wf_ok (a := 19) (b := 19) (z := (0, 64)) hI.1.1 (by decide +kernel) (Nat.le_refl _) (Nat.le_refl _)
  have c0_0_19 : η 0 19 = η 0 19 := rfl
  have w0_0_44 : (0 : Int) ≤ η 0 44 ∧ η 0 44 ≤ 64 := wf_ok (a := 44) (b := 44) (z := (0, 64)) hI.1.1 (by decide +kernel) (Nat.le_refl _) (Nat.le_refl _)
  have c0_0_44 : η 0 44 = η 0 44 := rfl
  have w0_0_7 : (0 : Int) ≤ η 0 7 ∧ η 0 7 ≤ 700 := wf_ok (a := 7) (b := 7) (z := (0, 700)) hI.1.1 (by decide +kernel) (Nat.le_refl _) (Nat.le_refl _)
  have c0_0_7 : η 0 7 = η 0 7 := rfl
  have w0_0_6 : (0 : Int) ≤ η 0 6 ∧ η 0 6 ≤ 700 := wf_ok (a := 6) (b := 6) (z := (0, 700)) hI.1.1 (by decide +kernel) (Nat.le_refl _) (Nat.le_refl _)
  have c0_0_6 : η 0 6 = η 0 6 := rfl
  have w0_0_8 : (0 : Int) ≤ η 0 8 ∧ η 0 8 ≤ 6 := wf_ok (a := 8) (b := 8) (z := (0, 6)) hI.1.1 (by decide +kernel) (Nat.le_refl _) (Nat.le_refl _)
  have c0_0_8 : η 0 8 = η 0 8 := rfl
  have wb1 : wB wl_l zTr η1 := k1.1.1
  have bx1 : (0 : Int) ≤ x1 ∧ x1 ≤ 1 := k1.1.2.1
  have v9 : zEq (η1 0 41) (η 0 41) := (k1.1.2.2.2.1 0 41 (by decide +kernel)).trans rfl
  have c1_0_41 : η1 0 41 = η 0 41 := v9
  have v10 : zEq (η1 0 43) (η 0 43) := (k1.1.2.2.2.1 0 43 (by decide +kernel)).trans rfl
  have c1_0_43 : η1 0 43 = η 0 43 := v10
  have v11 : zEq (η1 0 42) (η 0 42) := (k1.1.2.2.2.1 0 42 (by decide +kernel)).trans rfl
  have c1_0_42 : η1 0 42 = η 0 42 := v11
  have v12 : zEq (η1 0 45) (η 0 45) := (k1.1.2.2.2.1 0 45 (by decide +kernel)).trans rfl
  have c1_0_45 : η1 0 45 = η 0 45 := v12
  have v13 : zEq (η1 0 19) (η 0 19) := (k1.1.2.2.2.1 0 19 (by decide +kernel)).trans rfl
  have c1_0_19 : η1 0 19 = η 0 19 := v13
  have v14 : zEq (η1 0 44) (η 0 44) := (k1.1.2.2.2.1 0 44 (by decide +kernel)).trans rfl
  have c1_0_44 : η1 0 44 = η 0 44 := v14
  have v15 : zEq (η1 0 7) (η 0 7) := (k1.1.2.2.2.1 0 7 (by decide +kernel)).trans rfl
  have c1_0_7 : η1 0 7 = η 0 7 := v15
  have v16 : zEq (η1 0 6) (η 0 6) := (k1.1.2.2.2.1 0 6 (by decide +kernel)).trans rfl
  have c1_0_6 : η1 0 6 = η 0 6 := v16
  have v17 : zEq (η1 0 8) (η 0 8) := (k1.1.2.2.2.1 0 8 (by decide +kernel)).trans rfl
  have c1_0_8 : η1 0 8 = η 0 8 := v17
  have wb2 : wB wl_l zTr η2 := k2.1.1
  have bx2 : (0 : Int) ≤ x2 ∧ x2 ≤ 1 := k2.1.2.1
  have v18 : zEq (η2 0 8) (η 0 8) := (k2.1.2.2.2.1 0 8 (by decide +kernel)).trans v17
  replace e3 : x3 = η 0 8 := e3.trans v18
  replace r3 : -2147483648 ≤ x3 ∧ x3 ≤ 2147483647 := r3
  have v19 : zEq (η2 0 41) (η 0 41) := (k2.1.2.2.2.1 0 41 (by decide +kernel)).trans v9
  have c2_0_41 : η2 0 41 = η 0 41 := v19
  have v20 : zEq (η2 0 43) (η 0 43) := (k2.1.2.2.2.1 0 43 (by decide +kernel)).trans v10
  have c2_0_43 : η2 0 43 = η 0 43 := v20
  have v21 : zEq (η2 0 42) (η 0 42) := (k2.1.2.2.2.1 0 42 (by decide +kernel)).trans v11
  have c2_0_42 : η2 0 42 = η 0 42 := v21
  have v22 : zEq (η2 0 45) (η 0 45) := (k2.1.2.2.2.1 0 45 (by decide +kernel)).trans v12
  have c2_0_45 : η2 0 45 = η 0 45 := v22
  have v23 : zEq (η2 0 19) (η 0 19) := (k2.1.2.2.2.1 0 19 (by decide +kernel)).trans v13
  have c2_0_19 : η2 0 19 = η 0 19 := v23
  have v24 : zEq (η2 0 44) (η 0 44) := (k2.1.2.2.2.1 0 44 (by decide +kernel)).trans v14
  have c2_0_44 : η2 0 44 = η 0 44 := v24
  have v25 : zEq (η2 0 7) (η 0 7) := (k2.1.2.2.2.1 0 7 (by decide +kernel)).trans v15
  have c2_0_7 : η2 0 7 = η 0 7 := v25
  have v26 : zEq (η2 0 6) (η 0 6) := (k2.1.2.2.2.1 0 6 (by decide +kernel)).trans v16
  have c2_0_6 : η2 0 6 = η 0 6 := v26
  have c2_0_8 : η2 0 8 = η 0 8 := v18
  have wb3 : wB wl_l zTr η3 := k4.1.1
  have bx4 : (0 : Int) ≤ x4 ∧ x4 ≤ 1 := k4.1.2.1
  have v27 : zEq (η3 0 41) (η 0 41) := (k4.1.2.2.2.1 0 41 (by decide +kernel)).trans v19
  have c3_0_41 : η3 0 41 = η 0 41 := v27
  have v28 : zEq (η3 0 43) (η 0 43) := (k4.1.2.2.2.1 0 43 (by decide +kernel)).trans v20
  have c3_0_43 : η3 0 43 = η 0 43 := v28
  have v29 : zEq (η3 0 42) (η 0 42) := (k4.1.2.2.2.1 0 42 (by decide +kernel)).trans v21
  have c3_0_42 : η3 0 42 = η 0 42 := v29
  have v30 : zEq (η3 0 45) (η 0 45) := (k4.1.2.2.2.1 0 45 (by decide +kernel)).trans v22
  have c3_0_45 : η3 0 45 = η 0 45 := v30
  have v31 : zEq (η3 0 19) (η 0 19) := (k4.1.2.2.2.1 0 19 (by decide +kernel)).trans v23
  have c3_0_19 : η3 0 19 = η 0 19 := v31
  have v32 : zEq (η3 0 44) (η 0 44) := (k4.1.2.2.2.1 0 44 (by decide +kernel)).trans v24
  have c3_0_44 : η3 0 44 = η 0 44 := v32
  have v33 : zEq (η3 0 7) (η 0 7) := (k4.1.2.2.2.1 0 7 (by decide +kernel)).trans v25
  have c3_0_7 : η3 0 7 = η 0 7 := v33
  have v34 : zEq (η3 0 6) (η 0 6) := (k4.1.2.2.2.1 0 6 (by decide +kernel)).trans v26
  have c3_0_6 : η3 0 6 = η 0 6 := v34
  have v35 : zEq (η3 0 8) (η 0 8) := (k4.1.2.2.2.1 0 8 (by decide +kernel)).trans v18
  have c3_0_8 : η3 0 8 = η 0 8 := v35
  have wb4 : wB wl_l zTr η4 := k5.1.1
  have bx5 : (0 : Int) ≤ x5 ∧ x5 ≤ 1 := k5.1.2.1
  have v36 : zEq (η4 0 41) (η 0 41) := (k5.1.2.2.2.1 0 41 (by decide +kernel)).trans v27
  have c4_0_41 : η4 0 41 = η 0 41 := v36
  have v37 : zEq (η4 0 43) (η 0 43) := (k5.1.2.2.2.1 0 43 (by decide +kernel)).trans v28
  have c4_0_43 : η4 0 43 = η 0 43 := v37
  have v38 : zEq (η4 0 42) (η 0 42) := (k5.1.2.2.2.1 0 42 (by decide +kernel)).trans v29
  have c4_0_42 : η4 0 42 = η 0 42 := v38
  have v39 : zEq (η4 0 45) (η 0 45) := (k5.1.2.2.2.1 0 45 (by decide +kernel)).trans v30
  have c4_0_45 : η4 0 45 = η 0 45 := v39
  have v40 : zEq (η4 0 19) (η 0 19) := (k5.1.2.2.2.1 0 19 (by decide +kernel)).trans v31
  have c4_0_19 : η4 0 19 = η 0 19 := v40
  have v41 : zEq (η4 0 44) (η 0 44) := (k5.1.2.2.2.1 0 44 (by decide +kernel)).trans v32
  have c4_0_44 : η4 0 44 = η 0 44 := v41
  have v42 : zEq (η4 0 7) (η 0 7) := (k5.1.2.2.2.1 0 7 (by decide +kernel)).trans v33
  have c4_0_7 : η4 0 7 = η 0 7 := v42
  have v43 : zEq (η4 0 6) (η 0 6) := (k5.1.2.2.2.1 0 6 (by decide +kernel)).trans v34
  have c4_0_6 : η4 0 6 = η 0 6 := v43
  have v44 : zEq (η4 0 8) (η 0 8) := (k5.1.2.2.2.1 0 8 (by decide +kernel)).trans v35
  have c4_0_8 : η4 0 8 = η 0 8 := v44
  have wb5 : wB wl_l zTr η5 := k6.1.1
  have bx6 : (0 : Int) ≤ x6 ∧ x6 ≤ 1 := k6.1.2.1
  have fm1 : zFm zMl_signs η0 η1 := zFm_tr2 hI.2 k1.1.2.2.2.1 (by decide +kernel)
  have fm2 : zFm zMl_signs η0 η2 := zFm_tr2 fm1 k2.1.2.2.2.1 (by decide +kernel)
  have fm3 : zFm zMl_signs η0 η3 := zFm_tr2 fm2 k4.1.2.2.2.1 (by decide +kernel)
  have fm4 : zFm zMl_signs η0 η4 := zFm_tr2 fm3 k5.1.2.2.2.1 (by decide +kernel)
  have fm5 : zFm zMl_signs η0 η5 := zFm_tr2 fm4 k6.1.2.2.2.1 (by decide +kernel)
  have fmE : zFm zMl_signs η0 η5 := fm5
  have fr22_0 : ∀ j, η 22 j = η 22 j := fun _ => rfl
  have v45 : ∀ j, η1 22 j = η 22 j := fun j => k1.1.2.2.2.1 22 _ (zinr_not (by decide +kernel))
  have fr22_1 : ∀ j, η1 22 j = η 22 j := v45
  have v46 : ∀ j, η2 22 j = η 22 j := fun j => (k2.1.2.2.2.1 22 _ (zinr_not (by decide +kernel))).trans (v45 j)
  have fr22_2 : ∀ j, η2 22 j = η 22 j := v46
  have v47 : ∀ j, η3 22 j = η 22 j := fun j => (k4.1.2.2.2.1 22 _ (zinr_not (by decide +kernel))).trans (v46 j)
  have fr22_3 : ∀ j, η3 22 j = η 22 j := v47
  have v48 : ∀ j, η4 22 j = η 22 j := fun j => (k5.1.2.2.2.1 22 _ (zinr_not (by decide +kernel))).trans (v47 j)
  have fr22_4 : ∀ j, η4 22 j = η 22 j := v48
  have v49 : ∀ j, η5 22 j = η 22 j := fun j => (k6.1.2.2.2.1 22 _ (zinr_not (by decide +kernel))).trans (v48 j)
  have fr22_5 : ∀ j, η5 22 j = η 22 j := v49
  have fr22 : ∀ j, η5 22 j = η 22 j := v49
  have v50 : zEq (η5 0 41) (η 0 41) := (k6.1.2.2.2.1 0 41 (by decide +kernel)).trans v36
  have f0_41 : η5 0 41 = η 0 41 := v50
  have v51 : zEq (η5 0 43) (η 0 43) := (k6.1.2.2.2.1 0 43 (by decide +kernel)).trans v37
  have f0_43 : η5 0 43 = η 0 43 := v51
  have v52 : zEq (η5 0 42) (η 0 42) := (k6.1.2.2.2.1 0 42 (by decide +kernel)).trans v38
  have f0_42 : η5 0 42 = η 0 42 := v52
  have v53 : zEq (η5 0 45) (η 0 45) := (k6.1.2.2.2.1 0 45 (by decide +kernel)).trans v39
  have f0_45 : η5 0 45 = η 0 45 := v53
  have v54 : zEq (η5 0 19) (η 0 19) := (k6.1.2.2.2.1 0 19 (by decide +kernel)).trans v40
  have f0_19 : η5 0 19 = η 0 19 := v54
  have v55 : zEq (η5 0 44) (η 0 44) := (k6.1.2.2.2.1 0 44 (by decide +kernel)).trans v41
  have f0_44 : η5 0 44 = η 0 44 := v55
  have v56 : zEq (η5 0 7) (η 0 7) := (k6.1.2.2.2.1 0 7 (by decide +kernel)).trans v42
  have f0_7 : η5 0 7 = η 0 7 := v56
  have v57 : zEq (η5 0 6) (η 0 6) := (k6.1.2.2.2.1 0 6 (by decide +kernel)).trans v43
  have f0_6 : η5 0 6 = η 0 6 := v57
  have v58 : zEq (η5 0 8) (η 0 8) := (k6.1.2.2.2.1 0 8 (by decide +kernel)).trans v44
  have f0_8 : η5 0 8 = η 0 8 := v58
  have wbE : wB wl_l zTr η5 := wb5
  
  have I0 : H_l 0 0 0 η := hig.1
  have I1 : H_l 0 0 0 η1 := k1.2.1
  have I2 : H_l 0 0 0 η2 := k2.2.1
  have I3 : H_l 0 0 0 η3 := k4.2.1
  have I4 : H_l 0 0 0 η4 := k5.2.1
  have I5 : H_l 0 0 0 η5 := k6.2.1
  exact I5
