set_option maxHeartbeats 8000000 in
theorem zle_signs_o24 {ro : Nat → List Int32} (xs : List Int) (η0 : zE) (hp : sP wl_le zTr zPle_signs xs η0) (hpp : pPle_signs xs η0) (x1 : Int) (η : zE) (hI : zsI wl_le zTr zVle_signs zMle_signs η0 1 [x1] η) (hig : iCle_signs xs η0 1 [x1] η) : (x1 = 0) → ∀ (x2 : Int) (η1 : zE), ((gC2 wl_le [(nat_lit 0, zPle_isSign, zOle_isSign, zMle_isSign), (nat_lit 1, zPle_wrong, zOle_wrong, zMle_wrong), (nat_lit 2, zPle_token, zOle_token, zMle_token), (nat_lit 3, zPle_isKey, zOle_isKey, zMle_isKey), (nat_lit 4, zPle_isCounted, zOle_isCounted, zMle_isCounted), (nat_lit 5, zPle_waitsFor, zOle_waitsFor, zMle_waitsFor), (nat_lit 6, zPle_rank, zOle_rank, zMle_rank), (nat_lit 7, zPle_bind, zOle_bind, zMle_bind)] pCle_signs qCle_signs) 1).2 [1] η x2 η1 → (fun (_ : Nat) (y : Int) (η' : zE) => pQle_signs xs η0 y η') 0 x2 η1 := by
  have fig := hig.2
  have hig := hig.1
  intro c1 x2 η1 h2
  have y2 : fQle_wrong [1] η x2 η1 := h2.2.2
  have k2 : sQ wl_le zTr zOle_wrong zMle_wrong [1] η x2 η1 ∧ oQle_wrong [1] η x2 η1 := ⟨h2.1, h2.2.1⟩
  refine yj_a ?_ ?_
  · have hw : η 0 45 = 0 := hig.2.1
    have hr1 : 1 ≤ η 0 19 := hig.2.2.1
    have hs1 : η 0 7 = η0 0 7 := hig.2.2.2.1
    have hs2 : η 0 6 = η0 0 6 := hig.2.2.2.2.1
    have hs3 : η 0 8 = η0 0 8 := hig.2.2.2.2.2.1
    have hk : x1 = 0 ∨ (3 ≤ x1 ∧ ¬ η 0 8 = 0) := hig.2.2.2.2.2.2
    have kk : η 0 8 = 5 → 0 ≤ η 0 9 ∧ η 0 9 ≤ 5 := hig.1.1.1.2.1.2
    have bd43 : (0 : Int) ≤ η 0 43 ∧ η 0 43 ≤ 8 := wf_ok (a := 43) (b := 43) (z := (0, 8)) hI.1.1 (by decide +kernel) (Nat.le_refl _) (Nat.le_refl _)
    have bd44 : (0 : Int) ≤ η 0 44 ∧ η 0 44 ≤ 64 := wf_ok (a := 44) (b := 44) (z := (0, 64)) hI.1.1 (by decide +kernel) (Nat.le_refl _) (Nat.le_refl _)
    have bd19 : (0 : Int) ≤ η 0 19 ∧ η 0 19 ≤ 64 := wf_ok (a := 19) (b := 19) (z := (0, 64)) hI.1.1 (by decide +kernel) (Nat.le_refl _) (Nat.le_refl _)
    obtain ⟨u1, u2, u3, u4⟩ := hig.1.2
    have cn := cz_n (η := η) (η 0 41).toNat
    have y2 : fQle_wrong [1] η x2 η1 := h2.2.2
    have k2 : sQ wl_le zTr zOle_wrong zMle_wrong [1] η x2 η1 ∧ oQle_wrong [1] η x2 η1 := ⟨h2.1, h2.2.1⟩
    have bx1 : (0 : Int) ≤ x1 ∧ x1 ≤ 14 := hI.1.2.1.1
    have w0_0_8 : (0 : Int) ≤ η 0 8 ∧ η 0 8 ≤ 6 := wf_ok (a := 8) (b := 8) (z := (0, 6)) hI.1.1 (by decide +kernel) (Nat.le_refl _) (Nat.le_refl _)
    have c0_0_8 : η 0 8 = η 0 8 := rfl
    have wb1 : wB wl_le zTr η1 := k2.1.1
    have bx2 : (0 : Int) ≤ x2 ∧ x2 ≤ 0 := k2.1.2.1
    have fm1 : zFm zMle_signs η0 η1 := zFm_tr2 hI.2 k2.1.2.2.2.1 (by decide +kernel)
    have fmE : zFm zMle_signs η0 η1 := fm1
    have fr22_0 : ∀ j, η 22 j = η 22 j := fun _ => rfl
    have v1 : ∀ j, η1 22 j = η 22 j := fun j => k2.1.2.2.2.1 22 _ (zinr_not (by decide +kernel))
    have fr22_1 : ∀ j, η1 22 j = η 22 j := v1
    have fr22 : ∀ j, η1 22 j = η 22 j := v1
    have v3 : zEq (η1 0 41) (η 0 41) := (k2.1.2.2.2.1 0 41 (by decide +kernel)).trans rfl
    have f0_41 : η1 0 41 = η 0 41 := v3
    have w0_0_43 : (0 : Int) ≤ η 0 43 ∧ η 0 43 ≤ 8 := wf_ok (a := 43) (b := 43) (z := (0, 8)) hI.1.1 (by decide +kernel) (Nat.le_refl _) (Nat.le_refl _)
    have v5 : zEq (η1 0 43) (η 0 43) := (k2.1.2.2.2.1 0 43 (by decide +kernel)).trans rfl
    have f0_43 : η1 0 43 = η 0 43 := v5
    have v7 : zEq (η1 0 42) (η 0 42) := (k2.1.2.2.2.1 0 42 (by decide +kernel)).trans rfl
    have f0_42 : η1 0 42 = η 0 42 := v7
    have v9 : zEq (η1 0 45) (η 0 45) := (k2.1.2.2.2.1 0 45 (by decide +kernel)).trans rfl
    have f0_45 : η1 0 45 = η 0 45 := v9
    have w0_0_19 : (0 : Int) ≤ η 0 19 ∧ η 0 19 ≤ 64 := wf_ok (a := 19) (b := 19) (z := (0, 64)) hI.1.1 (by decide +kernel) (Nat.le_refl _) (Nat.le_refl _)
    have v11 : zEq (η1 0 19) (η 0 19) := (k2.1.2.2.2.1 0 19 (by decide +kernel)).trans rfl
    have f0_19 : η1 0 19 = η 0 19 := v11
    have w0_0_44 : (0 : Int) ≤ η 0 44 ∧ η 0 44 ≤ 64 := wf_ok (a := 44) (b := 44) (z := (0, 64)) hI.1.1 (by decide +kernel) (Nat.le_refl _) (Nat.le_refl _)
    have v13 : zEq (η1 0 44) (η 0 44) := (k2.1.2.2.2.1 0 44 (by decide +kernel)).trans rfl
    have f0_44 : η1 0 44 = η 0 44 := v13
    have w0_0_7 : (0 : Int) ≤ η 0 7 ∧ η 0 7 ≤ 700 := wf_ok (a := 7) (b := 7) (z := (0, 700)) hI.1.1 (by decide +kernel) (Nat.le_refl _) (Nat.le_refl _)
    have v15 : zEq (η1 0 7) (η 0 7) := (k2.1.2.2.2.1 0 7 (by decide +kernel)).trans rfl
    have f0_7 : η1 0 7 = η 0 7 := v15
    have w0_0_6 : (0 : Int) ≤ η 0 6 ∧ η 0 6 ≤ 700 := wf_ok (a := 6) (b := 6) (z := (0, 700)) hI.1.1 (by decide +kernel) (Nat.le_refl _) (Nat.le_refl _)
    have v17 : zEq (η1 0 6) (η 0 6) := (k2.1.2.2.2.1 0 6 (by decide +kernel)).trans rfl
    have f0_6 : η1 0 6 = η 0 6 := v17
    have v18 : zEq (η1 0 8) (η 0 8) := (k2.1.2.2.2.1 0 8 (by decide +kernel)).trans rfl
    have f0_8 : η1 0 8 = η 0 8 := v18
    have wbE : wB wl_le zTr η1 := wb1
    
    have I0 : H_l 0 0 0 η := hig.1
    have I1 : H_l 0 0 0 η1 := k2.2
    exact ⟨I1.1, fun w => absurd (show (x2 : Int) = 0 by apply Int.le_antisymm <;> omega) w⟩
  · have fig : yq_sgn η0 = yq_sgB x1 η := fig
    have goal_ : (x2, η1) = yq_sgn η0 := by
      obtain ⟨a2, b2⟩ : x2 = 0 ∧ η1 = (yq_wr 1 η) := y2
      clear k2 h2
      subst a2; subst b2
      rw [fig]
      unfold yq_sgB yq_no
      (repeat' split) <;> first | (exfalso; omega) | exact ⟨rfl, rfl⟩ | rfl
    exact ⟨congrArg Prod.fst goal_, congrArg Prod.snd goal_⟩
set_option maxHeartbeats 8000000 in
theorem zle_signs_o25 {ro : Nat → List Int32} (xs : List Int) (η0 : zE) (hp : sP wl_le zTr zPle_signs xs η0) (hpp : pPle_signs xs η0) (x1 : Int) (η : zE) (hI : zsI wl_le zTr zVle_signs zMle_signs η0 1 [x1] η) (hig : iCle_signs xs η0 1 [x1] η) : (¬ x1 = 0) → ∀ (x2 : Int) (η1 : zE), ((gC wl_le [(nat_lit 0, zPle_isSign, zOle_isSign, zMle_isSign), (nat_lit 1, zPle_wrong, zOle_wrong, zMle_wrong), (nat_lit 2, zPle_token, zOle_token, zMle_token), (nat_lit 3, zPle_isKey, zOle_isKey, zMle_isKey), (nat_lit 4, zPle_isCounted, zOle_isCounted, zMle_isCounted), (nat_lit 5, zPle_waitsFor, zOle_waitsFor, zMle_waitsFor), (nat_lit 6, zPle_rank, zOle_rank, zMle_rank), (nat_lit 7, zPle_bind, zOle_bind, zMle_bind)] pCle_signs qCle_signs) 6).2 [x1] η x2 η1 → (¬ x2 = 4) → ∀ (x3 : Int) (η2 : zE), ((gC wl_le [(nat_lit 0, zPle_isSign, zOle_isSign, zMle_isSign), (nat_lit 1, zPle_wrong, zOle_wrong, zMle_wrong), (nat_lit 2, zPle_token, zOle_token, zMle_token), (nat_lit 3, zPle_isKey, zOle_isKey, zMle_isKey), (nat_lit 4, zPle_isCounted, zOle_isCounted, zMle_isCounted), (nat_lit 5, zPle_waitsFor, zOle_waitsFor, zMle_waitsFor), (nat_lit 6, zPle_rank, zOle_rank, zMle_rank), (nat_lit 7, zPle_bind, zOle_bind, zMle_bind)] pCle_signs qCle_signs) 6).2 [x1] η1 x3 η2 → ((gC wl_le [(nat_lit 0, zPle_isSign, zOle_isSign, zMle_isSign), (nat_lit 1, zPle_wrong, zOle_wrong, zMle_wrong), (nat_lit 2, zPle_token, zOle_token, zMle_token), (nat_lit 3, zPle_isKey, zOle_isKey, zMle_isKey), (nat_lit 4, zPle_isCounted, zOle_isCounted, zMle_isCounted), (nat_lit 5, zPle_waitsFor, zOle_waitsFor, zMle_waitsFor), (nat_lit 6, zPle_rank, zOle_rank, zMle_rank), (nat_lit 7, zPle_bind, zOle_bind, zMle_bind)] pCle_signs qCle_signs) 7).1 [x3] η2 := by
  have fig := hig.2
  have hig := hig.1
  have hw : η 0 45 = 0 := hig.2.1
  have hr1 : 1 ≤ η 0 19 := hig.2.2.1
  have hs1 : η 0 7 = η0 0 7 := hig.2.2.2.1
  have hs2 : η 0 6 = η0 0 6 := hig.2.2.2.2.1
  have hs3 : η 0 8 = η0 0 8 := hig.2.2.2.2.2.1
  have hk : x1 = 0 ∨ (3 ≤ x1 ∧ ¬ η 0 8 = 0) := hig.2.2.2.2.2.2
  have kk : η 0 8 = 5 → 0 ≤ η 0 9 ∧ η 0 9 ≤ 5 := hig.1.1.1.2.1.2
  have bd43 : (0 : Int) ≤ η 0 43 ∧ η 0 43 ≤ 8 := wf_ok (a := 43) (b := 43) (z := (0, 8)) hI.1.1 (by decide +kernel) (Nat.le_refl _) (Nat.le_refl _)
  have bd44 : (0 : Int) ≤ η 0 44 ∧ η 0 44 ≤ 64 := wf_ok (a := 44) (b := 44) (z := (0, 64)) hI.1.1 (by decide +kernel) (Nat.le_refl _) (Nat.le_refl _)
  have bd19 : (0 : Int) ≤ η 0 19 ∧ η 0 19 ≤ 64 := wf_ok (a := 19) (b := 19) (z := (0, 64)) hI.1.1 (by decide +kernel) (Nat.le_refl _) (Nat.le_refl _)
  obtain ⟨u1, u2, u3, u4⟩ := hig.1.2
  have cn := cz_n (η := η) (η 0 41).toNat
  intro c1 x2 η1 h2 c2 x3 η2 h3
  have y2 : fQle_rank [x1] η x2 η1 := h2.2.2
  have k2 : sQ wl_le zTr zOle_rank zMle_rank [x1] η x2 η1 ∧ oQle_rank [x1] η x2 η1 := ⟨h2.1, h2.2.1⟩
  have y3 : fQle_rank [x1] η1 x3 η2 := h3.2.2
  have k3 : sQ wl_le zTr zOle_rank zMle_rank [x1] η1 x3 η2 ∧ oQle_rank [x1] η1 x3 η2 := ⟨h3.1, h3.2.1⟩
  have bx1 : (0 : Int) ≤ x1 ∧ x1 ≤ 14 := hI.1.2.1.1
  have w0_0_8 : (0 : Int) ≤ η 0 8 ∧ η 0 8 ≤ 6 := wf_ok (a := 8) (b := 8) (z := (0, 6)) hI.1.1 (by decide +kernel) (Nat.le_refl _) (Nat.le_refl _)
  have c0_0_8 : η 0 8 = η 0 8 := rfl
  have wb1 : wB wl_le zTr η1 := k2.1.1
  have bx2 : (0 : Int) ≤ x2 ∧ x2 ≤ 6 := k2.1.2.1
  have v1 : zEq (η1 0 8) (η 0 8) := (k2.1.2.2.2.1 0 8 (by decide +kernel)).trans rfl
  have c1_0_8 : η1 0 8 = η 0 8 := v1
  have wb2 : wB wl_le zTr η2 := k3.1.1
  have bx3 : (0 : Int) ≤ x3 ∧ x3 ≤ 6 := k3.1.2.1
  have fm1 : zFm zMle_signs η0 η1 := zFm_tr2 hI.2 k2.1.2.2.2.1 (by decide +kernel)
  have fm2 : zFm zMle_signs η0 η2 := zFm_tr2 fm1 k3.1.2.2.2.1 (by decide +kernel)
  have fmE : zFm zMle_signs η0 η2 := fm2
  have fr22_0 : ∀ j, η 22 j = η 22 j := fun _ => rfl
  have v2 : ∀ j, η1 22 j = η 22 j := fun j => k2.1.2.2.2.1 22 _ (zinr_not (by decide +kernel))
  have fr22_1 : ∀ j, η1 22 j = η 22 j := v2
  have v3 : ∀ j, η2 22 j = η 22 j := fun j => (k3.1.2.2.2.1 22 _ (zinr_not (by decide +kernel))).trans (v2 j)
  have fr22_2 : ∀ j, η2 22 j = η 22 j := v3
  have fr22 : ∀ j, η2 22 j = η 22 j := v3
  have v5 : zEq (η1 0 41) (η 0 41) := (k2.1.2.2.2.1 0 41 (by decide +kernel)).trans rfl
  have v6 : zEq (η2 0 41) (η 0 41) := (k3.1.2.2.2.1 0 41 (by decide +kernel)).trans v5
  have f0_41 : η2 0 41 = η 0 41 := v6
  have w0_0_43 : (0 : Int) ≤ η 0 43 ∧ η 0 43 ≤ 8 := wf_ok (a := 43) (b := 43) (z := (0, 8)) hI.1.1 (by decide +kernel) (Nat.le_refl _) (Nat.le_refl _)
  have v8 : zEq (η1 0 43) (η 0 43) := (k2.1.2.2.2.1 0 43 (by decide +kernel)).trans rfl
  have v9 : zEq (η2 0 43) (η 0 43) := (k3.1.2.2.2.1 0 43 (by decide +kernel)).trans v8
  have f0_43 : η2 0 43 = η 0 43 := v9
  have v11 : zEq (η1 0 42) (η 0 42) := (k2.1.2.2.2.1 0 42 (by decide +kernel)).trans rfl
  have v12 : zEq (η2 0 42) (η 0 42) := (k3.1.2.2.2.1 0 42 (by decide +kernel)).trans v11
  have f0_42 : η2 0 42 = η 0 42 := v12
  have v14 : zEq (η1 0 45) (η 0 45) := (k2.1.2.2.2.1 0 45 (by decide +kernel)).trans rfl
  have v15 : zEq (η2 0 45) (η 0 45) := (k3.1.2.2.2.1 0 45 (by decide +kernel)).trans v14
  have f0_45 : η2 0 45 = η 0 45 := v15
  have w0_0_19 : (0 : Int) ≤ η 0 19 ∧ η 0 19 ≤ 64 := wf_ok (a := 19) (b := 19) (z := (0, 64)) hI.1.1 (by decide +kernel) (Nat.le_refl _) (Nat.le_refl _)
  have v17 : zEq (η1 0 19) (η 0 19) := (k2.1.2.2.2.1 0 19 (by decide +kernel)).trans rfl
  have v18 : zEq (η2 0 19) (η 0 19) := (k3.1.2.2.2.1 0 19 (by decide +kernel)).trans v17
  have f0_19 : η2 0 19 = η 0 19 := v18
  have w0_0_44 : (0 : Int) ≤ η 0 44 ∧ η 0 44 ≤ 64 := wf_ok (a := 44) (b := 44) (z := (0, 64)) hI.1.1 (by decide +kernel) (Nat.le_refl _) (Nat.le_refl _)
  have v20 : zEq (η1 0 44) (η 0 44) := (k2.1.2.2.2.1 0 44 (by decide +kernel)).trans rfl
  have v21 : zEq (η2 0 44) (η 0 44) := (k3.1.2.2.2.1 0 44 (by decide +kernel)).trans v20
  have f0_44 : η2 0 44 = η 0 44 := v21
  have w0_0_7 : (0 : Int) ≤ η 0 7 ∧ η 0 7 ≤ 700 := wf_ok (a := 7) (b := 7) (z := (0, 700)) hI.1.1 (by decide +kernel) (Nat.le_refl _) (Nat.le_refl _)
  have v23 : zEq (η1 0 7) (η 0 7) := (k2.1.2.2.2.1 0 7 (by decide +kernel)).trans rfl
  have v24 : zEq (η2 0 7) (η 0 7) := (k3.1.2.2.2.1 0 7 (by decide +kernel)).trans v23
  have f0_7 : η2 0 7 = η 0 7 := v24
  have w0_0_6 : (0 : Int) ≤ η 0 6 ∧ η 0 6 ≤ 700 := wf_ok (a := 6) (b := 6) (z := (0, 700)) hI.1.1 (by decide +kernel) (Nat.le_refl _) (Nat.le_refl _)
  have v26 : zEq (η1 0 6) (η 0 6) := (k2.1.2.2.2.1 0 6 (by decide +kernel)).trans rfl
  have v27 : zEq (η2 0 6) (η 0 6) := (k3.1.2.2.2.1 0 6 (by decide +kernel)).trans v26
  have f0_6 : η2 0 6 = η 0 6 := v27
  have v28 : zEq (η2 0 8) (η 0 8) := (k3.1.2.2.2.1 0 8 (by decide +kernel)).trans v1
  have f0_8 : η2 0 8 = η 0 8 := v28
  have wbE : wB wl_le zTr η2 := wb2
  
  have I0 : H_l 0 0 0 η := hig.1
  have I1 : H_l 0 0 0 η1 := k2.2.1
  have qr2 : (1 ≤ x2 → 2 ≤ x1) ∧ (2 ≤ x1 → 1 ≤ x2) := k2.2.2
  have I2 : H_l 0 0 0 η2 := k3.2.1
  have qr3 : (1 ≤ x3 → 2 ≤ x1) ∧ (2 ≤ x1 → 1 ≤ x3) := k3.2.2
  exact ⟨⟨wbE, ⟨⟨show (1 : Int) ≤ x3 by omega, show x3 ≤ 6 by omega⟩, trivial⟩, fun f hf => nomatch hf⟩, ⟨I2, show η2 0 45 = 0 by apply Int.le_antisymm <;> omega⟩⟩
set_option maxHeartbeats 8000000 in
theorem zle_signs_o26 {ro : Nat → List Int32} (xs : List Int) (η0 : zE) (hp : sP wl_le zTr zPle_signs xs η0) (hpp : pPle_signs xs η0) (x1 : Int) (η : zE) (hI : zsI wl_le zTr zVle_signs zMle_signs η0 1 [x1] η) (hig : iCle_signs xs η0 1 [x1] η) : (¬ x1 = 0) → ∀ (x2 : Int) (η1 : zE), ((gC wl_le [(nat_lit 0, zPle_isSign, zOle_isSign, zMle_isSign), (nat_lit 1, zPle_wrong, zOle_wrong, zMle_wrong), (nat_lit 2, zPle_token, zOle_token, zMle_token), (nat_lit 3, zPle_isKey, zOle_isKey, zMle_isKey), (nat_lit 4, zPle_isCounted, zOle_isCounted, zMle_isCounted), (nat_lit 5, zPle_waitsFor, zOle_waitsFor, zMle_waitsFor), (nat_lit 6, zPle_rank, zOle_rank, zMle_rank), (nat_lit 7, zPle_bind, zOle_bind, zMle_bind)] pCle_signs qCle_signs) 6).2 [x1] η x2 η1 → (¬ x2 = 4) → ∀ (x3 : Int) (η2 : zE), ((gC wl_le [(nat_lit 0, zPle_isSign, zOle_isSign, zMle_isSign), (nat_lit 1, zPle_wrong, zOle_wrong, zMle_wrong), (nat_lit 2, zPle_token, zOle_token, zMle_token), (nat_lit 3, zPle_isKey, zOle_isKey, zMle_isKey), (nat_lit 4, zPle_isCounted, zOle_isCounted, zMle_isCounted), (nat_lit 5, zPle_waitsFor, zOle_waitsFor, zMle_waitsFor), (nat_lit 6, zPle_rank, zOle_rank, zMle_rank), (nat_lit 7, zPle_bind, zOle_bind, zMle_bind)] pCle_signs qCle_signs) 6).2 [x1] η1 x3 η2 → ∀ (x4 : Int) (η3 : zE), ((gC wl_le [(nat_lit 0, zPle_isSign, zOle_isSign, zMle_isSign), (nat_lit 1, zPle_wrong, zOle_wrong, zMle_wrong), (nat_lit 2, zPle_token, zOle_token, zMle_token), (nat_lit 3, zPle_isKey, zOle_isKey, zMle_isKey), (nat_lit 4, zPle_isCounted, zOle_isCounted, zMle_isCounted), (nat_lit 5, zPle_waitsFor, zOle_waitsFor, zMle_waitsFor), (nat_lit 6, zPle_rank, zOle_rank, zMle_rank), (nat_lit 7, zPle_bind, zOle_bind, zMle_bind)] pCle_signs qCle_signs) 7).2 [x3] η2 x4 η3 → (fun c ys η1 => zsI wl_le zTr zVle_signs zMle_signs η0 c ys η1 ∧ iCle_signs xs η0 c ys η1) 2 [x1] η3 ∧ (zsM zVle_signs) 2 [x1] η3 < zsM zVle_signs 1 [x1] η := by
  have fig := hig.2
  have hig := hig.1
  intro c1 x2 η1 h2 c2 x3 η2 h3 x4 η3 h4
  have y2 : fQle_rank [x1] η x2 η1 := h2.2.2
  have k2 : sQ wl_le zTr zOle_rank zMle_rank [x1] η x2 η1 ∧ oQle_rank [x1] η x2 η1 := ⟨h2.1, h2.2.1⟩
  have y3 : fQle_rank [x1] η1 x3 η2 := h3.2.2
  have k3 : sQ wl_le zTr zOle_rank zMle_rank [x1] η1 x3 η2 ∧ oQle_rank [x1] η1 x3 η2 := ⟨h3.1, h3.2.1⟩
  have y4 : fQle_bind [x3] η2 x4 η3 := h4.2.2
  have k4 : sQ wl_le zTr zOle_bind zMle_bind [x3] η2 x4 η3 ∧ oQle_bind [x3] η2 x4 η3 := ⟨h4.1, h4.2.1⟩
  refine yj_d ?_ ?_
  · have hw : η 0 45 = 0 := hig.2.1
    have hr1 : 1 ≤ η 0 19 := hig.2.2.1
    have hs1 : η 0 7 = η0 0 7 := hig.2.2.2.1
    have hs2 : η 0 6 = η0 0 6 := hig.2.2.2.2.1
    have hs3 : η 0 8 = η0 0 8 := hig.2.2.2.2.2.1
    have hk : x1 = 0 ∨ (3 ≤ x1 ∧ ¬ η 0 8 = 0) := hig.2.2.2.2.2.2
    have kk : η 0 8 = 5 → 0 ≤ η 0 9 ∧ η 0 9 ≤ 5 := hig.1.1.1.2.1.2
    have bd43 : (0 : Int) ≤ η 0 43 ∧ η 0 43 ≤ 8 := wf_ok (a := 43) (b := 43) (z := (0, 8)) hI.1.1 (by decide +kernel) (Nat.le_refl _) (Nat.le_refl _)
    have bd44 : (0 : Int) ≤ η 0 44 ∧ η 0 44 ≤ 64 := wf_ok (a := 44) (b := 44) (z := (0, 64)) hI.1.1 (by decide +kernel) (Nat.le_refl _) (Nat.le_refl _)
    have bd19 : (0 : Int) ≤ η 0 19 ∧ η 0 19 ≤ 64 := wf_ok (a := 19) (b := 19) (z := (0, 64)) hI.1.1 (by decide +kernel) (Nat.le_refl _) (Nat.le_refl _)
    obtain ⟨u1, u2, u3, u4⟩ := hig.1.2
    have cn := cz_n (η := η) (η 0 41).toNat
    have y2 : fQle_rank [x1] η x2 η1 := h2.2.2
    have k2 : sQ wl_le zTr zOle_rank zMle_rank [x1] η x2 η1 ∧ oQle_rank [x1] η x2 η1 := ⟨h2.1, h2.2.1⟩
    have y3 : fQle_rank [x1] η1 x3 η2 := h3.2.2
    have k3 : sQ wl_le zTr zOle_rank zMle_rank [x1] η1 x3 η2 ∧ oQle_rank [x1] η1 x3 η2 := ⟨h3.1, h3.2.1⟩
    have y4 : fQle_bind [x3] η2 x4 η3 := h4.2.2
    have k4 : sQ wl_le zTr zOle_bind zMle_bind [x3] η2 x4 η3 ∧ oQle_bind [x3] η2 x4 η3 := ⟨h4.1, h4.2.1⟩
    have bx1 : (0 : Int) ≤ x1 ∧ x1 ≤ 14 := hI.1.2.1.1
    have w0_0_8 : (0 : Int) ≤ η 0 8 ∧ η 0 8 ≤ 6 := wf_ok (a := 8) (b := 8) (z := (0, 6)) hI.1.1 (by decide +kernel) (Nat.le_refl _) (Nat.le_refl _)
    have c0_0_8 : η 0 8 = η 0 8 := rfl
    have wb1 : wB wl_le zTr η1 := k2.1.1
    have bx2 : (0 : Int) ≤ x2 ∧ x2 ≤ 6 := k2.1.2.1
    have v1 : zEq (η1 0 8) (η 0 8) := (k2.1.2.2.2.1 0 8 (by decide +kernel)).trans rfl
    have c1_0_8 : η1 0 8 = η 0 8 := v1
    have wb2 : wB wl_le zTr η2 := k3.1.1
    have bx3 : (0 : Int) ≤ x3 ∧ x3 ≤ 6 := k3.1.2.1
    have v2 : zEq (η2 0 8) (η 0 8) := (k3.1.2.2.2.1 0 8 (by decide +kernel)).trans v1
    have c2_0_8 : η2 0 8 = η 0 8 := v2
    have w0_0_19 : (0 : Int) ≤ η 0 19 ∧ η 0 19 ≤ 64 := wf_ok (a := 19) (b := 19) (z := (0, 64)) hI.1.1 (by decide +kernel) (Nat.le_refl _) (Nat.le_refl _)
    have v4 : zEq (η1 0 19) (η 0 19) := (k2.1.2.2.2.1 0 19 (by decide +kernel)).trans rfl
    have v5 : zEq (η2 0 19) (η 0 19) := (k3.1.2.2.2.1 0 19 (by decide +kernel)).trans v4
    have c2_0_19 : η2 0 19 = η 0 19 := v5
    have wb3 : wB wl_le zTr η3 := k4.1.1
    have bx4 : (0 : Int) ≤ x4 ∧ x4 ≤ 0 := k4.1.2.1
    have fm1 : zFm zMle_signs η0 η1 := zFm_tr2 hI.2 k2.1.2.2.2.1 (by decide +kernel)
    have fm2 : zFm zMle_signs η0 η2 := zFm_tr2 fm1 k3.1.2.2.2.1 (by decide +kernel)
    have fm3 : zFm zMle_signs η0 η3 := zFm_tr2 fm2 k4.1.2.2.2.1 (by decide +kernel)
    have fmE : zFm zMle_signs η0 η3 := fm3
    have fr22_0 : ∀ j, η 22 j = η 22 j := fun _ => rfl
    have v6 : ∀ j, η1 22 j = η 22 j := fun j => k2.1.2.2.2.1 22 _ (zinr_not (by decide +kernel))
    have fr22_1 : ∀ j, η1 22 j = η 22 j := v6
    have v7 : ∀ j, η2 22 j = η 22 j := fun j => (k3.1.2.2.2.1 22 _ (zinr_not (by decide +kernel))).trans (v6 j)
    have fr22_2 : ∀ j, η2 22 j = η 22 j := v7
    have v8 : ∀ j, η3 22 j = η 22 j := fun j => (k4.1.2.2.2.1 22 _ (zinr_not (by decide +kernel))).trans (v7 j)
    have fr22_3 : ∀ j, η3 22 j = η 22 j := v8
    have fr22 : ∀ j, η3 22 j = η 22 j := v8
    have f0_41 : η3 0 41 = η3 0 41 := rfl
    have w0_0_43 : (0 : Int) ≤ η 0 43 ∧ η 0 43 ≤ 8 := wf_ok (a := 43) (b := 43) (z := (0, 8)) hI.1.1 (by decide +kernel) (Nat.le_refl _) (Nat.le_refl _)
    have v11 : zEq (η1 0 43) (η 0 43) := (k2.1.2.2.2.1 0 43 (by decide +kernel)).trans rfl
    have v12 : zEq (η2 0 43) (η 0 43) := (k3.1.2.2.2.1 0 43 (by decide +kernel)).trans v11
    have v13 : zEq (η3 0 43) (η 0 43) := (k4.1.2.2.2.1 0 43 (by decide +kernel)).trans v12
    have f0_43 : η3 0 43 = η 0 43 := v13
    have f0_42 : η3 0 42 = η3 0 42 := rfl
    have v16 : zEq (η1 0 45) (η 0 45) := (k2.1.2.2.2.1 0 45 (by decide +kernel)).trans rfl
    have v17 : zEq (η2 0 45) (η 0 45) := (k3.1.2.2.2.1 0 45 (by decide +kernel)).trans v16
    have v18 : zEq (η3 0 45) (η 0 45) := (k4.1.2.2.2.1 0 45 (by decide +kernel)).trans v17
    have f0_45 : η3 0 45 = η 0 45 := v18
    have w3_0_19 : (0 : Int) ≤ η3 0 19 ∧ η3 0 19 ≤ 64 := wf_ok (a := 19) (b := 19) (z := (0, 64)) k4.1.1 (by decide +kernel) (Nat.le_refl _) (Nat.le_refl _)
    have f0_19 : η3 0 19 = η3 0 19 := rfl
    have w0_0_44 : (0 : Int) ≤ η 0 44 ∧ η 0 44 ≤ 64 := wf_ok (a := 44) (b := 44) (z := (0, 64)) hI.1.1 (by decide +kernel) (Nat.le_refl _) (Nat.le_refl _)
    have v21 : zEq (η1 0 44) (η 0 44) := (k2.1.2.2.2.1 0 44 (by decide +kernel)).trans rfl
    have v22 : zEq (η2 0 44) (η 0 44) := (k3.1.2.2.2.1 0 44 (by decide +kernel)).trans v21
    have v23 : zEq (η3 0 44) (η 0 44) := (k4.1.2.2.2.1 0 44 (by decide +kernel)).trans v22
    have f0_44 : η3 0 44 = η 0 44 := v23
    have w0_0_7 : (0 : Int) ≤ η 0 7 ∧ η 0 7 ≤ 700 := wf_ok (a := 7) (b := 7) (z := (0, 700)) hI.1.1 (by decide +kernel) (Nat.le_refl _) (Nat.le_refl _)
    have v25 : zEq (η1 0 7) (η 0 7) := (k2.1.2.2.2.1 0 7 (by decide +kernel)).trans rfl
    have v26 : zEq (η2 0 7) (η 0 7) := (k3.1.2.2.2.1 0 7 (by decide +kernel)).trans v25
    have v27 : zEq (η3 0 7) (η 0 7) := (k4.1.2.2.2.1 0 7 (by decide +kernel)).trans v26
    have f0_7 : η3 0 7 = η 0 7 := v27
    have w0_0_6 : (0 : Int) ≤ η 0 6 ∧ η 0 6 ≤ 700 := wf_ok (a := 6) (b := 6) (z := (0, 700)) hI.1.1 (by decide +kernel) (Nat.le_refl _) (Nat.le_refl _)
    have v29 : zEq (η1 0 6) (η 0 6) := (k2.1.2.2.2.1 0 6 (by decide +kernel)).trans rfl
    have v30 : zEq (η2 0 6) (η 0 6) := (k3.1.2.2.2.1 0 6 (by decide +kernel)).trans v29
    have v31 : zEq (η3 0 6) (η 0 6) := (k4.1.2.2.2.1 0 6 (by decide +kernel)).trans v30
    have f0_6 : η3 0 6 = η 0 6 := v31
    have v32 : zEq (η3 0 8) (η 0 8) := (k4.1.2.2.2.1 0 8 (by decide +kernel)).trans v2
    have f0_8 : η3 0 8 = η 0 8 := v32
    have wbE : wB wl_le zTr η3 := wb3
    
    have I0 : H_l 0 0 0 η := hig.1
    have I1 : H_l 0 0 0 η1 := k2.2.1
    have qr2 : (1 ≤ x2 → 2 ≤ x1) ∧ (2 ≤ x1 → 1 ≤ x2) := k2.2.2
    have I2 : H_l 0 0 0 η2 := k3.2.1
    have qr3 : (1 ≤ x3 → 2 ≤ x1) ∧ (2 ≤ x1 → 1 ≤ x3) := k3.2.2
    have I3 : H_l 0 0 0 η3 := k4.2.1
    have qb4 : η2 0 19 ≤ η3 0 19 := k4.2.2.2
    exact ⟨⟨⟨⟨wbE, ⟨⟨show (3 : Int) ≤ x1 by omega, show x1 ≤ 14 by omega⟩, trivial⟩, fun f hf => nomatch hf⟩, fmE⟩, ⟨I3, show η3 0 45 = 0 by apply Int.le_antisymm <;> omega, show 1 ≤ η3 0 19 by omega, show η3 0 7 = η0 0 7 by apply Int.le_antisymm <;> omega, show η3 0 6 = η0 0 6 by apply Int.le_antisymm <;> omega, show η3 0 8 = η0 0 8 by apply Int.le_antisymm <;> omega, (by rw [f0_8]; exact hk)⟩⟩, show (7 : Nat) < 8 by decide⟩
  · have fig : yq_sgn η0 = yq_sgB x1 η := fig
    show yq_sgn η0 = yq_sg2 x1 η3
    obtain ⟨a2, b2⟩ : x2 = (yq_rk x1) ∧ η1 = η := y2
    clear k2 h2
    obtain ⟨a3, b3⟩ : x3 = (yq_rk x1) ∧ η2 = η1 := y3
    clear k3 h3
    have b4 : η3 = (yq_bin x3 η2) := y4
    clear k4 h4
    subst a2; subst b2
    subst a3; subst b3
    subst b4
    rw [fig]
    unfold yq_sgB yq_no
    (repeat' split) <;> first | (exfalso; omega) | exact ⟨rfl, rfl⟩ | rfl
set_option maxHeartbeats 8000000 in
theorem zle_signs_o27 {ro : Nat → List Int32} (xs : List Int) (η0 : zE) (hp : sP wl_le zTr zPle_signs xs η0) (hpp : pPle_signs xs η0) (x1 : Int) (η : zE) (hI : zsI wl_le zTr zVle_signs zMle_signs η0 1 [x1] η) (hig : iCle_signs xs η0 1 [x1] η) : (¬ x1 = 0) → ∀ (x2 : Int) (η1 : zE), ((gC wl_le [(nat_lit 0, zPle_isSign, zOle_isSign, zMle_isSign), (nat_lit 1, zPle_wrong, zOle_wrong, zMle_wrong), (nat_lit 2, zPle_token, zOle_token, zMle_token), (nat_lit 3, zPle_isKey, zOle_isKey, zMle_isKey), (nat_lit 4, zPle_isCounted, zOle_isCounted, zMle_isCounted), (nat_lit 5, zPle_waitsFor, zOle_waitsFor, zMle_waitsFor), (nat_lit 6, zPle_rank, zOle_rank, zMle_rank), (nat_lit 7, zPle_bind, zOle_bind, zMle_bind)] pCle_signs qCle_signs) 6).2 [x1] η x2 η1 → (x2 = 4) → ∀ (x3 : Int) (η2 : zE), ((gC wl_le [(nat_lit 0, zPle_isSign, zOle_isSign, zMle_isSign), (nat_lit 1, zPle_wrong, zOle_wrong, zMle_wrong), (nat_lit 2, zPle_token, zOle_token, zMle_token), (nat_lit 3, zPle_isKey, zOle_isKey, zMle_isKey), (nat_lit 4, zPle_isCounted, zOle_isCounted, zMle_isCounted), (nat_lit 5, zPle_waitsFor, zOle_waitsFor, zMle_waitsFor), (nat_lit 6, zPle_rank, zOle_rank, zMle_rank), (nat_lit 7, zPle_bind, zOle_bind, zMle_bind)] pCle_signs qCle_signs) 7).2 [5] η1 x3 η2 → (fun c ys η1 => zsI wl_le zTr zVle_signs zMle_signs η0 c ys η1 ∧ iCle_signs xs η0 c ys η1) 2 [x1] η2 ∧ (zsM zVle_signs) 2 [x1] η2 < zsM zVle_signs 1 [x1] η := by
  have fig := hig.2
  have hig := hig.1
  intro c1 x2 η1 h2 c2 x3 η2 h3
  have y2 : fQle_rank [x1] η x2 η1 := h2.2.2
  have k2 : sQ wl_le zTr zOle_rank zMle_rank [x1] η x2 η1 ∧ oQle_rank [x1] η x2 η1 := ⟨h2.1, h2.2.1⟩
  have y3 : fQle_bind [5] η1 x3 η2 := h3.2.2
  have k3 : sQ wl_le zTr zOle_bind zMle_bind [5] η1 x3 η2 ∧ oQle_bind [5] η1 x3 η2 := ⟨h3.1, h3.2.1⟩
  refine yj_d ?_ ?_
  · have hw : η 0 45 = 0 := hig.2.1
    have hr1 : 1 ≤ η 0 19 := hig.2.2.1
    have hs1 : η 0 7 = η0 0 7 := hig.2.2.2.1
    have hs2 : η 0 6 = η0 0 6 := hig.2.2.2.2.1
    have hs3 : η 0 8 = η0 0 8 := hig.2.2.2.2.2.1
    have hk : x1 = 0 ∨ (3 ≤ x1 ∧ ¬ η 0 8 = 0) := hig.2.2.2.2.2.2
    have kk : η 0 8 = 5 → 0 ≤ η 0 9 ∧ η 0 9 ≤ 5 := hig.1.1.1.2.1.2
    have bd43 : (0 : Int) ≤ η 0 43 ∧ η 0 43 ≤ 8 := wf_ok (a := 43) (b := 43) (z := (0, 8)) hI.1.1 (by decide +kernel) (Nat.le_refl _) (Nat.le_refl _)
    have bd44 : (0 : Int) ≤ η 0 44 ∧ η 0 44 ≤ 64 := wf_ok (a := 44) (b := 44) (z := (0, 64)) hI.1.1 (by decide +kernel) (Nat.le_refl _) (Nat.le_refl _)
    have bd19 : (0 : Int) ≤ η 0 19 ∧ η 0 19 ≤ 64 := wf_ok (a := 19) (b := 19) (z := (0, 64)) hI.1.1 (by decide +kernel) (Nat.le_refl _) (Nat.le_refl _)
    obtain ⟨u1, u2, u3, u4⟩ := hig.1.2
    have cn := cz_n (η := η) (η 0 41).toNat
    have y2 : fQle_rank [x1] η x2 η1 := h2.2.2
    have k2 : sQ wl_le zTr zOle_rank zMle_rank [x1] η x2 η1 ∧ oQle_rank [x1] η x2 η1 := ⟨h2.1, h2.2.1⟩
    have y3 : fQle_bind [5] η1 x3 η2 := h3.2.2
    have k3 : sQ wl_le zTr zOle_bind zMle_bind [5] η1 x3 η2 ∧ oQle_bind [5] η1 x3 η2 := ⟨h3.1, h3.2.1⟩
    have bx1 : (0 : Int) ≤ x1 ∧ x1 ≤ 14 := hI.1.2.1.1
    have w0_0_8 : (0 : Int) ≤ η 0 8 ∧ η 0 8 ≤ 6 := wf_ok (a := 8) (b := 8) (z := (0, 6)) hI.1.1 (by decide +kernel) (Nat.le_refl _) (Nat.le_refl _)
    have c0_0_8 : η 0 8 = η 0 8 := rfl
    have wb1 : wB wl_le zTr η1 := k2.1.1
    have bx2 : (0 : Int) ≤ x2 ∧ x2 ≤ 6 := k2.1.2.1
    have v1 : zEq (η1 0 8) (η 0 8) := (k2.1.2.2.2.1 0 8 (by decide +kernel)).trans rfl
    have c1_0_8 : η1 0 8 = η 0 8 := v1
    have w0_0_19 : (0 : Int) ≤ η 0 19 ∧ η 0 19 ≤ 64 := wf_ok (a := 19) (b := 19) (z := (0, 64)) hI.1.1 (by decide +kernel) (Nat.le_refl _) (Nat.le_refl _)
    have v3 : zEq (η1 0 19) (η 0 19) := (k2.1.2.2.2.1 0 19 (by decide +kernel)).trans rfl
    have c1_0_19 : η1 0 19 = η 0 19 := v3
    have wb2 : wB wl_le zTr η2 := k3.1.1
    have bx3 : (0 : Int) ≤ x3 ∧ x3 ≤ 0 := k3.1.2.1
    have fm1 : zFm zMle_signs η0 η1 := zFm_tr2 hI.2 k2.1.2.2.2.1 (by decide +kernel)
    have fm2 : zFm zMle_signs η0 η2 := zFm_tr2 fm1 k3.1.2.2.2.1 (by decide +kernel)
    have fmE : zFm zMle_signs η0 η2 := fm2
    have fr22_0 : ∀ j, η 22 j = η 22 j := fun _ => rfl
    have v4 : ∀ j, η1 22 j = η 22 j := fun j => k2.1.2.2.2.1 22 _ (zinr_not (by decide +kernel))
    have fr22_1 : ∀ j, η1 22 j = η 22 j := v4
    have v5 : ∀ j, η2 22 j = η 22 j := fun j => (k3.1.2.2.2.1 22 _ (zinr_not (by decide +kernel))).trans (v4 j)
    have fr22_2 : ∀ j, η2 22 j = η 22 j := v5
    have fr22 : ∀ j, η2 22 j = η 22 j := v5
    have f0_41 : η2 0 41 = η2 0 41 := rfl
    have w0_0_43 : (0 : Int) ≤ η 0 43 ∧ η 0 43 ≤ 8 := wf_ok (a := 43) (b := 43) (z := (0, 8)) hI.1.1 (by decide +kernel) (Nat.le_refl _) (Nat.le_refl _)
    have v8 : zEq (η1 0 43) (η 0 43) := (k2.1.2.2.2.1 0 43 (by decide +kernel)).trans rfl
    have v9 : zEq (η2 0 43) (η 0 43) := (k3.1.2.2.2.1 0 43 (by decide +kernel)).trans v8
    have f0_43 : η2 0 43 = η 0 43 := v9
    have f0_42 : η2 0 42 = η2 0 42 := rfl
    have v12 : zEq (η1 0 45) (η 0 45) := (k2.1.2.2.2.1 0 45 (by decide +kernel)).trans rfl
    have v13 : zEq (η2 0 45) (η 0 45) := (k3.1.2.2.2.1 0 45 (by decide +kernel)).trans v12
    have f0_45 : η2 0 45 = η 0 45 := v13
    have w2_0_19 : (0 : Int) ≤ η2 0 19 ∧ η2 0 19 ≤ 64 := wf_ok (a := 19) (b := 19) (z := (0, 64)) k3.1.1 (by decide +kernel) (Nat.le_refl _) (Nat.le_refl _)
    have f0_19 : η2 0 19 = η2 0 19 := rfl
    have w0_0_44 : (0 : Int) ≤ η 0 44 ∧ η 0 44 ≤ 64 := wf_ok (a := 44) (b := 44) (z := (0, 64)) hI.1.1 (by decide +kernel) (Nat.le_refl _) (Nat.le_refl _)
    have v16 : zEq (η1 0 44) (η 0 44) := (k2.1.2.2.2.1 0 44 (by decide +kernel)).trans rfl
    have v17 : zEq (η2 0 44) (η 0 44) := (k3.1.2.2.2.1 0 44 (by decide +kernel)).trans v16
    have f0_44 : η2 0 44 = η 0 44 := v17
    have w0_0_7 : (0 : Int) ≤ η 0 7 ∧ η 0 7 ≤ 700 := wf_ok (a := 7) (b := 7) (z := (0, 700)) hI.1.1 (by decide +kernel) (Nat.le_refl _) (Nat.le_refl _)
    have v19 : zEq (η1 0 7) (η 0 7) := (k2.1.2.2.2.1 0 7 (by decide +kernel)).trans rfl
    have v20 : zEq (η2 0 7) (η 0 7) := (k3.1.2.2.2.1 0 7 (by decide +kernel)).trans v19
    have f0_7 : η2 0 7 = η 0 7 := v20
    have w0_0_6 : (0 : Int) ≤ η 0 6 ∧ η 0 6 ≤ 700 := wf_ok (a := 6) (b := 6) (z := (0, 700)) hI.1.1 (by decide +kernel) (Nat.le_refl _) (Nat.le_refl _)
    have v22 : zEq (η1 0 6) (η 0 6) := (k2.1.2.2.2.1 0 6 (by decide +kernel)).trans rfl
    have v23 : zEq (η2 0 6) (η 0 6) := (k3.1.2.2.2.1 0 6 (by decide +kernel)).trans v22
    have f0_6 : η2 0 6 = η 0 6 := v23
    have v24 : zEq (η2 0 8) (η 0 8) := (k3.1.2.2.2.1 0 8 (by decide +kernel)).trans v1
    have f0_8 : η2 0 8 = η 0 8 := v24
    have wbE : wB wl_le zTr η2 := wb2
    
    have I0 : H_l 0 0 0 η := hig.1
    have I1 : H_l 0 0 0 η1 := k2.2.1
    have qr2 : (1 ≤ x2 → 2 ≤ x1) ∧ (2 ≤ x1 → 1 ≤ x2) := k2.2.2
    have I2 : H_l 0 0 0 η2 := k3.2.1
    have qb3 : η1 0 19 ≤ η2 0 19 := k3.2.2.2
    exact ⟨⟨⟨⟨wbE, ⟨⟨show (3 : Int) ≤ x1 by omega, show x1 ≤ 14 by omega⟩, trivial⟩, fun f hf => nomatch hf⟩, fmE⟩, ⟨I2, show η2 0 45 = 0 by apply Int.le_antisymm <;> omega, show 1 ≤ η2 0 19 by omega, show η2 0 7 = η0 0 7 by apply Int.le_antisymm <;> omega, show η2 0 6 = η0 0 6 by apply Int.le_antisymm <;> omega, show η2 0 8 = η0 0 8 by apply Int.le_antisymm <;> omega, (by rw [f0_8]; exact hk)⟩⟩, show (7 : Nat) < 8 by decide⟩
  · have fig : yq_sgn η0 = yq_sgB x1 η := fig
    show yq_sgn η0 = yq_sg2 x1 η2
    obtain ⟨a2, b2⟩ : x2 = (yq_rk x1) ∧ η1 = η := y2
    clear k2 h2
    have b3 : η2 = (yq_bin 5 η1) := y3
    clear k3 h3
    subst a2; subst b2
    subst b3
    rw [fig]
    unfold yq_sgB yq_no
    (repeat' split) <;> first | (exfalso; omega) | exact ⟨rfl, rfl⟩ | rfl
set_option maxHeartbeats 8000000 in
theorem zle_signs_o28 {ro : Nat → List Int32} (xs : List Int) (η0 : zE) (hp : sP wl_le zTr zPle_signs xs η0) (hpp : pPle_signs xs η0) (x1 : Int) (η : zE) (hI : zsI wl_le zTr zVle_signs zMle_signs η0 2 [x1] η) (hig : iCle_signs xs η0 2 [x1] η) : ((gC2 wl_le [(nat_lit 0, zPle_isSign, zOle_isSign, zMle_isSign), (nat_lit 1, zPle_wrong, zOle_wrong, zMle_wrong), (nat_lit 2, zPle_token, zOle_token, zMle_token), (nat_lit 3, zPle_isKey, zOle_isKey, zMle_isKey), (nat_lit 4, zPle_isCounted, zOle_isCounted, zMle_isCounted), (nat_lit 5, zPle_waitsFor, zOle_waitsFor, zMle_waitsFor), (nat_lit 6, zPle_rank, zOle_rank, zMle_rank), (nat_lit 7, zPle_bind, zOle_bind, zMle_bind)] pCle_signs qCle_signs) 6).1 [x1] η := by
  have fig := hig.2
  have hig := hig.1
  have hw : η 0 45 = 0 := hig.2.1
  have hr1 : 1 ≤ η 0 19 := hig.2.2.1
  have hs1 : η 0 7 = η0 0 7 := hig.2.2.2.1
  have hs2 : η 0 6 = η0 0 6 := hig.2.2.2.2.1
  have hs3 : η 0 8 = η0 0 8 := hig.2.2.2.2.2.1
  have hk : x1 = 0 ∨ (3 ≤ x1 ∧ ¬ η 0 8 = 0) := hig.2.2.2.2.2.2
  have kk : η 0 8 = 5 → 0 ≤ η 0 9 ∧ η 0 9 ≤ 5 := hig.1.1.1.2.1.2
  have bd43 : (0 : Int) ≤ η 0 43 ∧ η 0 43 ≤ 8 := wf_ok (a := 43) (b := 43) (z := (0, 8)) hI.1.1 (by decide +kernel) (Nat.le_refl _) (Nat.le_refl _)
  have bd44 : (0 : Int) ≤ η 0 44 ∧ η 0 44 ≤ 64 := wf_ok (a := 44) (b := 44) (z := (0, 64)) hI.1.1 (by decide +kernel) (Nat.le_refl _) (Nat.le_refl _)
  have bd19 : (0 : Int) ≤ η 0 19 ∧ η 0 19 ≤ 64 := wf_ok (a := 19) (b := 19) (z := (0, 64)) hI.1.1 (by decide +kernel) (Nat.le_refl _) (Nat.le_refl _)
  obtain ⟨u1, u2, u3, u4⟩ := hig.1.2
  have cn := cz_n (η := η) (η 0 41).toNat
  have bx1 : (3 : Int) ≤ x1 ∧ x1 ≤ 14 := hI.1.2.1.1
  have fmE : zFm zMle_signs η0 η := hI.2
  have fr22_0 : ∀ j, η 22 j = η 22 j := fun _ => rfl
  have fr22 : ∀ j, η 22 j = η 22 j := fun _ => rfl
  have f0_41 : η 0 41 = η 0 41 := rfl
  have w0_0_43 : (0 : Int) ≤ η 0 43 ∧ η 0 43 ≤ 8 := wf_ok (a := 43) (b := 43) (z := (0, 8)) hI.1.1 (by decide +kernel) (Nat.le_refl _) (Nat.le_refl _)
  have f0_43 : η 0 43 = η 0 43 := rfl
  have f0_42 : η 0 42 = η 0 42 := rfl
  have f0_45 : η 0 45 = η 0 45 := rfl
  have w0_0_19 : (0 : Int) ≤ η 0 19 ∧ η 0 19 ≤ 64 := wf_ok (a := 19) (b := 19) (z := (0, 64)) hI.1.1 (by decide +kernel) (Nat.le_refl _) (Nat.le_refl _)
  have f0_19 : η 0 19 = η 0 19 := rfl
  have w0_0_44 : (0 : Int) ≤ η 0 44 ∧ η 0 44 ≤ 64 := wf_ok (a := 44) (b := 44) (z := (0, 64)) hI.1.1 (by decide +kernel) (Nat.le_refl _) (Nat.le_refl _)
  have f0_44 : η 0 44 = η 0 44 := rfl
  have w0_0_7 : (0 : Int) ≤ η 0 7 ∧ η 0 7 ≤ 700 := wf_ok (a := 7) (b := 7) (z := (0, 700)) hI.1.1 (by decide +kernel) (Nat.le_refl _) (Nat.le_refl _)
  have f0_7 : η 0 7 = η 0 7 := rfl
  have w0_0_6 : (0 : Int) ≤ η 0 6 ∧ η 0 6 ≤ 700 := wf_ok (a := 6) (b := 6) (z := (0, 700)) hI.1.1 (by decide +kernel) (Nat.le_refl _) (Nat.le_refl _)
  have f0_6 : η 0 6 = η 0 6 := rfl
  have w0_0_8 : (0 : Int) ≤ η 0 8 ∧ η 0 8 ≤ 6 := wf_ok (a := 8) (b := 8) (z := (0, 6)) hI.1.1 (by decide +kernel) (Nat.le_refl _) (Nat.le_refl _)
  have f0_8 : η 0 8 = η 0 8 := rfl
  have wbE : wB wl_le zTr η := hI.1.1
  
  have I0 : H_l 0 0 0 η := hig.1
  exact I0
set_option maxHeartbeats 8000000 in
theorem zle_signs_o29 {ro : Nat → List Int32} (xs : List Int) (η0 : zE) (hp : sP wl_le zTr zPle_signs xs η0) (hpp : pPle_signs xs η0) (x1 : Int) (η : zE) (hI : zsI wl_le zTr zVle_signs zMle_signs η0 2 [x1] η) (hig : iCle_signs xs η0 2 [x1] η) : ∀ (x2 : Int) (η1 : zE), ((gC2 wl_le [(nat_lit 0, zPle_isSign, zOle_isSign, zMle_isSign), (nat_lit 1, zPle_wrong, zOle_wrong, zMle_wrong), (nat_lit 2, zPle_token, zOle_token, zMle_token), (nat_lit 3, zPle_isKey, zOle_isKey, zMle_isKey), (nat_lit 4, zPle_isCounted, zOle_isCounted, zMle_isCounted), (nat_lit 5, zPle_waitsFor, zOle_waitsFor, zMle_waitsFor), (nat_lit 6, zPle_rank, zOle_rank, zMle_rank), (nat_lit 7, zPle_bind, zOle_bind, zMle_bind)] pCle_signs qCle_signs) 6).2 [x1] η x2 η1 → (¬ x2 = 4) → (iCle_signs xs η0) 3 [x1] η1 ∧ (fun (_ : Nat) (_ : List Int) (_ : zE) => (0 : Nat)) 3 [x1] η1 < 1 := by
  have fig := hig.2
  have hig := hig.1
  intro x2 η1 h2 c1
  have y2 : fQle_rank [x1] η x2 η1 := h2.2.2
  have k2 : sQ wl_le zTr zOle_rank zMle_rank [x1] η x2 η1 ∧ oQle_rank [x1] η x2 η1 := ⟨h2.1, h2.2.1⟩
  refine yj_c ?_ ?_
  · have hw : η 0 45 = 0 := hig.2.1
    have hr1 : 1 ≤ η 0 19 := hig.2.2.1
    have hs1 : η 0 7 = η0 0 7 := hig.2.2.2.1
    have hs2 : η 0 6 = η0 0 6 := hig.2.2.2.2.1
    have hs3 : η 0 8 = η0 0 8 := hig.2.2.2.2.2.1
    have hk : x1 = 0 ∨ (3 ≤ x1 ∧ ¬ η 0 8 = 0) := hig.2.2.2.2.2.2
    have kk : η 0 8 = 5 → 0 ≤ η 0 9 ∧ η 0 9 ≤ 5 := hig.1.1.1.2.1.2
    have bd43 : (0 : Int) ≤ η 0 43 ∧ η 0 43 ≤ 8 := wf_ok (a := 43) (b := 43) (z := (0, 8)) hI.1.1 (by decide +kernel) (Nat.le_refl _) (Nat.le_refl _)
    have bd44 : (0 : Int) ≤ η 0 44 ∧ η 0 44 ≤ 64 := wf_ok (a := 44) (b := 44) (z := (0, 64)) hI.1.1 (by decide +kernel) (Nat.le_refl _) (Nat.le_refl _)
    have bd19 : (0 : Int) ≤ η 0 19 ∧ η 0 19 ≤ 64 := wf_ok (a := 19) (b := 19) (z := (0, 64)) hI.1.1 (by decide +kernel) (Nat.le_refl _) (Nat.le_refl _)
    obtain ⟨u1, u2, u3, u4⟩ := hig.1.2
    have cn := cz_n (η := η) (η 0 41).toNat
    have y2 : fQle_rank [x1] η x2 η1 := h2.2.2
    have k2 : sQ wl_le zTr zOle_rank zMle_rank [x1] η x2 η1 ∧ oQle_rank [x1] η x2 η1 := ⟨h2.1, h2.2.1⟩
    have bx1 : (3 : Int) ≤ x1 ∧ x1 ≤ 14 := hI.1.2.1.1
    have w0_0_8 : (0 : Int) ≤ η 0 8 ∧ η 0 8 ≤ 6 := wf_ok (a := 8) (b := 8) (z := (0, 6)) hI.1.1 (by decide +kernel) (Nat.le_refl _) (Nat.le_refl _)
    have c0_0_8 : η 0 8 = η 0 8 := rfl
    have wb1 : wB wl_le zTr η1 := k2.1.1
    have bx2 : (0 : Int) ≤ x2 ∧ x2 ≤ 6 := k2.1.2.1
    have fm1 : zFm zMle_signs η0 η1 := zFm_tr2 hI.2 k2.1.2.2.2.1 (by decide +kernel)
    have fmE : zFm zMle_signs η0 η1 := fm1
    have fr22_0 : ∀ j, η 22 j = η 22 j := fun _ => rfl
    have v1 : ∀ j, η1 22 j = η 22 j := fun j => k2.1.2.2.2.1 22 _ (zinr_not (by decide +kernel))
    have fr22_1 : ∀ j, η1 22 j = η 22 j := v1
    have fr22 : ∀ j, η1 22 j = η 22 j := v1
    have v3 : zEq (η1 0 41) (η 0 41) := (k2.1.2.2.2.1 0 41 (by decide +kernel)).trans rfl
    have f0_41 : η1 0 41 = η 0 41 := v3
    have w0_0_43 : (0 : Int) ≤ η 0 43 ∧ η 0 43 ≤ 8 := wf_ok (a := 43) (b := 43) (z := (0, 8)) hI.1.1 (by decide +kernel) (Nat.le_refl _) (Nat.le_refl _)
    have v5 : zEq (η1 0 43) (η 0 43) := (k2.1.2.2.2.1 0 43 (by decide +kernel)).trans rfl
    have f0_43 : η1 0 43 = η 0 43 := v5
    have v7 : zEq (η1 0 42) (η 0 42) := (k2.1.2.2.2.1 0 42 (by decide +kernel)).trans rfl
    have f0_42 : η1 0 42 = η 0 42 := v7
    have v9 : zEq (η1 0 45) (η 0 45) := (k2.1.2.2.2.1 0 45 (by decide +kernel)).trans rfl
    have f0_45 : η1 0 45 = η 0 45 := v9
    have w0_0_19 : (0 : Int) ≤ η 0 19 ∧ η 0 19 ≤ 64 := wf_ok (a := 19) (b := 19) (z := (0, 64)) hI.1.1 (by decide +kernel) (Nat.le_refl _) (Nat.le_refl _)
    have v11 : zEq (η1 0 19) (η 0 19) := (k2.1.2.2.2.1 0 19 (by decide +kernel)).trans rfl
    have f0_19 : η1 0 19 = η 0 19 := v11
    have w0_0_44 : (0 : Int) ≤ η 0 44 ∧ η 0 44 ≤ 64 := wf_ok (a := 44) (b := 44) (z := (0, 64)) hI.1.1 (by decide +kernel) (Nat.le_refl _) (Nat.le_refl _)
    have v13 : zEq (η1 0 44) (η 0 44) := (k2.1.2.2.2.1 0 44 (by decide +kernel)).trans rfl
    have f0_44 : η1 0 44 = η 0 44 := v13
    have w0_0_7 : (0 : Int) ≤ η 0 7 ∧ η 0 7 ≤ 700 := wf_ok (a := 7) (b := 7) (z := (0, 700)) hI.1.1 (by decide +kernel) (Nat.le_refl _) (Nat.le_refl _)
    have v15 : zEq (η1 0 7) (η 0 7) := (k2.1.2.2.2.1 0 7 (by decide +kernel)).trans rfl
    have f0_7 : η1 0 7 = η 0 7 := v15
    have w0_0_6 : (0 : Int) ≤ η 0 6 ∧ η 0 6 ≤ 700 := wf_ok (a := 6) (b := 6) (z := (0, 700)) hI.1.1 (by decide +kernel) (Nat.le_refl _) (Nat.le_refl _)
    have v17 : zEq (η1 0 6) (η 0 6) := (k2.1.2.2.2.1 0 6 (by decide +kernel)).trans rfl
    have f0_6 : η1 0 6 = η 0 6 := v17
    have v18 : zEq (η1 0 8) (η 0 8) := (k2.1.2.2.2.1 0 8 (by decide +kernel)).trans rfl
    have f0_8 : η1 0 8 = η 0 8 := v18
    have wbE : wB wl_le zTr η1 := wb1
    
    have I0 : H_l 0 0 0 η := hig.1
    have I1 : H_l 0 0 0 η1 := k2.2.1
    have qr2 : (1 ≤ x2 → 2 ≤ x1) ∧ (2 ≤ x1 → 1 ≤ x2) := k2.2.2
    exact ⟨⟨I1, show η1 0 45 = 0 by apply Int.le_antisymm <;> omega, show 1 ≤ η1 0 19 by omega, show η1 0 7 = η0 0 7 by apply Int.le_antisymm <;> omega, show η1 0 6 = η0 0 6 by apply Int.le_antisymm <;> omega, show η1 0 8 = η0 0 8 by apply Int.le_antisymm <;> omega, (by rw [f0_8]; exact hk)⟩, Nat.zero_lt_one⟩
  · have fig : yq_sgn η0 = yq_sg2 x1 η := fig
    show yq_sgn η0 = yq_sg3 x1 η1
    obtain ⟨a2, b2⟩ : x2 = (yq_rk x1) ∧ η1 = η := y2
    clear k2 h2
    subst a2; subst b2
    rw [fig]
    unfold yq_sg2 yq_no
    (repeat' split) <;> first | (exfalso; omega) | exact ⟨rfl, rfl⟩ | rfl
set_option maxHeartbeats 8000000 in
theorem zle_signs_o30 {ro : Nat → List Int32} (xs : List Int) (η0 : zE) (hp : sP wl_le zTr zPle_signs xs η0) (hpp : pPle_signs xs η0) (x1 : Int) (η : zE) (hI : zsI wl_le zTr zVle_signs zMle_signs η0 2 [x1] η) (hig : iCle_signs xs η0 2 [x1] η) : ∀ (x2 : Int) (η1 : zE), ((gC2 wl_le [(nat_lit 0, zPle_isSign, zOle_isSign, zMle_isSign), (nat_lit 1, zPle_wrong, zOle_wrong, zMle_wrong), (nat_lit 2, zPle_token, zOle_token, zMle_token), (nat_lit 3, zPle_isKey, zOle_isKey, zMle_isKey), (nat_lit 4, zPle_isCounted, zOle_isCounted, zMle_isCounted), (nat_lit 5, zPle_waitsFor, zOle_waitsFor, zMle_waitsFor), (nat_lit 6, zPle_rank, zOle_rank, zMle_rank), (nat_lit 7, zPle_bind, zOle_bind, zMle_bind)] pCle_signs qCle_signs) 6).2 [x1] η x2 η1 → (x2 = 4) → ∀ x3 : Int, x3 = η1 0 (Int.toNat 41) → zok 0 x3 → (x3 ≤ 0) → (iCle_signs xs η0) 3 [x1] η1 ∧ (fun (_ : Nat) (_ : List Int) (_ : zE) => (0 : Nat)) 3 [x1] η1 < 1 := by
  have fig := hig.2
  have hig := hig.1
  intro x2 η1 h2 c1 x3 e3 r3 c2
  have y2 : fQle_rank [x1] η x2 η1 := h2.2.2
  have k2 : sQ wl_le zTr zOle_rank zMle_rank [x1] η x2 η1 ∧ oQle_rank [x1] η x2 η1 := ⟨h2.1, h2.2.1⟩
  refine yj_c ?_ ?_
  · have hw : η 0 45 = 0 := hig.2.1
    have hr1 : 1 ≤ η 0 19 := hig.2.2.1
    have hs1 : η 0 7 = η0 0 7 := hig.2.2.2.1
    have hs2 : η 0 6 = η0 0 6 := hig.2.2.2.2.1
    have hs3 : η 0 8 = η0 0 8 := hig.2.2.2.2.2.1
    have hk : x1 = 0 ∨ (3 ≤ x1 ∧ ¬ η 0 8 = 0) := hig.2.2.2.2.2.2
    have kk : η 0 8 = 5 → 0 ≤ η 0 9 ∧ η 0 9 ≤ 5 := hig.1.1.1.2.1.2
    have bd43 : (0 : Int) ≤ η 0 43 ∧ η 0 43 ≤ 8 := wf_ok (a := 43) (b := 43) (z := (0, 8)) hI.1.1 (by decide +kernel) (Nat.le_refl _) (Nat.le_refl _)
    have bd44 : (0 : Int) ≤ η 0 44 ∧ η 0 44 ≤ 64 := wf_ok (a := 44) (b := 44) (z := (0, 64)) hI.1.1 (by decide +kernel) (Nat.le_refl _) (Nat.le_refl _)
    have bd19 : (0 : Int) ≤ η 0 19 ∧ η 0 19 ≤ 64 := wf_ok (a := 19) (b := 19) (z := (0, 64)) hI.1.1 (by decide +kernel) (Nat.le_refl _) (Nat.le_refl _)
    obtain ⟨u1, u2, u3, u4⟩ := hig.1.2
    have cn := cz_n (η := η) (η 0 41).toNat
    have y2 : fQle_rank [x1] η x2 η1 := h2.2.2
    have k2 : sQ wl_le zTr zOle_rank zMle_rank [x1] η x2 η1 ∧ oQle_rank [x1] η x2 η1 := ⟨h2.1, h2.2.1⟩
    have bx1 : (3 : Int) ≤ x1 ∧ x1 ≤ 14 := hI.1.2.1.1
    have w0_0_8 : (0 : Int) ≤ η 0 8 ∧ η 0 8 ≤ 6 := wf_ok (a := 8) (b := 8) (z := (0, 6)) hI.1.1 (by decide +kernel) (Nat.le_refl _) (Nat.le_refl _)
    have c0_0_8 : η 0 8 = η 0 8 := rfl
    have wb1 : wB wl_le zTr η1 := k2.1.1
    have bx2 : (0 : Int) ≤ x2 ∧ x2 ≤ 6 := k2.1.2.1
    have v2 : zEq (η1 0 41) (η 0 41) := (k2.1.2.2.2.1 0 41 (by decide +kernel)).trans rfl
    replace e3 : x3 = η 0 41 := e3.trans v2
    replace r3 : -2147483648 ≤ x3 ∧ x3 ≤ 2147483647 := r3
    have fm1 : zFm zMle_signs η0 η1 := zFm_tr2 hI.2 k2.1.2.2.2.1 (by decide +kernel)
    have fmE : zFm zMle_signs η0 η1 := fm1
    have fr22_0 : ∀ j, η 22 j = η 22 j := fun _ => rfl
    have v3 : ∀ j, η1 22 j = η 22 j := fun j => k2.1.2.2.2.1 22 _ (zinr_not (by decide +kernel))
    have fr22_1 : ∀ j, η1 22 j = η 22 j := v3
    have fr22 : ∀ j, η1 22 j = η 22 j := v3
    have f0_41 : η1 0 41 = η 0 41 := v2
    have w0_0_43 : (0 : Int) ≤ η 0 43 ∧ η 0 43 ≤ 8 := wf_ok (a := 43) (b := 43) (z := (0, 8)) hI.1.1 (by decide +kernel) (Nat.le_refl _) (Nat.le_refl _)
    have v5 : zEq (η1 0 43) (η 0 43) := (k2.1.2.2.2.1 0 43 (by decide +kernel)).trans rfl
    have f0_43 : η1 0 43 = η 0 43 := v5
    have v7 : zEq (η1 0 42) (η 0 42) := (k2.1.2.2.2.1 0 42 (by decide +kernel)).trans rfl
    have f0_42 : η1 0 42 = η 0 42 := v7
    have v9 : zEq (η1 0 45) (η 0 45) := (k2.1.2.2.2.1 0 45 (by decide +kernel)).trans rfl
    have f0_45 : η1 0 45 = η 0 45 := v9
    have w0_0_19 : (0 : Int) ≤ η 0 19 ∧ η 0 19 ≤ 64 := wf_ok (a := 19) (b := 19) (z := (0, 64)) hI.1.1 (by decide +kernel) (Nat.le_refl _) (Nat.le_refl _)
    have v11 : zEq (η1 0 19) (η 0 19) := (k2.1.2.2.2.1 0 19 (by decide +kernel)).trans rfl
    have f0_19 : η1 0 19 = η 0 19 := v11
    have w0_0_44 : (0 : Int) ≤ η 0 44 ∧ η 0 44 ≤ 64 := wf_ok (a := 44) (b := 44) (z := (0, 64)) hI.1.1 (by decide +kernel) (Nat.le_refl _) (Nat.le_refl _)
    have v13 : zEq (η1 0 44) (η 0 44) := (k2.1.2.2.2.1 0 44 (by decide +kernel)).trans rfl
    have f0_44 : η1 0 44 = η 0 44 := v13
    have w0_0_7 : (0 : Int) ≤ η 0 7 ∧ η 0 7 ≤ 700 := wf_ok (a := 7) (b := 7) (z := (0, 700)) hI.1.1 (by decide +kernel) (Nat.le_refl _) (Nat.le_refl _)
    have v15 : zEq (η1 0 7) (η 0 7) := (k2.1.2.2.2.1 0 7 (by decide +kernel)).trans rfl
    have f0_7 : η1 0 7 = η 0 7 := v15
    have w0_0_6 : (0 : Int) ≤ η 0 6 ∧ η 0 6 ≤ 700 := wf_ok (a := 6) (b := 6) (z := (0, 700)) hI.1.1 (by decide +kernel) (Nat.le_refl _) (Nat.le_refl _)
    have v17 : zEq (η1 0 6) (η 0 6) := (k2.1.2.2.2.1 0 6 (by decide +kernel)).trans rfl
    have f0_6 : η1 0 6 = η 0 6 := v17
    have v18 : zEq (η1 0 8) (η 0 8) := (k2.1.2.2.2.1 0 8 (by decide +kernel)).trans rfl
    have f0_8 : η1 0 8 = η 0 8 := v18
    have wbE : wB wl_le zTr η1 := wb1
    
    have I0 : H_l 0 0 0 η := hig.1
    have I1 : H_l 0 0 0 η1 := k2.2.1
    have qr2 : (1 ≤ x2 → 2 ≤ x1) ∧ (2 ≤ x1 → 1 ≤ x2) := k2.2.2
    exact ⟨⟨I1, show η1 0 45 = 0 by apply Int.le_antisymm <;> omega, show 1 ≤ η1 0 19 by omega, show η1 0 7 = η0 0 7 by apply Int.le_antisymm <;> omega, show η1 0 6 = η0 0 6 by apply Int.le_antisymm <;> omega, show η1 0 8 = η0 0 8 by apply Int.le_antisymm <;> omega, (by rw [f0_8]; exact hk)⟩, Nat.zero_lt_one⟩
  · have fig : yq_sgn η0 = yq_sg2 x1 η := fig
    show yq_sgn η0 = yq_sg3 x1 η1
    obtain ⟨a2, b2⟩ : x2 = (yq_rk x1) ∧ η1 = η := y2
    clear k2 h2
    have e3 : x3 = η1 0 41 := e3
    clear r3
    subst a2; subst b2
    subst e3
    rw [fig]
    unfold yq_sg2 yq_no
    (repeat' split) <;> first | (exfalso; omega) | exact ⟨rfl, rfl⟩ | rfl
set_option maxHeartbeats 8000000 in
theorem zle_signs_o31 {ro : Nat → List Int32} (xs : List Int) (η0 : zE) (hp : sP wl_le zTr zPle_signs xs η0) (hpp : pPle_signs xs η0) (x1 : Int) (η : zE) (hI : zsI wl_le zTr zVle_signs zMle_signs η0 2 [x1] η) (hig : iCle_signs xs η0 2 [x1] η) : ∀ (x2 : Int) (η1 : zE), ((gC2 wl_le [(nat_lit 0, zPle_isSign, zOle_isSign, zMle_isSign), (nat_lit 1, zPle_wrong, zOle_wrong, zMle_wrong), (nat_lit 2, zPle_token, zOle_token, zMle_token), (nat_lit 3, zPle_isKey, zOle_isKey, zMle_isKey), (nat_lit 4, zPle_isCounted, zOle_isCounted, zMle_isCounted), (nat_lit 5, zPle_waitsFor, zOle_waitsFor, zMle_waitsFor), (nat_lit 6, zPle_rank, zOle_rank, zMle_rank), (nat_lit 7, zPle_bind, zOle_bind, zMle_bind)] pCle_signs qCle_signs) 6).2 [x1] η x2 η1 → (x2 = 4) → ∀ x3 : Int, x3 = η1 0 (Int.toNat 41) → zok 0 x3 → (0 < x3) → ∀ x4 : Int, x4 = η1 0 (Int.toNat 41) → zok 0 x4 → ∀ x5 : Int, x5 = zd 0 2 x4 1 → ∀ x6 : Int, x6 = η1 22 (Int.toNat x5) → zok 0 x6 → ((gC2 wl_le [(nat_lit 0, zPle_isSign, zOle_isSign, zMle_isSign), (nat_lit 1, zPle_wrong, zOle_wrong, zMle_wrong), (nat_lit 2, zPle_token, zOle_token, zMle_token), (nat_lit 3, zPle_isKey, zOle_isKey, zMle_isKey), (nat_lit 4, zPle_isCounted, zOle_isCounted, zMle_isCounted), (nat_lit 5, zPle_waitsFor, zOle_waitsFor, zMle_waitsFor), (nat_lit 6, zPle_rank, zOle_rank, zMle_rank), (nat_lit 7, zPle_bind, zOle_bind, zMle_bind)] pCle_signs qCle_signs) 6).1 [x6] η1 := by
  have fig := hig.2
  have hig := hig.1
  have hw : η 0 45 = 0 := hig.2.1
  have hr1 : 1 ≤ η 0 19 := hig.2.2.1
  have hs1 : η 0 7 = η0 0 7 := hig.2.2.2.1
  have hs2 : η 0 6 = η0 0 6 := hig.2.2.2.2.1
  have hs3 : η 0 8 = η0 0 8 := hig.2.2.2.2.2.1
  have hk : x1 = 0 ∨ (3 ≤ x1 ∧ ¬ η 0 8 = 0) := hig.2.2.2.2.2.2
  have kk : η 0 8 = 5 → 0 ≤ η 0 9 ∧ η 0 9 ≤ 5 := hig.1.1.1.2.1.2
  have bd43 : (0 : Int) ≤ η 0 43 ∧ η 0 43 ≤ 8 := wf_ok (a := 43) (b := 43) (z := (0, 8)) hI.1.1 (by decide +kernel) (Nat.le_refl _) (Nat.le_refl _)
  have bd44 : (0 : Int) ≤ η 0 44 ∧ η 0 44 ≤ 64 := wf_ok (a := 44) (b := 44) (z := (0, 64)) hI.1.1 (by decide +kernel) (Nat.le_refl _) (Nat.le_refl _)
  have bd19 : (0 : Int) ≤ η 0 19 ∧ η 0 19 ≤ 64 := wf_ok (a := 19) (b := 19) (z := (0, 64)) hI.1.1 (by decide +kernel) (Nat.le_refl _) (Nat.le_refl _)
  obtain ⟨u1, u2, u3, u4⟩ := hig.1.2
  have cn := cz_n (η := η) (η 0 41).toNat
  intro x2 η1 h2 c1 x3 e3 r3 c2 x4 e4 r4 x5 e5 x6 e6 r6
  replace e5 := zEq_i e5
  have y2 : fQle_rank [x1] η x2 η1 := h2.2.2
  have k2 : sQ wl_le zTr zOle_rank zMle_rank [x1] η x2 η1 ∧ oQle_rank [x1] η x2 η1 := ⟨h2.1, h2.2.1⟩
  have bx1 : (3 : Int) ≤ x1 ∧ x1 ≤ 14 := hI.1.2.1.1
  have w0_0_8 : (0 : Int) ≤ η 0 8 ∧ η 0 8 ≤ 6 := wf_ok (a := 8) (b := 8) (z := (0, 6)) hI.1.1 (by decide +kernel) (Nat.le_refl _) (Nat.le_refl _)
  have c0_0_8 : η 0 8 = η 0 8 := rfl
  have wb1 : wB wl_le zTr η1 := k2.1.1
  have bx2 : (0 : Int) ≤ x2 ∧ x2 ≤ 6 := k2.1.2.1
  have v2 : zEq (η1 0 41) (η 0 41) := (k2.1.2.2.2.1 0 41 (by decide +kernel)).trans rfl
  replace e3 : x3 = η 0 41 := e3.trans v2
  replace r3 : -2147483648 ≤ x3 ∧ x3 ≤ 2147483647 := r3
  replace e4 : x4 = η 0 41 := e4.trans v2
  replace r4 : -2147483648 ≤ x4 ∧ x4 ≤ 2147483647 := r4
  first
  | replace e5 : x5 = x4 - 1 := zd_s2 (zEq_o e5) (by clear e5; exact ⟨by omega, by omega⟩)
  | clear e5
  have v4 : zEq (η1 22 (Int.toNat x5)) (η 22 (Int.toNat x5)) := (k2.1.2.2.2.1 22 _ (zinr_not (by decide +kernel))).trans rfl
  replace e6 : x6 = η 22 (Int.toNat x5) := e6.trans v4
  replace r6 : -2147483648 ≤ x6 ∧ x6 ≤ 2147483647 := r6
  try have rb6 : (0 : Int) ≤ η 22 (Int.toNat x5) ∧ η 22 (Int.toNat x5) ≤ 14 := wf_ok (a := 0) (b := 95) (z := (0, 14)) hI.1.1 (by decide +kernel) (Nat.zero_le _) (by omega)
  have fm1 : zFm zMle_signs η0 η1 := zFm_tr2 hI.2 k2.1.2.2.2.1 (by decide +kernel)
  have fmE : zFm zMle_signs η0 η1 := fm1
  have fr22_0 : ∀ j, η 22 j = η 22 j := fun _ => rfl
  have v5 : ∀ j, η1 22 j = η 22 j := fun j => k2.1.2.2.2.1 22 _ (zinr_not (by decide +kernel))
  have fr22_1 : ∀ j, η1 22 j = η 22 j := v5
  have fr22 : ∀ j, η1 22 j = η 22 j := v5
  have f0_41 : η1 0 41 = η 0 41 := v2
  have w0_0_43 : (0 : Int) ≤ η 0 43 ∧ η 0 43 ≤ 8 := wf_ok (a := 43) (b := 43) (z := (0, 8)) hI.1.1 (by decide +kernel) (Nat.le_refl _) (Nat.le_refl _)
  have v7 : zEq (η1 0 43) (η 0 43) := (k2.1.2.2.2.1 0 43 (by decide +kernel)).trans rfl
  have f0_43 : η1 0 43 = η 0 43 := v7
  have v9 : zEq (η1 0 42) (η 0 42) := (k2.1.2.2.2.1 0 42 (by decide +kernel)).trans rfl
  have f0_42 : η1 0 42 = η 0 42 := v9
  have v11 : zEq (η1 0 45) (η 0 45) := (k2.1.2.2.2.1 0 45 (by decide +kernel)).trans rfl
  have f0_45 : η1 0 45 = η 0 45 := v11
  have w0_0_19 : (0 : Int) ≤ η 0 19 ∧ η 0 19 ≤ 64 := wf_ok (a := 19) (b := 19) (z := (0, 64)) hI.1.1 (by decide +kernel) (Nat.le_refl _) (Nat.le_refl _)
  have v13 : zEq (η1 0 19) (η 0 19) := (k2.1.2.2.2.1 0 19 (by decide +kernel)).trans rfl
  have f0_19 : η1 0 19 = η 0 19 := v13
  have w0_0_44 : (0 : Int) ≤ η 0 44 ∧ η 0 44 ≤ 64 := wf_ok (a := 44) (b := 44) (z := (0, 64)) hI.1.1 (by decide +kernel) (Nat.le_refl _) (Nat.le_refl _)
  have v15 : zEq (η1 0 44) (η 0 44) := (k2.1.2.2.2.1 0 44 (by decide +kernel)).trans rfl
  have f0_44 : η1 0 44 = η 0 44 := v15
  have w0_0_7 : (0 : Int) ≤ η 0 7 ∧ η 0 7 ≤ 700 := wf_ok (a := 7) (b := 7) (z := (0, 700)) hI.1.1 (by decide +kernel) (Nat.le_refl _) (Nat.le_refl _)
  have v17 : zEq (η1 0 7) (η 0 7) := (k2.1.2.2.2.1 0 7 (by decide +kernel)).trans rfl
  have f0_7 : η1 0 7 = η 0 7 := v17
  have w0_0_6 : (0 : Int) ≤ η 0 6 ∧ η 0 6 ≤ 700 := wf_ok (a := 6) (b := 6) (z := (0, 700)) hI.1.1 (by decide +kernel) (Nat.le_refl _) (Nat.le_refl _)
  have v19 : zEq (η1 0 6) (η 0 6) := (k2.1.2.2.2.1 0 6 (by decide +kernel)).trans rfl
  have f0_6 : η1 0 6 = η 0 6 := v19
  have v20 : zEq (η1 0 8) (η 0 8) := (k2.1.2.2.2.1 0 8 (by decide +kernel)).trans rfl
  have f0_8 : η1 0 8 = η 0 8 := v20
  have wbE : wB wl_le zTr η1 := wb1
  
  have I0 : H_l 0 0 0 η := hig.1
  have I1 : H_l 0 0 0 η1 := k2.2.1
  have qr2 : (1 ≤ x2 → 2 ≤ x1) ∧ (2 ≤ x1 → 1 ≤ x2) := k2.2.2
  exact I1
set_option maxHeartbeats 8000000 in
theorem zle_signs_o32 {ro : Nat → List Int32} (xs : List Int) (η0 : zE) (hp : sP wl_le zTr zPle_signs xs η0) (hpp : pPle_signs xs η0) (x1 : Int) (η : zE) (hI : zsI wl_le zTr zVle_signs zMle_signs η0 2 [x1] η) (hig : iCle_signs xs η0 2 [x1] η) : ∀ (x2 : Int) (η1 : zE), ((gC2 wl_le [(nat_lit 0, zPle_isSign, zOle_isSign, zMle_isSign), (nat_lit 1, zPle_wrong, zOle_wrong, zMle_wrong), (nat_lit 2, zPle_token, zOle_token, zMle_token), (nat_lit 3, zPle_isKey, zOle_isKey, zMle_isKey), (nat_lit 4, zPle_isCounted, zOle_isCounted, zMle_isCounted), (nat_lit 5, zPle_waitsFor, zOle_waitsFor, zMle_waitsFor), (nat_lit 6, zPle_rank, zOle_rank, zMle_rank), (nat_lit 7, zPle_bind, zOle_bind, zMle_bind)] pCle_signs qCle_signs) 6).2 [x1] η x2 η1 → (x2 = 4) → ∀ x3 : Int, x3 = η1 0 (Int.toNat 41) → zok 0 x3 → (0 < x3) → ∀ x4 : Int, x4 = η1 0 (Int.toNat 41) → zok 0 x4 → ∀ x5 : Int, x5 = zd 0 2 x4 1 → ∀ x6 : Int, x6 = η1 22 (Int.toNat x5) → zok 0 x6 → ∀ (x7 : Int) (η2 : zE), ((gC2 wl_le [(nat_lit 0, zPle_isSign, zOle_isSign, zMle_isSign), (nat_lit 1, zPle_wrong, zOle_wrong, zMle_wrong), (nat_lit 2, zPle_token, zOle_token, zMle_token), (nat_lit 3, zPle_isKey, zOle_isKey, zMle_isKey), (nat_lit 4, zPle_isCounted, zOle_isCounted, zMle_isCounted), (nat_lit 5, zPle_waitsFor, zOle_waitsFor, zMle_waitsFor), (nat_lit 6, zPle_rank, zOle_rank, zMle_rank), (nat_lit 7, zPle_bind, zOle_bind, zMle_bind)] pCle_signs qCle_signs) 6).2 [x6] η1 x7 η2 → (¬ x7 = 4) → (iCle_signs xs η0) 3 [x1] η2 ∧ (fun (_ : Nat) (_ : List Int) (_ : zE) => (0 : Nat)) 3 [x1] η2 < 1 := by
  have fig := hig.2
  have hig := hig.1
  intro x2 η1 h2 c1 x3 e3 r3 c2 x4 e4 r4 x5 e5 x6 e6 r6 x7 η2 h7 c3
  have y2 : fQle_rank [x1] η x2 η1 := h2.2.2
  have k2 : sQ wl_le zTr zOle_rank zMle_rank [x1] η x2 η1 ∧ oQle_rank [x1] η x2 η1 := ⟨h2.1, h2.2.1⟩
  have y7 : fQle_rank [x6] η1 x7 η2 := h7.2.2
  have k7 : sQ wl_le zTr zOle_rank zMle_rank [x6] η1 x7 η2 ∧ oQle_rank [x6] η1 x7 η2 := ⟨h7.1, h7.2.1⟩
  refine yj_c ?_ ?_
  · have hw : η 0 45 = 0 := hig.2.1
    have hr1 : 1 ≤ η 0 19 := hig.2.2.1
    have hs1 : η 0 7 = η0 0 7 := hig.2.2.2.1
    have hs2 : η 0 6 = η0 0 6 := hig.2.2.2.2.1
    have hs3 : η 0 8 = η0 0 8 := hig.2.2.2.2.2.1
    have hk : x1 = 0 ∨ (3 ≤ x1 ∧ ¬ η 0 8 = 0) := hig.2.2.2.2.2.2
    have kk : η 0 8 = 5 → 0 ≤ η 0 9 ∧ η 0 9 ≤ 5 := hig.1.1.1.2.1.2
    have bd43 : (0 : Int) ≤ η 0 43 ∧ η 0 43 ≤ 8 := wf_ok (a := 43) (b := 43) (z := (0, 8)) hI.1.1 (by decide +kernel) (Nat.le_refl _) (Nat.le_refl _)
    have bd44 : (0 : Int) ≤ η 0 44 ∧ η 0 44 ≤ 64 := wf_ok (a := 44) (b := 44) (z := (0, 64)) hI.1.1 (by decide +kernel) (Nat.le_refl _) (Nat.le_refl _)
    have bd19 : (0 : Int) ≤ η 0 19 ∧ η 0 19 ≤ 64 := wf_ok (a := 19) (b := 19) (z := (0, 64)) hI.1.1 (by decide +kernel) (Nat.le_refl _) (Nat.le_refl _)
    obtain ⟨u1, u2, u3, u4⟩ := hig.1.2
    have cn := cz_n (η := η) (η 0 41).toNat
    replace e5 := zEq_i e5
    have y2 : fQle_rank [x1] η x2 η1 := h2.2.2
    have k2 : sQ wl_le zTr zOle_rank zMle_rank [x1] η x2 η1 ∧ oQle_rank [x1] η x2 η1 := ⟨h2.1, h2.2.1⟩
    have y7 : fQle_rank [x6] η1 x7 η2 := h7.2.2
    have k7 : sQ wl_le zTr zOle_rank zMle_rank [x6] η1 x7 η2 ∧ oQle_rank [x6] η1 x7 η2 := ⟨h7.1, h7.2.1⟩
    have bx1 : (3 : Int) ≤ x1 ∧ x1 ≤ 14 := hI.1.2.1.1
    have w0_0_8 : (0 : Int) ≤ η 0 8 ∧ η 0 8 ≤ 6 := wf_ok (a := 8) (b := 8) (z := (0, 6)) hI.1.1 (by decide +kernel) (Nat.le_refl _) (Nat.le_refl _)
    have c0_0_8 : η 0 8 = η 0 8 := rfl
    have wb1 : wB wl_le zTr η1 := k2.1.1
    have bx2 : (0 : Int) ≤ x2 ∧ x2 ≤ 6 := k2.1.2.1
    have v2 : zEq (η1 0 41) (η 0 41) := (k2.1.2.2.2.1 0 41 (by decide +kernel)).trans rfl
    replace e3 : x3 = η 0 41 := e3.trans v2
    replace r3 : -2147483648 ≤ x3 ∧ x3 ≤ 2147483647 := r3
    replace e4 : x4 = η 0 41 := e4.trans v2
    replace r4 : -2147483648 ≤ x4 ∧ x4 ≤ 2147483647 := r4
    first
    | replace e5 : x5 = x4 - 1 := zd_s2 (zEq_o e5) (by clear e5; exact ⟨by omega, by omega⟩)
    | clear e5
    have v4 : zEq (η1 22 (Int.toNat x5)) (η 22 (Int.toNat x5)) := (k2.1.2.2.2.1 22 _ (zinr_not (by decide +kernel))).trans rfl
    replace e6 : x6 = η 22 (Int.toNat x5) := e6.trans v4
    replace r6 : -2147483648 ≤ x6 ∧ x6 ≤ 2147483647 := r6
    try have rb6 : (0 : Int) ≤ η 22 (Int.toNat x5) ∧ η 22 (Int.toNat x5) ≤ 14 := wf_ok (a := 0) (b := 95) (z := (0, 14)) hI.1.1 (by decide +kernel) (Nat.zero_le _) (by omega)
    have v5 : zEq (η1 0 8) (η 0 8) := (k2.1.2.2.2.1 0 8 (by decide +kernel)).trans rfl
    have c1_0_8 : η1 0 8 = η 0 8 := v5
    have wb2 : wB wl_le zTr η2 := k7.1.1
    have bx7 : (0 : Int) ≤ x7 ∧ x7 ≤ 6 := k7.1.2.1
    have fm1 : zFm zMle_signs η0 η1 := zFm_tr2 hI.2 k2.1.2.2.2.1 (by decide +kernel)
    have fm2 : zFm zMle_signs η0 η2 := zFm_tr2 fm1 k7.1.2.2.2.1 (by decide +kernel)
    have fmE : zFm zMle_signs η0 η2 := fm2
    have fr22_0 : ∀ j, η 22 j = η 22 j := fun _ => rfl
    have v6 : ∀ j, η1 22 j = η 22 j := fun j => k2.1.2.2.2.1 22 _ (zinr_not (by decide +kernel))
    have fr22_1 : ∀ j, η1 22 j = η 22 j := v6
    have v7 : ∀ j, η2 22 j = η 22 j := fun j => (k7.1.2.2.2.1 22 _ (zinr_not (by decide +kernel))).trans (v6 j)
    have fr22_2 : ∀ j, η2 22 j = η 22 j := v7
    have fr22 : ∀ j, η2 22 j = η 22 j := v7
    have v8 : zEq (η2 0 41) (η 0 41) := (k7.1.2.2.2.1 0 41 (by decide +kernel)).trans v2
    have f0_41 : η2 0 41 = η 0 41 := v8
    have w0_0_43 : (0 : Int) ≤ η 0 43 ∧ η 0 43 ≤ 8 := wf_ok (a := 43) (b := 43) (z := (0, 8)) hI.1.1 (by decide +kernel) (Nat.le_refl _) (Nat.le_refl _)
    have v10 : zEq (η1 0 43) (η 0 43) := (k2.1.2.2.2.1 0 43 (by decide +kernel)).trans rfl
    have v11 : zEq (η2 0 43) (η 0 43) := (k7.1.2.2.2.1 0 43 (by decide +kernel)).trans v10
    have f0_43 : η2 0 43 = η 0 43 := v11
    have v13 : zEq (η1 0 42) (η 0 42) := (k2.1.2.2.2.1 0 42 (by decide +kernel)).trans rfl
    have v14 : zEq (η2 0 42) (η 0 42) := (k7.1.2.2.2.1 0 42 (by decide +kernel)).trans v13
    have f0_42 : η2 0 42 = η 0 42 := v14
    have v16 : zEq (η1 0 45) (η 0 45) := (k2.1.2.2.2.1 0 45 (by decide +kernel)).trans rfl
    have v17 : zEq (η2 0 45) (η 0 45) := (k7.1.2.2.2.1 0 45 (by decide +kernel)).trans v16
    have f0_45 : η2 0 45 = η 0 45 := v17
    have w0_0_19 : (0 : Int) ≤ η 0 19 ∧ η 0 19 ≤ 64 := wf_ok (a := 19) (b := 19) (z := (0, 64)) hI.1.1 (by decide +kernel) (Nat.le_refl _) (Nat.le_refl _)
    have v19 : zEq (η1 0 19) (η 0 19) := (k2.1.2.2.2.1 0 19 (by decide +kernel)).trans rfl
    have v20 : zEq (η2 0 19) (η 0 19) := (k7.1.2.2.2.1 0 19 (by decide +kernel)).trans v19
    have f0_19 : η2 0 19 = η 0 19 := v20
    have w0_0_44 : (0 : Int) ≤ η 0 44 ∧ η 0 44 ≤ 64 := wf_ok (a := 44) (b := 44) (z := (0, 64)) hI.1.1 (by decide +kernel) (Nat.le_refl _) (Nat.le_refl _)
    have v22 : zEq (η1 0 44) (η 0 44) := (k2.1.2.2.2.1 0 44 (by decide +kernel)).trans rfl
    have v23 : zEq (η2 0 44) (η 0 44) := (k7.1.2.2.2.1 0 44 (by decide +kernel)).trans v22
    have f0_44 : η2 0 44 = η 0 44 := v23
    have w0_0_7 : (0 : Int) ≤ η 0 7 ∧ η 0 7 ≤ 700 := wf_ok (a := 7) (b := 7) (z := (0, 700)) hI.1.1 (by decide +kernel) (Nat.le_refl _) (Nat.le_refl _)
    have v25 : zEq (η1 0 7) (η 0 7) := (k2.1.2.2.2.1 0 7 (by decide +kernel)).trans rfl
    have v26 : zEq (η2 0 7) (η 0 7) := (k7.1.2.2.2.1 0 7 (by decide +kernel)).trans v25
    have f0_7 : η2 0 7 = η 0 7 := v26
    have w0_0_6 : (0 : Int) ≤ η 0 6 ∧ η 0 6 ≤ 700 := wf_ok (a := 6) (b := 6) (z := (0, 700)) hI.1.1 (by decide +kernel) (Nat.le_refl _) (Nat.le_refl _)
    have v28 : zEq (η1 0 6) (η 0 6) := (k2.1.2.2.2.1 0 6 (by decide +kernel)).trans rfl
    have v29 : zEq (η2 0 6) (η 0 6) := (k7.1.2.2.2.1 0 6 (by decide +kernel)).trans v28
    have f0_6 : η2 0 6 = η 0 6 := v29
    have v30 : zEq (η2 0 8) (η 0 8) := (k7.1.2.2.2.1 0 8 (by decide +kernel)).trans v5
    have f0_8 : η2 0 8 = η 0 8 := v30
    have wbE : wB wl_le zTr η2 := wb2
    
    have I0 : H_l 0 0 0 η := hig.1
    have I1 : H_l 0 0 0 η1 := k2.2.1
    have qr2 : (1 ≤ x2 → 2 ≤ x1) ∧ (2 ≤ x1 → 1 ≤ x2) := k2.2.2
    have I2 : H_l 0 0 0 η2 := k7.2.1
    have qr7 : (1 ≤ x7 → 2 ≤ x6) ∧ (2 ≤ x6 → 1 ≤ x7) := k7.2.2
    exact ⟨⟨I2, show η2 0 45 = 0 by apply Int.le_antisymm <;> omega, show 1 ≤ η2 0 19 by omega, show η2 0 7 = η0 0 7 by apply Int.le_antisymm <;> omega, show η2 0 6 = η0 0 6 by apply Int.le_antisymm <;> omega, show η2 0 8 = η0 0 8 by apply Int.le_antisymm <;> omega, (by rw [f0_8]; exact hk)⟩, Nat.zero_lt_one⟩
  · have fig : yq_sgn η0 = yq_sg2 x1 η := fig
    show yq_sgn η0 = yq_sg3 x1 η2
    obtain ⟨a2, b2⟩ : x2 = (yq_rk x1) ∧ η1 = η := y2
    clear k2 h2
    have e3 : x3 = η1 0 41 := e3
    clear r3
    have e4 : x4 = η1 0 41 := e4
    clear r4
    have e6 : x6 = η1 22 (Int.toNat x5) := e6
    clear r6
    obtain ⟨a7, b7⟩ : x7 = (yq_rk x6) ∧ η2 = η1 := y7
    clear k7 h7
    subst a2; subst b2
    subst e3
    subst e4
    subst e5
    subst e6
    subst a7; subst b7
    rw [fig]
    unfold yq_sg2 yq_no
    (repeat' split) <;> first | (exfalso; omega) | exact ⟨rfl, rfl⟩ | rfl
set_option maxHeartbeats 8000000 in
theorem zle_signs_o33 {ro : Nat → List Int32} (xs : List Int) (η0 : zE) (hp : sP wl_le zTr zPle_signs xs η0) (hpp : pPle_signs xs η0) (x1 : Int) (η : zE) (hI : zsI wl_le zTr zVle_signs zMle_signs η0 2 [x1] η) (hig : iCle_signs xs η0 2 [x1] η) : ∀ (x2 : Int) (η1 : zE), ((gC2 wl_le [(nat_lit 0, zPle_isSign, zOle_isSign, zMle_isSign), (nat_lit 1, zPle_wrong, zOle_wrong, zMle_wrong), (nat_lit 2, zPle_token, zOle_token, zMle_token), (nat_lit 3, zPle_isKey, zOle_isKey, zMle_isKey), (nat_lit 4, zPle_isCounted, zOle_isCounted, zMle_isCounted), (nat_lit 5, zPle_waitsFor, zOle_waitsFor, zMle_waitsFor), (nat_lit 6, zPle_rank, zOle_rank, zMle_rank), (nat_lit 7, zPle_bind, zOle_bind, zMle_bind)] pCle_signs qCle_signs) 6).2 [x1] η x2 η1 → (x2 = 4) → ∀ x3 : Int, x3 = η1 0 (Int.toNat 41) → zok 0 x3 → (0 < x3) → ∀ x4 : Int, x4 = η1 0 (Int.toNat 41) → zok 0 x4 → ∀ x5 : Int, x5 = zd 0 2 x4 1 → ∀ x6 : Int, x6 = η1 22 (Int.toNat x5) → zok 0 x6 → ∀ (x7 : Int) (η2 : zE), ((gC2 wl_le [(nat_lit 0, zPle_isSign, zOle_isSign, zMle_isSign), (nat_lit 1, zPle_wrong, zOle_wrong, zMle_wrong), (nat_lit 2, zPle_token, zOle_token, zMle_token), (nat_lit 3, zPle_isKey, zOle_isKey, zMle_isKey), (nat_lit 4, zPle_isCounted, zOle_isCounted, zMle_isCounted), (nat_lit 5, zPle_waitsFor, zOle_waitsFor, zMle_waitsFor), (nat_lit 6, zPle_rank, zOle_rank, zMle_rank), (nat_lit 7, zPle_bind, zOle_bind, zMle_bind)] pCle_signs qCle_signs) 6).2 [x6] η1 x7 η2 → (x7 = 4) → ((gC2 wl_le [(nat_lit 0, zPle_isSign, zOle_isSign, zMle_isSign), (nat_lit 1, zPle_wrong, zOle_wrong, zMle_wrong), (nat_lit 2, zPle_token, zOle_token, zMle_token), (nat_lit 3, zPle_isKey, zOle_isKey, zMle_isKey), (nat_lit 4, zPle_isCounted, zOle_isCounted, zMle_isCounted), (nat_lit 5, zPle_waitsFor, zOle_waitsFor, zMle_waitsFor), (nat_lit 6, zPle_rank, zOle_rank, zMle_rank), (nat_lit 7, zPle_bind, zOle_bind, zMle_bind)] pCle_signs qCle_signs) 1).1 [1] η2 := by
  have fig := hig.2
  have hig := hig.1
  have hw : η 0 45 = 0 := hig.2.1
  have hr1 : 1 ≤ η 0 19 := hig.2.2.1
  have hs1 : η 0 7 = η0 0 7 := hig.2.2.2.1
  have hs2 : η 0 6 = η0 0 6 := hig.2.2.2.2.1
  have hs3 : η 0 8 = η0 0 8 := hig.2.2.2.2.2.1
  have hk : x1 = 0 ∨ (3 ≤ x1 ∧ ¬ η 0 8 = 0) := hig.2.2.2.2.2.2
  have kk : η 0 8 = 5 → 0 ≤ η 0 9 ∧ η 0 9 ≤ 5 := hig.1.1.1.2.1.2
  have bd43 : (0 : Int) ≤ η 0 43 ∧ η 0 43 ≤ 8 := wf_ok (a := 43) (b := 43) (z := (0, 8)) hI.1.1 (by decide +kernel) (Nat.le_refl _) (Nat.le_refl _)
  have bd44 : (0 : Int) ≤ η 0 44 ∧ η 0 44 ≤ 64 := wf_ok (a := 44) (b := 44) (z := (0, 64)) hI.1.1 (by decide +kernel) (Nat.le_refl _) (Nat.le_refl _)
  have bd19 : (0 : Int) ≤ η 0 19 ∧ η 0 19 ≤ 64 := wf_ok (a := 19) (b := 19) (z := (0, 64)) hI.1.1 (by decide +kernel) (Nat.le_refl _) (Nat.le_refl _)
  obtain ⟨u1, u2, u3, u4⟩ := hig.1.2
  have cn := cz_n (η := η) (η 0 41).toNat
  intro x2 η1 h2 c1 x3 e3 r3 c2 x4 e4 r4 x5 e5 x6 e6 r6 x7 η2 h7 c3
  replace e5 := zEq_i e5
  have y2 : fQle_rank [x1] η x2 η1 := h2.2.2
  have k2 : sQ wl_le zTr zOle_rank zMle_rank [x1] η x2 η1 ∧ oQle_rank [x1] η x2 η1 := ⟨h2.1, h2.2.1⟩
  have y7 : fQle_rank [x6] η1 x7 η2 := h7.2.2
  have k7 : sQ wl_le zTr zOle_rank zMle_rank [x6] η1 x7 η2 ∧ oQle_rank [x6] η1 x7 η2 := ⟨h7.1, h7.2.1⟩
  have bx1 : (3 : Int) ≤ x1 ∧ x1 ≤ 14 := hI.1.2.1.1
  have w0_0_8 : (0 : Int) ≤ η 0 8 ∧ η 0 8 ≤ 6 := wf_ok (a := 8) (b := 8) (z := (0, 6)) hI.1.1 (by decide +kernel) (Nat.le_refl _) (Nat.le_refl _)
  have c0_0_8 : η 0 8 = η 0 8 := rfl
  have wb1 : wB wl_le zTr η1 := k2.1.1
  have bx2 : (0 : Int) ≤ x2 ∧ x2 ≤ 6 := k2.1.2.1
  have v2 : zEq (η1 0 41) (η 0 41) := (k2.1.2.2.2.1 0 41 (by decide +kernel)).trans rfl
  replace e3 : x3 = η 0 41 := e3.trans v2
  replace r3 : -2147483648 ≤ x3 ∧ x3 ≤ 2147483647 := r3
  replace e4 : x4 = η 0 41 := e4.trans v2
  replace r4 : -2147483648 ≤ x4 ∧ x4 ≤ 2147483647 := r4
  first
  | replace e5 : x5 = x4 - 1 := zd_s2 (zEq_o e5) (by clear e5; exact ⟨by omega, by omega⟩)
  | clear e5
  have v4 : zEq (η1 22 (Int.toNat x5)) (η 22 (Int.toNat x5)) := (k2.1.2.2.2.1 22 _ (zinr_not (by decide +kernel))).trans rfl
  replace e6 : x6 = η 22 (Int.toNat x5) := e6.trans v4
  replace r6 : -2147483648 ≤ x6 ∧ x6 ≤ 2147483647 := r6
  try have rb6 : (0 : Int) ≤ η 22 (Int.toNat x5) ∧ η 22 (Int.toNat x5) ≤ 14 := wf_ok (a := 0) (b := 95) (z := (0, 14)) hI.1.1 (by decide +kernel) (Nat.zero_le _) (by omega)
  have v5 : zEq (η1 0 8) (η 0 8) := (k2.1.2.2.2.1 0 8 (by decide +kernel)).trans rfl
  have c1_0_8 : η1 0 8 = η 0 8 := v5
  have wb2 : wB wl_le zTr η2 := k7.1.1
  have bx7 : (0 : Int) ≤ x7 ∧ x7 ≤ 6 := k7.1.2.1
  have fm1 : zFm zMle_signs η0 η1 := zFm_tr2 hI.2 k2.1.2.2.2.1 (by decide +kernel)
  have fm2 : zFm zMle_signs η0 η2 := zFm_tr2 fm1 k7.1.2.2.2.1 (by decide +kernel)
  have fmE : zFm zMle_signs η0 η2 := fm2
  have fr22_0 : ∀ j, η 22 j = η 22 j := fun _ => rfl
  have v6 : ∀ j, η1 22 j = η 22 j := fun j => k2.1.2.2.2.1 22 _ (zinr_not (by decide +kernel))
  have fr22_1 : ∀ j, η1 22 j = η 22 j := v6
  have v7 : ∀ j, η2 22 j = η 22 j := fun j => (k7.1.2.2.2.1 22 _ (zinr_not (by decide +kernel))).trans (v6 j)
  have fr22_2 : ∀ j, η2 22 j = η 22 j := v7
  have fr22 : ∀ j, η2 22 j = η 22 j := v7
  have v8 : zEq (η2 0 41) (η 0 41) := (k7.1.2.2.2.1 0 41 (by decide +kernel)).trans v2
  have f0_41 : η2 0 41 = η 0 41 := v8
  have w0_0_43 : (0 : Int) ≤ η 0 43 ∧ η 0 43 ≤ 8 := wf_ok (a := 43) (b := 43) (z := (0, 8)) hI.1.1 (by decide +kernel) (Nat.le_refl _) (Nat.le_refl _)
  have v10 : zEq (η1 0 43) (η 0 43) := (k2.1.2.2.2.1 0 43 (by decide +kernel)).trans rfl
  have v11 : zEq (η2 0 43) (η 0 43) := (k7.1.2.2.2.1 0 43 (by decide +kernel)).trans v10
  have f0_43 : η2 0 43 = η 0 43 := v11
  have v13 : zEq (η1 0 42) (η 0 42) := (k2.1.2.2.2.1 0 42 (by decide +kernel)).trans rfl
  have v14 : zEq (η2 0 42) (η 0 42) := (k7.1.2.2.2.1 0 42 (by decide +kernel)).trans v13
  have f0_42 : η2 0 42 = η 0 42 := v14
  have v16 : zEq (η1 0 45) (η 0 45) := (k2.1.2.2.2.1 0 45 (by decide +kernel)).trans rfl
  have v17 : zEq (η2 0 45) (η 0 45) := (k7.1.2.2.2.1 0 45 (by decide +kernel)).trans v16
  have f0_45 : η2 0 45 = η 0 45 := v17
  have w0_0_19 : (0 : Int) ≤ η 0 19 ∧ η 0 19 ≤ 64 := wf_ok (a := 19) (b := 19) (z := (0, 64)) hI.1.1 (by decide +kernel) (Nat.le_refl _) (Nat.le_refl _)
  have v19 : zEq (η1 0 19) (η 0 19) := (k2.1.2.2.2.1 0 19 (by decide +kernel)).trans rfl
  have v20 : zEq (η2 0 19) (η 0 19) := (k7.1.2.2.2.1 0 19 (by decide +kernel)).trans v19
  have f0_19 : η2 0 19 = η 0 19 := v20
  have w0_0_44 : (0 : Int) ≤ η 0 44 ∧ η 0 44 ≤ 64 := wf_ok (a := 44) (b := 44) (z := (0, 64)) hI.1.1 (by decide +kernel) (Nat.le_refl _) (Nat.le_refl _)
  have v22 : zEq (η1 0 44) (η 0 44) := (k2.1.2.2.2.1 0 44 (by decide +kernel)).trans rfl
  have v23 : zEq (η2 0 44) (η 0 44) := (k7.1.2.2.2.1 0 44 (by decide +kernel)).trans v22
  have f0_44 : η2 0 44 = η 0 44 := v23
  have w0_0_7 : (0 : Int) ≤ η 0 7 ∧ η 0 7 ≤ 700 := wf_ok (a := 7) (b := 7) (z := (0, 700)) hI.1.1 (by decide +kernel) (Nat.le_refl _) (Nat.le_refl _)
  have v25 : zEq (η1 0 7) (η 0 7) := (k2.1.2.2.2.1 0 7 (by decide +kernel)).trans rfl
  have v26 : zEq (η2 0 7) (η 0 7) := (k7.1.2.2.2.1 0 7 (by decide +kernel)).trans v25
  have f0_7 : η2 0 7 = η 0 7 := v26
  have w0_0_6 : (0 : Int) ≤ η 0 6 ∧ η 0 6 ≤ 700 := wf_ok (a := 6) (b := 6) (z := (0, 700)) hI.1.1 (by decide +kernel) (Nat.le_refl _) (Nat.le_refl _)
  have v28 : zEq (η1 0 6) (η 0 6) := (k2.1.2.2.2.1 0 6 (by decide +kernel)).trans rfl
  have v29 : zEq (η2 0 6) (η 0 6) := (k7.1.2.2.2.1 0 6 (by decide +kernel)).trans v28
  have f0_6 : η2 0 6 = η 0 6 := v29
  have v30 : zEq (η2 0 8) (η 0 8) := (k7.1.2.2.2.1 0 8 (by decide +kernel)).trans v5
  have f0_8 : η2 0 8 = η 0 8 := v30
  have wbE : wB wl_le zTr η2 := wb2
  
  have I0 : H_l 0 0 0 η := hig.1
  have I1 : H_l 0 0 0 η1 := k2.2.1
  have qr2 : (1 ≤ x2 → 2 ≤ x1) ∧ (2 ≤ x1 → 1 ≤ x2) := k2.2.2
  have I2 : H_l 0 0 0 η2 := k7.2.1
  have qr7 : (1 ≤ x7 → 2 ≤ x6) ∧ (2 ≤ x6 → 1 ≤ x7) := k7.2.2
  exact I2
set_option maxHeartbeats 8000000 in
theorem zle_signs_o34 {ro : Nat → List Int32} (xs : List Int) (η0 : zE) (hp : sP wl_le zTr zPle_signs xs η0) (hpp : pPle_signs xs η0) (x1 : Int) (η : zE) (hI : zsI wl_le zTr zVle_signs zMle_signs η0 2 [x1] η) (hig : iCle_signs xs η0 2 [x1] η) : ∀ (x2 : Int) (η1 : zE), ((gC2 wl_le [(nat_lit 0, zPle_isSign, zOle_isSign, zMle_isSign), (nat_lit 1, zPle_wrong, zOle_wrong, zMle_wrong), (nat_lit 2, zPle_token, zOle_token, zMle_token), (nat_lit 3, zPle_isKey, zOle_isKey, zMle_isKey), (nat_lit 4, zPle_isCounted, zOle_isCounted, zMle_isCounted), (nat_lit 5, zPle_waitsFor, zOle_waitsFor, zMle_waitsFor), (nat_lit 6, zPle_rank, zOle_rank, zMle_rank), (nat_lit 7, zPle_bind, zOle_bind, zMle_bind)] pCle_signs qCle_signs) 6).2 [x1] η x2 η1 → (x2 = 4) → ∀ x3 : Int, x3 = η1 0 (Int.toNat 41) → zok 0 x3 → (0 < x3) → ∀ x4 : Int, x4 = η1 0 (Int.toNat 41) → zok 0 x4 → ∀ x5 : Int, x5 = zd 0 2 x4 1 → ∀ x6 : Int, x6 = η1 22 (Int.toNat x5) → zok 0 x6 → ∀ (x7 : Int) (η2 : zE), ((gC2 wl_le [(nat_lit 0, zPle_isSign, zOle_isSign, zMle_isSign), (nat_lit 1, zPle_wrong, zOle_wrong, zMle_wrong), (nat_lit 2, zPle_token, zOle_token, zMle_token), (nat_lit 3, zPle_isKey, zOle_isKey, zMle_isKey), (nat_lit 4, zPle_isCounted, zOle_isCounted, zMle_isCounted), (nat_lit 5, zPle_waitsFor, zOle_waitsFor, zMle_waitsFor), (nat_lit 6, zPle_rank, zOle_rank, zMle_rank), (nat_lit 7, zPle_bind, zOle_bind, zMle_bind)] pCle_signs qCle_signs) 6).2 [x6] η1 x7 η2 → (x7 = 4) → ∀ (x8 : Int) (η3 : zE), ((gC2 wl_le [(nat_lit 0, zPle_isSign, zOle_isSign, zMle_isSign), (nat_lit 1, zPle_wrong, zOle_wrong, zMle_wrong), (nat_lit 2, zPle_token, zOle_token, zMle_token), (nat_lit 3, zPle_isKey, zOle_isKey, zMle_isKey), (nat_lit 4, zPle_isCounted, zOle_isCounted, zMle_isCounted), (nat_lit 5, zPle_waitsFor, zOle_waitsFor, zMle_waitsFor), (nat_lit 6, zPle_rank, zOle_rank, zMle_rank), (nat_lit 7, zPle_bind, zOle_bind, zMle_bind)] pCle_signs qCle_signs) 1).2 [1] η2 x8 η3 → (fun (_ : Nat) (y : Int) (η' : zE) => pQle_signs xs η0 y η') 0 x8 η3 := by
  have fig := hig.2
  have hig := hig.1
  intro x2 η1 h2 c1 x3 e3 r3 c2 x4 e4 r4 x5 e5 x6 e6 r6 x7 η2 h7 c3 x8 η3 h8
  have y2 : fQle_rank [x1] η x2 η1 := h2.2.2
  have k2 : sQ wl_le zTr zOle_rank zMle_rank [x1] η x2 η1 ∧ oQle_rank [x1] η x2 η1 := ⟨h2.1, h2.2.1⟩
  have y7 : fQle_rank [x6] η1 x7 η2 := h7.2.2
  have k7 : sQ wl_le zTr zOle_rank zMle_rank [x6] η1 x7 η2 ∧ oQle_rank [x6] η1 x7 η2 := ⟨h7.1, h7.2.1⟩
  have y8 : fQle_wrong [1] η2 x8 η3 := h8.2.2
  have k8 : sQ wl_le zTr zOle_wrong zMle_wrong [1] η2 x8 η3 ∧ oQle_wrong [1] η2 x8 η3 := ⟨h8.1, h8.2.1⟩
  refine yj_a ?_ ?_
  · have hw : η 0 45 = 0 := hig.2.1
    have hr1 : 1 ≤ η 0 19 := hig.2.2.1
    have hs1 : η 0 7 = η0 0 7 := hig.2.2.2.1
    have hs2 : η 0 6 = η0 0 6 := hig.2.2.2.2.1
    have hs3 : η 0 8 = η0 0 8 := hig.2.2.2.2.2.1
    have hk : x1 = 0 ∨ (3 ≤ x1 ∧ ¬ η 0 8 = 0) := hig.2.2.2.2.2.2
    have kk : η 0 8 = 5 → 0 ≤ η 0 9 ∧ η 0 9 ≤ 5 := hig.1.1.1.2.1.2
    have bd43 : (0 : Int) ≤ η 0 43 ∧ η 0 43 ≤ 8 := wf_ok (a := 43) (b := 43) (z := (0, 8)) hI.1.1 (by decide +kernel) (Nat.le_refl _) (Nat.le_refl _)
    have bd44 : (0 : Int) ≤ η 0 44 ∧ η 0 44 ≤ 64 := wf_ok (a := 44) (b := 44) (z := (0, 64)) hI.1.1 (by decide +kernel) (Nat.le_refl _) (Nat.le_refl _)
    have bd19 : (0 : Int) ≤ η 0 19 ∧ η 0 19 ≤ 64 := wf_ok (a := 19) (b := 19) (z := (0, 64)) hI.1.1 (by decide +kernel) (Nat.le_refl _) (Nat.le_refl _)
    obtain ⟨u1, u2, u3, u4⟩ := hig.1.2
    have cn := cz_n (η := η) (η 0 41).toNat
    replace e5 := zEq_i e5
    have y2 : fQle_rank [x1] η x2 η1 := h2.2.2
    have k2 : sQ wl_le zTr zOle_rank zMle_rank [x1] η x2 η1 ∧ oQle_rank [x1] η x2 η1 := ⟨h2.1, h2.2.1⟩
    have y7 : fQle_rank [x6] η1 x7 η2 := h7.2.2
    have k7 : sQ wl_le zTr zOle_rank zMle_rank [x6] η1 x7 η2 ∧ oQle_rank [x6] η1 x7 η2 := ⟨h7.1, h7.2.1⟩
    have y8 : fQle_wrong [1] η2 x8 η3 := h8.2.2
    have k8 : sQ wl_le zTr zOle_wrong zMle_wrong [1] η2 x8 η3 ∧ oQle_wrong [1] η2 x8 η3 := ⟨h8.1, h8.2.1⟩
    have bx1 : (3 : Int) ≤ x1 ∧ x1 ≤ 14 := hI.1.2.1.1
    have w0_0_8 : (0 : Int) ≤ η 0 8 ∧ η 0 8 ≤ 6 := wf_ok (a := 8) (b := 8) (z := (0, 6)) hI.1.1 (by decide +kernel) (Nat.le_refl _) (Nat.le_refl _)
    have c0_0_8 : η 0 8 = η 0 8 := rfl
    have wb1 : wB wl_le zTr η1 := k2.1.1
    have bx2 : (0 : Int) ≤ x2 ∧ x2 ≤ 6 := k2.1.2.1
    have v2 : zEq (η1 0 41) (η 0 41) := (k2.1.2.2.2.1 0 41 (by decide +kernel)).trans rfl
    replace e3 : x3 = η 0 41 := e3.trans v2
    replace r3 : -2147483648 ≤ x3 ∧ x3 ≤ 2147483647 := r3
    replace e4 : x4 = η 0 41 := e4.trans v2
    replace r4 : -2147483648 ≤ x4 ∧ x4 ≤ 2147483647 := r4
    first
    | replace e5 : x5 = x4 - 1 := zd_s2 (zEq_o e5) (by clear e5; exact ⟨by omega, by omega⟩)
    | clear e5
    have v4 : zEq (η1 22 (Int.toNat x5)) (η 22 (Int.toNat x5)) := (k2.1.2.2.2.1 22 _ (zinr_not (by decide +kernel))).trans rfl
    replace e6 : x6 = η 22 (Int.toNat x5) := e6.trans v4
    replace r6 : -2147483648 ≤ x6 ∧ x6 ≤ 2147483647 := r6
    try have rb6 : (0 : Int) ≤ η 22 (Int.toNat x5) ∧ η 22 (Int.toNat x5) ≤ 14 := wf_ok (a := 0) (b := 95) (z := (0, 14)) hI.1.1 (by decide +kernel) (Nat.zero_le _) (by omega)
    have v5 : zEq (η1 0 8) (η 0 8) := (k2.1.2.2.2.1 0 8 (by decide +kernel)).trans rfl
    have c1_0_8 : η1 0 8 = η 0 8 := v5
    have wb2 : wB wl_le zTr η2 := k7.1.1
    have bx7 : (0 : Int) ≤ x7 ∧ x7 ≤ 6 := k7.1.2.1
    have v6 : zEq (η2 0 8) (η 0 8) := (k7.1.2.2.2.1 0 8 (by decide +kernel)).trans v5
    have c2_0_8 : η2 0 8 = η 0 8 := v6
    have wb3 : wB wl_le zTr η3 := k8.1.1
    have bx8 : (0 : Int) ≤ x8 ∧ x8 ≤ 0 := k8.1.2.1
    have fm1 : zFm zMle_signs η0 η1 := zFm_tr2 hI.2 k2.1.2.2.2.1 (by decide +kernel)
    have fm2 : zFm zMle_signs η0 η2 := zFm_tr2 fm1 k7.1.2.2.2.1 (by decide +kernel)
    have fm3 : zFm zMle_signs η0 η3 := zFm_tr2 fm2 k8.1.2.2.2.1 (by decide +kernel)
    have fmE : zFm zMle_signs η0 η3 := fm3
    have fr22_0 : ∀ j, η 22 j = η 22 j := fun _ => rfl
    have v7 : ∀ j, η1 22 j = η 22 j := fun j => k2.1.2.2.2.1 22 _ (zinr_not (by decide +kernel))
    have fr22_1 : ∀ j, η1 22 j = η 22 j := v7
    have v8 : ∀ j, η2 22 j = η 22 j := fun j => (k7.1.2.2.2.1 22 _ (zinr_not (by decide +kernel))).trans (v7 j)
    have fr22_2 : ∀ j, η2 22 j = η 22 j := v8
    have v9 : ∀ j, η3 22 j = η 22 j := fun j => (k8.1.2.2.2.1 22 _ (zinr_not (by decide +kernel))).trans (v8 j)
    have fr22_3 : ∀ j, η3 22 j = η 22 j := v9
    have fr22 : ∀ j, η3 22 j = η 22 j := v9
    have v10 : zEq (η2 0 41) (η 0 41) := (k7.1.2.2.2.1 0 41 (by decide +kernel)).trans v2
    have v11 : zEq (η3 0 41) (η 0 41) := (k8.1.2.2.2.1 0 41 (by decide +kernel)).trans v10
    have f0_41 : η3 0 41 = η 0 41 := v11
    have w0_0_43 : (0 : Int) ≤ η 0 43 ∧ η 0 43 ≤ 8 := wf_ok (a := 43) (b := 43) (z := (0, 8)) hI.1.1 (by decide +kernel) (Nat.le_refl _) (Nat.le_refl _)
    have v13 : zEq (η1 0 43) (η 0 43) := (k2.1.2.2.2.1 0 43 (by decide +kernel)).trans rfl
    have v14 : zEq (η2 0 43) (η 0 43) := (k7.1.2.2.2.1 0 43 (by decide +kernel)).trans v13
    have v15 : zEq (η3 0 43) (η 0 43) := (k8.1.2.2.2.1 0 43 (by decide +kernel)).trans v14
    have f0_43 : η3 0 43 = η 0 43 := v15
    have v17 : zEq (η1 0 42) (η 0 42) := (k2.1.2.2.2.1 0 42 (by decide +kernel)).trans rfl
    have v18 : zEq (η2 0 42) (η 0 42) := (k7.1.2.2.2.1 0 42 (by decide +kernel)).trans v17
    have v19 : zEq (η3 0 42) (η 0 42) := (k8.1.2.2.2.1 0 42 (by decide +kernel)).trans v18
    have f0_42 : η3 0 42 = η 0 42 := v19
    have v21 : zEq (η1 0 45) (η 0 45) := (k2.1.2.2.2.1 0 45 (by decide +kernel)).trans rfl
    have v22 : zEq (η2 0 45) (η 0 45) := (k7.1.2.2.2.1 0 45 (by decide +kernel)).trans v21
    have v23 : zEq (η3 0 45) (η 0 45) := (k8.1.2.2.2.1 0 45 (by decide +kernel)).trans v22
    have f0_45 : η3 0 45 = η 0 45 := v23
    have w0_0_19 : (0 : Int) ≤ η 0 19 ∧ η 0 19 ≤ 64 := wf_ok (a := 19) (b := 19) (z := (0, 64)) hI.1.1 (by decide +kernel) (Nat.le_refl _) (Nat.le_refl _)
    have v25 : zEq (η1 0 19) (η 0 19) := (k2.1.2.2.2.1 0 19 (by decide +kernel)).trans rfl
    have v26 : zEq (η2 0 19) (η 0 19) := (k7.1.2.2.2.1 0 19 (by decide +kernel)).trans v25
    have v27 : zEq (η3 0 19) (η 0 19) := (k8.1.2.2.2.1 0 19 (by decide +kernel)).trans v26
    have f0_19 : η3 0 19 = η 0 19 := v27
    have w0_0_44 : (0 : Int) ≤ η 0 44 ∧ η 0 44 ≤ 64 := wf_ok (a := 44) (b := 44) (z := (0, 64)) hI.1.1 (by decide +kernel) (Nat.le_refl _) (Nat.le_refl _)
    have v29 : zEq (η1 0 44) (η 0 44) := (k2.1.2.2.2.1 0 44 (by decide +kernel)).trans rfl
    have v30 : zEq (η2 0 44) (η 0 44) := (k7.1.2.2.2.1 0 44 (by decide +kernel)).trans v29
    have v31 : zEq (η3 0 44) (η 0 44) := (k8.1.2.2.2.1 0 44 (by decide +kernel)).trans v30
    have f0_44 : η3 0 44 = η 0 44 := v31
    have w0_0_7 : (0 : Int) ≤ η 0 7 ∧ η 0 7 ≤ 700 := wf_ok (a := 7) (b := 7) (z := (0, 700)) hI.1.1 (by decide +kernel) (Nat.le_refl _) (Nat.le_refl _)
    have v33 : zEq (η1 0 7) (η 0 7) := (k2.1.2.2.2.1 0 7 (by decide +kernel)).trans rfl
    have v34 : zEq (η2 0 7) (η 0 7) := (k7.1.2.2.2.1 0 7 (by decide +kernel)).trans v33
    have v35 : zEq (η3 0 7) (η 0 7) := (k8.1.2.2.2.1 0 7 (by decide +kernel)).trans v34
    have f0_7 : η3 0 7 = η 0 7 := v35
    have w0_0_6 : (0 : Int) ≤ η 0 6 ∧ η 0 6 ≤ 700 := wf_ok (a := 6) (b := 6) (z := (0, 700)) hI.1.1 (by decide +kernel) (Nat.le_refl _) (Nat.le_refl _)
    have v37 : zEq (η1 0 6) (η 0 6) := (k2.1.2.2.2.1 0 6 (by decide +kernel)).trans rfl
    have v38 : zEq (η2 0 6) (η 0 6) := (k7.1.2.2.2.1 0 6 (by decide +kernel)).trans v37
    have v39 : zEq (η3 0 6) (η 0 6) := (k8.1.2.2.2.1 0 6 (by decide +kernel)).trans v38
    have f0_6 : η3 0 6 = η 0 6 := v39
    have v40 : zEq (η3 0 8) (η 0 8) := (k8.1.2.2.2.1 0 8 (by decide +kernel)).trans v6
    have f0_8 : η3 0 8 = η 0 8 := v40
    have wbE : wB wl_le zTr η3 := wb3
    
    have I0 : H_l 0 0 0 η := hig.1
    have I1 : H_l 0 0 0 η1 := k2.2.1
    have qr2 : (1 ≤ x2 → 2 ≤ x1) ∧ (2 ≤ x1 → 1 ≤ x2) := k2.2.2
    have I2 : H_l 0 0 0 η2 := k7.2.1
    have qr7 : (1 ≤ x7 → 2 ≤ x6) ∧ (2 ≤ x6 → 1 ≤ x7) := k7.2.2
    have I3 : H_l 0 0 0 η3 := k8.2
    exact ⟨I3.1, fun w => absurd (show (x8 : Int) = 0 by apply Int.le_antisymm <;> omega) w⟩
  · have fig : yq_sgn η0 = yq_sg2 x1 η := fig
    have goal_ : (x8, η3) = yq_sgn η0 := by
      obtain ⟨a2, b2⟩ : x2 = (yq_rk x1) ∧ η1 = η := y2
      clear k2 h2
      have e3 : x3 = η1 0 41 := e3
      clear r3
      have e4 : x4 = η1 0 41 := e4
      clear r4
      have e6 : x6 = η1 22 (Int.toNat x5) := e6
      clear r6
      obtain ⟨a7, b7⟩ : x7 = (yq_rk x6) ∧ η2 = η1 := y7
      clear k7 h7
      obtain ⟨a8, b8⟩ : x8 = 0 ∧ η3 = (yq_wr 1 η2) := y8
      clear k8 h8
      subst a2; subst b2
      subst e3
      subst e4
      subst e5
      subst e6
      subst a7; subst b7
      subst a8; subst b8
      rw [fig]
      unfold yq_sg2 yq_no
      (repeat' split) <;> first | (exfalso; omega) | exact ⟨rfl, rfl⟩ | rfl
    exact ⟨congrArg Prod.fst goal_, congrArg Prod.snd goal_⟩
set_option maxHeartbeats 8000000 in
theorem zle_signs_o35 {ro : Nat → List Int32} (xs : List Int) (η0 : zE) (hp : sP wl_le zTr zPle_signs xs η0) (hpp : pPle_signs xs η0) (x1 : Int) (η : zE) (hI : zsI wl_le zTr zVle_signs zMle_signs η0 2 [x1] η) (hig : iCle_signs xs η0 2 [x1] η) : ∀ (x2 : Int) (η1 : zE), ((gC wl_le [(nat_lit 0, zPle_isSign, zOle_isSign, zMle_isSign), (nat_lit 1, zPle_wrong, zOle_wrong, zMle_wrong), (nat_lit 2, zPle_token, zOle_token, zMle_token), (nat_lit 3, zPle_isKey, zOle_isKey, zMle_isKey), (nat_lit 4, zPle_isCounted, zOle_isCounted, zMle_isCounted), (nat_lit 5, zPle_waitsFor, zOle_waitsFor, zMle_waitsFor), (nat_lit 6, zPle_rank, zOle_rank, zMle_rank), (nat_lit 7, zPle_bind, zOle_bind, zMle_bind)] pCle_signs qCle_signs) 6).2 [x1] η x2 η1 → (x2 = 4) → ∀ x3 : Int, x3 = η1 0 (Int.toNat 41) → zok 0 x3 → (0 < x3) → ∀ x4 : Int, x4 = η1 0 (Int.toNat 41) → zok 0 x4 → ∀ x5 : Int, x5 = zd 0 2 x4 1 → (0 : Int) ≤ x5 ∧ (x5 : Int) < 96 := by
  have fig := hig.2
  have hig := hig.1
  have hw : η 0 45 = 0 := hig.2.1
  have hr1 : 1 ≤ η 0 19 := hig.2.2.1
  have hs1 : η 0 7 = η0 0 7 := hig.2.2.2.1
  have hs2 : η 0 6 = η0 0 6 := hig.2.2.2.2.1
  have hs3 : η 0 8 = η0 0 8 := hig.2.2.2.2.2.1
  have hk : x1 = 0 ∨ (3 ≤ x1 ∧ ¬ η 0 8 = 0) := hig.2.2.2.2.2.2
  have kk : η 0 8 = 5 → 0 ≤ η 0 9 ∧ η 0 9 ≤ 5 := hig.1.1.1.2.1.2
  have bd43 : (0 : Int) ≤ η 0 43 ∧ η 0 43 ≤ 8 := wf_ok (a := 43) (b := 43) (z := (0, 8)) hI.1.1 (by decide +kernel) (Nat.le_refl _) (Nat.le_refl _)
  have bd44 : (0 : Int) ≤ η 0 44 ∧ η 0 44 ≤ 64 := wf_ok (a := 44) (b := 44) (z := (0, 64)) hI.1.1 (by decide +kernel) (Nat.le_refl _) (Nat.le_refl _)
  have bd19 : (0 : Int) ≤ η 0 19 ∧ η 0 19 ≤ 64 := wf_ok (a := 19) (b := 19) (z := (0, 64)) hI.1.1 (by decide +kernel) (Nat.le_refl _) (Nat.le_refl _)
  obtain ⟨u1, u2, u3, u4⟩ := hig.1.2
  have cn := cz_n (η := η) (η 0 41).toNat
  intro x2 η1 h2 c1 x3 e3 r3 c2 x4 e4 r4 x5 e5
  replace e5 := zEq_i e5
  have y2 : fQle_rank [x1] η x2 η1 := h2.2.2
  have k2 : sQ wl_le zTr zOle_rank zMle_rank [x1] η x2 η1 ∧ oQle_rank [x1] η x2 η1 := ⟨h2.1, h2.2.1⟩
  have bx1 : (3 : Int) ≤ x1 ∧ x1 ≤ 14 := hI.1.2.1.1
  have w0_0_8 : (0 : Int) ≤ η 0 8 ∧ η 0 8 ≤ 6 := wf_ok (a := 8) (b := 8) (z := (0, 6)) hI.1.1 (by decide +kernel) (Nat.le_refl _) (Nat.le_refl _)
  have c0_0_8 : η 0 8 = η 0 8 := rfl
  have wb1 : wB wl_le zTr η1 := k2.1.1
  have bx2 : (0 : Int) ≤ x2 ∧ x2 ≤ 6 := k2.1.2.1
  have v2 : zEq (η1 0 41) (η 0 41) := (k2.1.2.2.2.1 0 41 (by decide +kernel)).trans rfl
  replace e3 : x3 = η 0 41 := e3.trans v2
  replace r3 : -2147483648 ≤ x3 ∧ x3 ≤ 2147483647 := r3
  replace e4 : x4 = η 0 41 := e4.trans v2
  replace r4 : -2147483648 ≤ x4 ∧ x4 ≤ 2147483647 := r4
  first
  | replace e5 : x5 = x4 - 1 := zd_s2 (zEq_o e5) (by clear e5; exact ⟨by omega, by omega⟩)
  | clear e5
  have fm1 : zFm zMle_signs η0 η1 := zFm_tr2 hI.2 k2.1.2.2.2.1 (by decide +kernel)
  have fmE : zFm zMle_signs η0 η1 := fm1
  have fr22_0 : ∀ j, η 22 j = η 22 j := fun _ => rfl
  have v3 : ∀ j, η1 22 j = η 22 j := fun j => k2.1.2.2.2.1 22 _ (zinr_not (by decide +kernel))
  have fr22_1 : ∀ j, η1 22 j = η 22 j := v3
  have fr22 : ∀ j, η1 22 j = η 22 j := v3
  have f0_41 : η1 0 41 = η 0 41 := v2
  have w0_0_43 : (0 : Int) ≤ η 0 43 ∧ η 0 43 ≤ 8 := wf_ok (a := 43) (b := 43) (z := (0, 8)) hI.1.1 (by decide +kernel) (Nat.le_refl _) (Nat.le_refl _)
  have v5 : zEq (η1 0 43) (η 0 43) := (k2.1.2.2.2.1 0 43 (by decide +kernel)).trans rfl
  have f0_43 : η1 0 43 = η 0 43 := v5
  have v7 : zEq (η1 0 42) (η 0 42) := (k2.1.2.2.2.1 0 42 (by decide +kernel)).trans rfl
  have f0_42 : η1 0 42 = η 0 42 := v7
  have v9 : zEq (η1 0 45) (η 0 45) := (k2.1.2.2.2.1 0 45 (by decide +kernel)).trans rfl
  have f0_45 : η1 0 45 = η 0 45 := v9
  have w0_0_19 : (0 : Int) ≤ η 0 19 ∧ η 0 19 ≤ 64 := wf_ok (a := 19) (b := 19) (z := (0, 64)) hI.1.1 (by decide +kernel) (Nat.le_refl _) (Nat.le_refl _)
  have v11 : zEq (η1 0 19) (η 0 19) := (k2.1.2.2.2.1 0 19 (by decide +kernel)).trans rfl
  have f0_19 : η1 0 19 = η 0 19 := v11
  have w0_0_44 : (0 : Int) ≤ η 0 44 ∧ η 0 44 ≤ 64 := wf_ok (a := 44) (b := 44) (z := (0, 64)) hI.1.1 (by decide +kernel) (Nat.le_refl _) (Nat.le_refl _)
  have v13 : zEq (η1 0 44) (η 0 44) := (k2.1.2.2.2.1 0 44 (by decide +kernel)).trans rfl
  have f0_44 : η1 0 44 = η 0 44 := v13
  have w0_0_7 : (0 : Int) ≤ η 0 7 ∧ η 0 7 ≤ 700 := wf_ok (a := 7) (b := 7) (z := (0, 700)) hI.1.1 (by decide +kernel) (Nat.le_refl _) (Nat.le_refl _)
  have v15 : zEq (η1 0 7) (η 0 7) := (k2.1.2.2.2.1 0 7 (by decide +kernel)).trans rfl
  have f0_7 : η1 0 7 = η 0 7 := v15
  have w0_0_6 : (0 : Int) ≤ η 0 6 ∧ η 0 6 ≤ 700 := wf_ok (a := 6) (b := 6) (z := (0, 700)) hI.1.1 (by decide +kernel) (Nat.le_refl _) (Nat.le_refl _)
  have v17 : zEq (η1 0 6) (η 0 6) := (k2.1.2.2.2.1 0 6 (by decide +kernel)).trans rfl
  have f0_6 : η1 0 6 = η 0 6 := v17
  have v18 : zEq (η1 0 8) (η 0 8) := (k2.1.2.2.2.1 0 8 (by decide +kernel)).trans rfl
  have f0_8 : η1 0 8 = η 0 8 := v18
  have wbE : wB wl_le zTr η1 := wb1
  
  have I0 : H_l 0 0 0 η := hig.1
  have I1 : H_l 0 0 0 η1 := k2.2.1
  have qr2 : (1 ≤ x2 → 2 ≤ x1) ∧ (2 ≤ x1 → 1 ≤ x2) := k2.2.2
  exact ⟨by omega, by omega⟩
set_option maxHeartbeats 8000000 in
theorem zle_signs_o36 {ro : Nat → List Int32} (xs : List Int) (η0 : zE) (hp : sP wl_le zTr zPle_signs xs η0) (hpp : pPle_signs xs η0) (x1 : Int) (η : zE) (hI : zsI wl_le zTr zVle_signs zMle_signs η0 3 [x1] η) (hig : iCle_signs xs η0 3 [x1] η) : ((gC2 wl_le [(nat_lit 0, zPle_isSign, zOle_isSign, zMle_isSign), (nat_lit 1, zPle_wrong, zOle_wrong, zMle_wrong), (nat_lit 2, zPle_token, zOle_token, zMle_token), (nat_lit 3, zPle_isKey, zOle_isKey, zMle_isKey), (nat_lit 4, zPle_isCounted, zOle_isCounted, zMle_isCounted), (nat_lit 5, zPle_waitsFor, zOle_waitsFor, zMle_waitsFor), (nat_lit 6, zPle_rank, zOle_rank, zMle_rank), (nat_lit 7, zPle_bind, zOle_bind, zMle_bind)] pCle_signs qCle_signs) 4).1 [] η := by
  have fig := hig.2
  have hig := hig.1
  have hw : η 0 45 = 0 := hig.2.1
  have hr1 : 1 ≤ η 0 19 := hig.2.2.1
  have hs1 : η 0 7 = η0 0 7 := hig.2.2.2.1
  have hs2 : η 0 6 = η0 0 6 := hig.2.2.2.2.1
  have hs3 : η 0 8 = η0 0 8 := hig.2.2.2.2.2.1
  have hk : x1 = 0 ∨ (3 ≤ x1 ∧ ¬ η 0 8 = 0) := hig.2.2.2.2.2.2
  have kk : η 0 8 = 5 → 0 ≤ η 0 9 ∧ η 0 9 ≤ 5 := hig.1.1.1.2.1.2
  have bd43 : (0 : Int) ≤ η 0 43 ∧ η 0 43 ≤ 8 := wf_ok (a := 43) (b := 43) (z := (0, 8)) hI.1.1 (by decide +kernel) (Nat.le_refl _) (Nat.le_refl _)
  have bd44 : (0 : Int) ≤ η 0 44 ∧ η 0 44 ≤ 64 := wf_ok (a := 44) (b := 44) (z := (0, 64)) hI.1.1 (by decide +kernel) (Nat.le_refl _) (Nat.le_refl _)
  have bd19 : (0 : Int) ≤ η 0 19 ∧ η 0 19 ≤ 64 := wf_ok (a := 19) (b := 19) (z := (0, 64)) hI.1.1 (by decide +kernel) (Nat.le_refl _) (Nat.le_refl _)
  obtain ⟨u1, u2, u3, u4⟩ := hig.1.2
  have cn := cz_n (η := η) (η 0 41).toNat
  have bx1 : (3 : Int) ≤ x1 ∧ x1 ≤ 14 := hI.1.2.1.1
  have fmE : zFm zMle_signs η0 η := hI.2
  have fr22_0 : ∀ j, η 22 j = η 22 j := fun _ => rfl
  have fr22 : ∀ j, η 22 j = η 22 j := fun _ => rfl
  have f0_41 : η 0 41 = η 0 41 := rfl
  have w0_0_43 : (0 : Int) ≤ η 0 43 ∧ η 0 43 ≤ 8 := wf_ok (a := 43) (b := 43) (z := (0, 8)) hI.1.1 (by decide +kernel) (Nat.le_refl _) (Nat.le_refl _)
  have f0_43 : η 0 43 = η 0 43 := rfl
  have f0_42 : η 0 42 = η 0 42 := rfl
  have f0_45 : η 0 45 = η 0 45 := rfl
  have w0_0_19 : (0 : Int) ≤ η 0 19 ∧ η 0 19 ≤ 64 := wf_ok (a := 19) (b := 19) (z := (0, 64)) hI.1.1 (by decide +kernel) (Nat.le_refl _) (Nat.le_refl _)
  have f0_19 : η 0 19 = η 0 19 := rfl
  have w0_0_44 : (0 : Int) ≤ η 0 44 ∧ η 0 44 ≤ 64 := wf_ok (a := 44) (b := 44) (z := (0, 64)) hI.1.1 (by decide +kernel) (Nat.le_refl _) (Nat.le_refl _)
  have f0_44 : η 0 44 = η 0 44 := rfl
  have w0_0_7 : (0 : Int) ≤ η 0 7 ∧ η 0 7 ≤ 700 := wf_ok (a := 7) (b := 7) (z := (0, 700)) hI.1.1 (by decide +kernel) (Nat.le_refl _) (Nat.le_refl _)
  have f0_7 : η 0 7 = η 0 7 := rfl
  have w0_0_6 : (0 : Int) ≤ η 0 6 ∧ η 0 6 ≤ 700 := wf_ok (a := 6) (b := 6) (z := (0, 700)) hI.1.1 (by decide +kernel) (Nat.le_refl _) (Nat.le_refl _)
  have f0_6 : η 0 6 = η 0 6 := rfl
  have w0_0_8 : (0 : Int) ≤ η 0 8 ∧ η 0 8 ≤ 6 := wf_ok (a := 8) (b := 8) (z := (0, 6)) hI.1.1 (by decide +kernel) (Nat.le_refl _) (Nat.le_refl _)
  have f0_8 : η 0 8 = η 0 8 := rfl
  have wbE : wB wl_le zTr η := hI.1.1
  
  have I0 : H_l 0 0 0 η := hig.1
  exact I0
set_option maxHeartbeats 8000000 in
theorem zle_signs_o37 {ro : Nat → List Int32} (xs : List Int) (η0 : zE) (hp : sP wl_le zTr zPle_signs xs η0) (hpp : pPle_signs xs η0) (x1 : Int) (η : zE) (hI : zsI wl_le zTr zVle_signs zMle_signs η0 3 [x1] η) (hig : iCle_signs xs η0 3 [x1] η) : ∀ (x2 : Int) (η1 : zE), ((gC2 wl_le [(nat_lit 0, zPle_isSign, zOle_isSign, zMle_isSign), (nat_lit 1, zPle_wrong, zOle_wrong, zMle_wrong), (nat_lit 2, zPle_token, zOle_token, zMle_token), (nat_lit 3, zPle_isKey, zOle_isKey, zMle_isKey), (nat_lit 4, zPle_isCounted, zOle_isCounted, zMle_isCounted), (nat_lit 5, zPle_waitsFor, zOle_waitsFor, zMle_waitsFor), (nat_lit 6, zPle_rank, zOle_rank, zMle_rank), (nat_lit 7, zPle_bind, zOle_bind, zMle_bind)] pCle_signs qCle_signs) 4).2 [] η x2 η1 → (¬ x2 = 0) → ((gC2 wl_le [(nat_lit 0, zPle_isSign, zOle_isSign, zMle_isSign), (nat_lit 1, zPle_wrong, zOle_wrong, zMle_wrong), (nat_lit 2, zPle_token, zOle_token, zMle_token), (nat_lit 3, zPle_isKey, zOle_isKey, zMle_isKey), (nat_lit 4, zPle_isCounted, zOle_isCounted, zMle_isCounted), (nat_lit 5, zPle_waitsFor, zOle_waitsFor, zMle_waitsFor), (nat_lit 6, zPle_rank, zOle_rank, zMle_rank), (nat_lit 7, zPle_bind, zOle_bind, zMle_bind)] pCle_signs qCle_signs) 5).1 [x1] η1 := by
  have fig := hig.2
  have hig := hig.1
  have hw : η 0 45 = 0 := hig.2.1
  have hr1 : 1 ≤ η 0 19 := hig.2.2.1
  have hs1 : η 0 7 = η0 0 7 := hig.2.2.2.1
  have hs2 : η 0 6 = η0 0 6 := hig.2.2.2.2.1
  have hs3 : η 0 8 = η0 0 8 := hig.2.2.2.2.2.1
  have hk : x1 = 0 ∨ (3 ≤ x1 ∧ ¬ η 0 8 = 0) := hig.2.2.2.2.2.2
  have kk : η 0 8 = 5 → 0 ≤ η 0 9 ∧ η 0 9 ≤ 5 := hig.1.1.1.2.1.2
  have bd43 : (0 : Int) ≤ η 0 43 ∧ η 0 43 ≤ 8 := wf_ok (a := 43) (b := 43) (z := (0, 8)) hI.1.1 (by decide +kernel) (Nat.le_refl _) (Nat.le_refl _)
  have bd44 : (0 : Int) ≤ η 0 44 ∧ η 0 44 ≤ 64 := wf_ok (a := 44) (b := 44) (z := (0, 64)) hI.1.1 (by decide +kernel) (Nat.le_refl _) (Nat.le_refl _)
  have bd19 : (0 : Int) ≤ η 0 19 ∧ η 0 19 ≤ 64 := wf_ok (a := 19) (b := 19) (z := (0, 64)) hI.1.1 (by decide +kernel) (Nat.le_refl _) (Nat.le_refl _)
  obtain ⟨u1, u2, u3, u4⟩ := hig.1.2
  have cn := cz_n (η := η) (η 0 41).toNat
  intro x2 η1 h2 c1
  have y2 : fQle_isCounted [] η x2 η1 := h2.2.2
  have k2 : sQ wl_le zTr zOle_isCounted zMle_isCounted [] η x2 η1 ∧ oQle_isCounted [] η x2 η1 := ⟨h2.1, h2.2.1⟩
  have bx1 : (3 : Int) ≤ x1 ∧ x1 ≤ 14 := hI.1.2.1.1
  have w0_0_8 : (0 : Int) ≤ η 0 8 ∧ η 0 8 ≤ 6 := wf_ok (a := 8) (b := 8) (z := (0, 6)) hI.1.1 (by decide +kernel) (Nat.le_refl _) (Nat.le_refl _)
  have c0_0_8 : η 0 8 = η 0 8 := rfl
  have wb1 : wB wl_le zTr η1 := k2.1.1
  have bx2 : (0 : Int) ≤ x2 ∧ x2 ≤ 1 := k2.1.2.1
  have fm1 : zFm zMle_signs η0 η1 := zFm_tr2 hI.2 k2.1.2.2.2.1 (by decide +kernel)
  have fmE : zFm zMle_signs η0 η1 := fm1
  have fr22_0 : ∀ j, η 22 j = η 22 j := fun _ => rfl
  have v1 : ∀ j, η1 22 j = η 22 j := fun j => k2.1.2.2.2.1 22 _ (zinr_not (by decide +kernel))
  have fr22_1 : ∀ j, η1 22 j = η 22 j := v1
  have fr22 : ∀ j, η1 22 j = η 22 j := v1
  have v3 : zEq (η1 0 41) (η 0 41) := (k2.1.2.2.2.1 0 41 (by decide +kernel)).trans rfl
  have f0_41 : η1 0 41 = η 0 41 := v3
  have w0_0_43 : (0 : Int) ≤ η 0 43 ∧ η 0 43 ≤ 8 := wf_ok (a := 43) (b := 43) (z := (0, 8)) hI.1.1 (by decide +kernel) (Nat.le_refl _) (Nat.le_refl _)
  have v5 : zEq (η1 0 43) (η 0 43) := (k2.1.2.2.2.1 0 43 (by decide +kernel)).trans rfl
  have f0_43 : η1 0 43 = η 0 43 := v5
  have v7 : zEq (η1 0 42) (η 0 42) := (k2.1.2.2.2.1 0 42 (by decide +kernel)).trans rfl
  have f0_42 : η1 0 42 = η 0 42 := v7
  have v9 : zEq (η1 0 45) (η 0 45) := (k2.1.2.2.2.1 0 45 (by decide +kernel)).trans rfl
  have f0_45 : η1 0 45 = η 0 45 := v9
  have w0_0_19 : (0 : Int) ≤ η 0 19 ∧ η 0 19 ≤ 64 := wf_ok (a := 19) (b := 19) (z := (0, 64)) hI.1.1 (by decide +kernel) (Nat.le_refl _) (Nat.le_refl _)
  have v11 : zEq (η1 0 19) (η 0 19) := (k2.1.2.2.2.1 0 19 (by decide +kernel)).trans rfl
  have f0_19 : η1 0 19 = η 0 19 := v11
  have w1_0_44 : (0 : Int) ≤ η1 0 44 ∧ η1 0 44 ≤ 64 := wf_ok (a := 44) (b := 44) (z := (0, 64)) k2.1.1 (by decide +kernel) (Nat.le_refl _) (Nat.le_refl _)
  have f0_44 : η1 0 44 = η1 0 44 := rfl
  have w0_0_7 : (0 : Int) ≤ η 0 7 ∧ η 0 7 ≤ 700 := wf_ok (a := 7) (b := 7) (z := (0, 700)) hI.1.1 (by decide +kernel) (Nat.le_refl _) (Nat.le_refl _)
  have v14 : zEq (η1 0 7) (η 0 7) := (k2.1.2.2.2.1 0 7 (by decide +kernel)).trans rfl
  have f0_7 : η1 0 7 = η 0 7 := v14
  have w0_0_6 : (0 : Int) ≤ η 0 6 ∧ η 0 6 ≤ 700 := wf_ok (a := 6) (b := 6) (z := (0, 700)) hI.1.1 (by decide +kernel) (Nat.le_refl _) (Nat.le_refl _)
  have v16 : zEq (η1 0 6) (η 0 6) := (k2.1.2.2.2.1 0 6 (by decide +kernel)).trans rfl
  have f0_6 : η1 0 6 = η 0 6 := v16
  have v17 : zEq (η1 0 8) (η 0 8) := (k2.1.2.2.2.1 0 8 (by decide +kernel)).trans rfl
  have f0_8 : η1 0 8 = η 0 8 := v17
  have wbE : wB wl_le zTr η1 := wb1
  
  have I0 : H_l 0 0 0 η := hig.1
  have I1 : H_l 1 0 0 η1 := k2.2.1 c1
  exact I1
set_option maxHeartbeats 8000000 in
theorem zle_signs_o38 {ro : Nat → List Int32} (xs : List Int) (η0 : zE) (hp : sP wl_le zTr zPle_signs xs η0) (hpp : pPle_signs xs η0) (x1 : Int) (η : zE) (hI : zsI wl_le zTr zVle_signs zMle_signs η0 3 [x1] η) (hig : iCle_signs xs η0 3 [x1] η) : ∀ (x2 : Int) (η1 : zE), ((gC2 wl_le [(nat_lit 0, zPle_isSign, zOle_isSign, zMle_isSign), (nat_lit 1, zPle_wrong, zOle_wrong, zMle_wrong), (nat_lit 2, zPle_token, zOle_token, zMle_token), (nat_lit 3, zPle_isKey, zOle_isKey, zMle_isKey), (nat_lit 4, zPle_isCounted, zOle_isCounted, zMle_isCounted), (nat_lit 5, zPle_waitsFor, zOle_waitsFor, zMle_waitsFor), (nat_lit 6, zPle_rank, zOle_rank, zMle_rank), (nat_lit 7, zPle_bind, zOle_bind, zMle_bind)] pCle_signs qCle_signs) 4).2 [] η x2 η1 → (¬ x2 = 0) → ∀ (x3 : Int) (η2 : zE), ((gC2 wl_le [(nat_lit 0, zPle_isSign, zOle_isSign, zMle_isSign), (nat_lit 1, zPle_wrong, zOle_wrong, zMle_wrong), (nat_lit 2, zPle_token, zOle_token, zMle_token), (nat_lit 3, zPle_isKey, zOle_isKey, zMle_isKey), (nat_lit 4, zPle_isCounted, zOle_isCounted, zMle_isCounted), (nat_lit 5, zPle_waitsFor, zOle_waitsFor, zMle_waitsFor), (nat_lit 6, zPle_rank, zOle_rank, zMle_rank), (nat_lit 7, zPle_bind, zOle_bind, zMle_bind)] pCle_signs qCle_signs) 5).2 [x1] η1 x3 η2 → ∀ η3 : zE, η3 = zup η2 0 (Int.toNat 45) 1 → ((gC2 wl_le [(nat_lit 0, zPle_isSign, zOle_isSign, zMle_isSign), (nat_lit 1, zPle_wrong, zOle_wrong, zMle_wrong), (nat_lit 2, zPle_token, zOle_token, zMle_token), (nat_lit 3, zPle_isKey, zOle_isKey, zMle_isKey), (nat_lit 4, zPle_isCounted, zOle_isCounted, zMle_isCounted), (nat_lit 5, zPle_waitsFor, zOle_waitsFor, zMle_waitsFor), (nat_lit 6, zPle_rank, zOle_rank, zMle_rank), (nat_lit 7, zPle_bind, zOle_bind, zMle_bind)] pCle_signs qCle_signs) 6).1 [x1] η3 := by
  have fig := hig.2
  have hig := hig.1
  have hw : η 0 45 = 0 := hig.2.1
  have hr1 : 1 ≤ η 0 19 := hig.2.2.1
  have hs1 : η 0 7 = η0 0 7 := hig.2.2.2.1
  have hs2 : η 0 6 = η0 0 6 := hig.2.2.2.2.1
  have hs3 : η 0 8 = η0 0 8 := hig.2.2.2.2.2.1
  have hk : x1 = 0 ∨ (3 ≤ x1 ∧ ¬ η 0 8 = 0) := hig.2.2.2.2.2.2
  have kk : η 0 8 = 5 → 0 ≤ η 0 9 ∧ η 0 9 ≤ 5 := hig.1.1.1.2.1.2
  have bd43 : (0 : Int) ≤ η 0 43 ∧ η 0 43 ≤ 8 := wf_ok (a := 43) (b := 43) (z := (0, 8)) hI.1.1 (by decide +kernel) (Nat.le_refl _) (Nat.le_refl _)
  have bd44 : (0 : Int) ≤ η 0 44 ∧ η 0 44 ≤ 64 := wf_ok (a := 44) (b := 44) (z := (0, 64)) hI.1.1 (by decide +kernel) (Nat.le_refl _) (Nat.le_refl _)
  have bd19 : (0 : Int) ≤ η 0 19 ∧ η 0 19 ≤ 64 := wf_ok (a := 19) (b := 19) (z := (0, 64)) hI.1.1 (by decide +kernel) (Nat.le_refl _) (Nat.le_refl _)
  obtain ⟨u1, u2, u3, u4⟩ := hig.1.2
  have cn := cz_n (η := η) (η 0 41).toNat
  intro x2 η1 h2 c1 x3 η2 h3 η3 eη3
  have y2 : fQle_isCounted [] η x2 η1 := h2.2.2
  have k2 : sQ wl_le zTr zOle_isCounted zMle_isCounted [] η x2 η1 ∧ oQle_isCounted [] η x2 η1 := ⟨h2.1, h2.2.1⟩
  have y3 : fQle_waitsFor [x1] η1 x3 η2 := h3.2.2
  have k3 : sQ wl_le zTr zOle_waitsFor zMle_waitsFor [x1] η1 x3 η2 ∧ oQle_waitsFor [x1] η1 x3 η2 := ⟨h3.1, h3.2.1⟩
  have bx1 : (3 : Int) ≤ x1 ∧ x1 ≤ 14 := hI.1.2.1.1
  have w0_0_8 : (0 : Int) ≤ η 0 8 ∧ η 0 8 ≤ 6 := wf_ok (a := 8) (b := 8) (z := (0, 6)) hI.1.1 (by decide +kernel) (Nat.le_refl _) (Nat.le_refl _)
  have c0_0_8 : η 0 8 = η 0 8 := rfl
  have wb1 : wB wl_le zTr η1 := k2.1.1
  have bx2 : (0 : Int) ≤ x2 ∧ x2 ≤ 1 := k2.1.2.1
  have v1 : zEq (η1 0 8) (η 0 8) := (k2.1.2.2.2.1 0 8 (by decide +kernel)).trans rfl
  have c1_0_8 : η1 0 8 = η 0 8 := v1
  have wb2 : wB wl_le zTr η2 := k3.1.1
  have bx3 : (0 : Int) ≤ x3 ∧ x3 ≤ 0 := k3.1.2.1
  have v3 : zEq (η1 0 45) (η 0 45) := (k2.1.2.2.2.1 0 45 (by decide +kernel)).trans rfl
  have v4 : zEq (η2 0 45) (η 0 45) := (k3.1.2.2.2.1 0 45 (by decide +kernel)).trans v3
  have c2_0_45 : η2 0 45 = η 0 45 := v4
  have wb3 : wB wl_le zTr η3 := by rw [eη3]; exact wk_ok (a := 45) (b := 45) (z := ((-2147483648), 2147483647)) zTr_k (GR := []) wb2 (by decide +kernel) (by decide) (by decide) (show ((-2147483648) : Int) ≤ 1 by omega) (show 1 ≤ (2147483647 : Int) by omega)
  have fm1 : zFm zMle_signs η0 η1 := zFm_tr2 hI.2 k2.1.2.2.2.1 (by decide +kernel)
  have fm2 : zFm zMle_signs η0 η2 := zFm_tr2 fm1 k3.1.2.2.2.1 (by decide +kernel)
  have fm3 : zFm zMle_signs η0 η3 := by rw [eη3]; exact zFm_up fm2 rfl
  have fmE : zFm zMle_signs η0 η3 := fm3
  have fr22_0 : ∀ j, η 22 j = η 22 j := fun _ => rfl
  have v5 : ∀ j, η1 22 j = η 22 j := fun j => k2.1.2.2.2.1 22 _ (zinr_not (by decide +kernel))
  have fr22_1 : ∀ j, η1 22 j = η 22 j := v5
  have fr22_2 : ∀ j, η2 22 j = η2 22 j := fun _ => rfl
  have v7 : ∀ j, η3 22 j = η2 22 j := fun j => by rw [eη3]; exact zup_ne (fun e _ => absurd e (by decide))
  have fr22_3 : ∀ j, η3 22 j = η2 22 j := v7
  have fr22 : ∀ j, η3 22 j = η2 22 j := v7
  have v9 : zEq (η3 0 41) (η2 0 41) := by rw [eη3]; exact (zup_ne (fun _ e => absurd e (by decide))).trans rfl
  have f0_41 : η3 0 41 = η2 0 41 := v9
  have w0_0_43 : (0 : Int) ≤ η 0 43 ∧ η 0 43 ≤ 8 := wf_ok (a := 43) (b := 43) (z := (0, 8)) hI.1.1 (by decide +kernel) (Nat.le_refl _) (Nat.le_refl _)
  have v11 : zEq (η1 0 43) (η 0 43) := (k2.1.2.2.2.1 0 43 (by decide +kernel)).trans rfl
  have v12 : zEq (η2 0 43) (η 0 43) := (k3.1.2.2.2.1 0 43 (by decide +kernel)).trans v11
  have v13 : zEq (η3 0 43) (η 0 43) := by rw [eη3]; exact (zup_ne (fun _ e => absurd e (by decide))).trans v12
  have f0_43 : η3 0 43 = η 0 43 := v13
  have v15 : zEq (η1 0 42) (η 0 42) := (k2.1.2.2.2.1 0 42 (by decide +kernel)).trans rfl
  have v16 : zEq (η2 0 42) (η 0 42) := (k3.1.2.2.2.1 0 42 (by decide +kernel)).trans v15
  have v17 : zEq (η3 0 42) (η 0 42) := by rw [eη3]; exact (zup_ne (fun _ e => absurd e (by decide))).trans v16
  have f0_42 : η3 0 42 = η 0 42 := v17
  have v18 : zEq (η3 0 45) (1) := by rw [eη3]; exact zup_eq
  have f0_45 : η3 0 45 = 1 := v18
  have w0_0_19 : (0 : Int) ≤ η 0 19 ∧ η 0 19 ≤ 64 := wf_ok (a := 19) (b := 19) (z := (0, 64)) hI.1.1 (by decide +kernel) (Nat.le_refl _) (Nat.le_refl _)
  have v20 : zEq (η1 0 19) (η 0 19) := (k2.1.2.2.2.1 0 19 (by decide +kernel)).trans rfl
  have v21 : zEq (η2 0 19) (η 0 19) := (k3.1.2.2.2.1 0 19 (by decide +kernel)).trans v20
  have v22 : zEq (η3 0 19) (η 0 19) := by rw [eη3]; exact (zup_ne (fun _ e => absurd e (by decide))).trans v21
  have f0_19 : η3 0 19 = η 0 19 := v22
  have w1_0_44 : (0 : Int) ≤ η1 0 44 ∧ η1 0 44 ≤ 64 := wf_ok (a := 44) (b := 44) (z := (0, 64)) k2.1.1 (by decide +kernel) (Nat.le_refl _) (Nat.le_refl _)
  have v24 : zEq (η2 0 44) (η1 0 44) := (k3.1.2.2.2.1 0 44 (by decide +kernel)).trans rfl
  have v25 : zEq (η3 0 44) (η1 0 44) := by rw [eη3]; exact (zup_ne (fun _ e => absurd e (by decide))).trans v24
  have f0_44 : η3 0 44 = η1 0 44 := v25
  have w0_0_7 : (0 : Int) ≤ η 0 7 ∧ η 0 7 ≤ 700 := wf_ok (a := 7) (b := 7) (z := (0, 700)) hI.1.1 (by decide +kernel) (Nat.le_refl _) (Nat.le_refl _)
  have v27 : zEq (η1 0 7) (η 0 7) := (k2.1.2.2.2.1 0 7 (by decide +kernel)).trans rfl
  have v28 : zEq (η2 0 7) (η 0 7) := (k3.1.2.2.2.1 0 7 (by decide +kernel)).trans v27
  have v29 : zEq (η3 0 7) (η 0 7) := by rw [eη3]; exact (zup_ne (fun _ e => absurd e (by decide))).trans v28
  have f0_7 : η3 0 7 = η 0 7 := v29
  have w0_0_6 : (0 : Int) ≤ η 0 6 ∧ η 0 6 ≤ 700 := wf_ok (a := 6) (b := 6) (z := (0, 700)) hI.1.1 (by decide +kernel) (Nat.le_refl _) (Nat.le_refl _)
  have v31 : zEq (η1 0 6) (η 0 6) := (k2.1.2.2.2.1 0 6 (by decide +kernel)).trans rfl
  have v32 : zEq (η2 0 6) (η 0 6) := (k3.1.2.2.2.1 0 6 (by decide +kernel)).trans v31
  have v33 : zEq (η3 0 6) (η 0 6) := by rw [eη3]; exact (zup_ne (fun _ e => absurd e (by decide))).trans v32
  have f0_6 : η3 0 6 = η 0 6 := v33
  have v34 : zEq (η2 0 8) (η 0 8) := (k3.1.2.2.2.1 0 8 (by decide +kernel)).trans v1
  have v35 : zEq (η3 0 8) (η 0 8) := by rw [eη3]; exact (zup_ne (fun _ e => absurd e (by decide))).trans v34
  have f0_8 : η3 0 8 = η 0 8 := v35
  have wbE : wB wl_le zTr η3 := wb3
  
  have I0 : H_l 0 0 0 η := hig.1
  have I1 : H_l 1 0 0 η1 := k2.2.1 c1
  have I2 : H_l 0 0 (-1) η2 := k3.2
  have I3 : H_l 0 0 0 η3 := by rw [eη3]; exact h_eq (wn_up I2) rfl rfl (by apply Int.le_antisymm <;> omega)
  exact I3
set_option maxHeartbeats 8000000 in
theorem zle_signs_o39 {ro : Nat → List Int32} (xs : List Int) (η0 : zE) (hp : sP wl_le zTr zPle_signs xs η0) (hpp : pPle_signs xs η0) (x1 : Int) (η : zE) (hI : zsI wl_le zTr zVle_signs zMle_signs η0 3 [x1] η) (hig : iCle_signs xs η0 3 [x1] η) : ∀ (x2 : Int) (η1 : zE), ((gC2 wl_le [(nat_lit 0, zPle_isSign, zOle_isSign, zMle_isSign), (nat_lit 1, zPle_wrong, zOle_wrong, zMle_wrong), (nat_lit 2, zPle_token, zOle_token, zMle_token), (nat_lit 3, zPle_isKey, zOle_isKey, zMle_isKey), (nat_lit 4, zPle_isCounted, zOle_isCounted, zMle_isCounted), (nat_lit 5, zPle_waitsFor, zOle_waitsFor, zMle_waitsFor), (nat_lit 6, zPle_rank, zOle_rank, zMle_rank), (nat_lit 7, zPle_bind, zOle_bind, zMle_bind)] pCle_signs qCle_signs) 4).2 [] η x2 η1 → (¬ x2 = 0) → ∀ (x3 : Int) (η2 : zE), ((gC2 wl_le [(nat_lit 0, zPle_isSign, zOle_isSign, zMle_isSign), (nat_lit 1, zPle_wrong, zOle_wrong, zMle_wrong), (nat_lit 2, zPle_token, zOle_token, zMle_token), (nat_lit 3, zPle_isKey, zOle_isKey, zMle_isKey), (nat_lit 4, zPle_isCounted, zOle_isCounted, zMle_isCounted), (nat_lit 5, zPle_waitsFor, zOle_waitsFor, zMle_waitsFor), (nat_lit 6, zPle_rank, zOle_rank, zMle_rank), (nat_lit 7, zPle_bind, zOle_bind, zMle_bind)] pCle_signs qCle_signs) 5).2 [x1] η1 x3 η2 → ∀ η3 : zE, η3 = zup η2 0 (Int.toNat 45) 1 → ∀ (x4 : Int) (η4 : zE), ((gC2 wl_le [(nat_lit 0, zPle_isSign, zOle_isSign, zMle_isSign), (nat_lit 1, zPle_wrong, zOle_wrong, zMle_wrong), (nat_lit 2, zPle_token, zOle_token, zMle_token), (nat_lit 3, zPle_isKey, zOle_isKey, zMle_isKey), (nat_lit 4, zPle_isCounted, zOle_isCounted, zMle_isCounted), (nat_lit 5, zPle_waitsFor, zOle_waitsFor, zMle_waitsFor), (nat_lit 6, zPle_rank, zOle_rank, zMle_rank), (nat_lit 7, zPle_bind, zOle_bind, zMle_bind)] pCle_signs qCle_signs) 6).2 [x1] η3 x4 η4 → (3 ≤ x4) → ∀ η5 : zE, η5 = zup η4 0 (Int.toNat 46) 0 → ((gC2 wl_le [(nat_lit 0, zPle_isSign, zOle_isSign, zMle_isSign), (nat_lit 1, zPle_wrong, zOle_wrong, zMle_wrong), (nat_lit 2, zPle_token, zOle_token, zMle_token), (nat_lit 3, zPle_isKey, zOle_isKey, zMle_isKey), (nat_lit 4, zPle_isCounted, zOle_isCounted, zMle_isCounted), (nat_lit 5, zPle_waitsFor, zOle_waitsFor, zMle_waitsFor), (nat_lit 6, zPle_rank, zOle_rank, zMle_rank), (nat_lit 7, zPle_bind, zOle_bind, zMle_bind)] pCle_signs qCle_signs) 2).1 [] η5 := by
  have fig := hig.2
  have hig := hig.1
  have hw : η 0 45 = 0 := hig.2.1
  have hr1 : 1 ≤ η 0 19 := hig.2.2.1
  have hs1 : η 0 7 = η0 0 7 := hig.2.2.2.1
  have hs2 : η 0 6 = η0 0 6 := hig.2.2.2.2.1
  have hs3 : η 0 8 = η0 0 8 := hig.2.2.2.2.2.1
  have hk : x1 = 0 ∨ (3 ≤ x1 ∧ ¬ η 0 8 = 0) := hig.2.2.2.2.2.2
  have kk : η 0 8 = 5 → 0 ≤ η 0 9 ∧ η 0 9 ≤ 5 := hig.1.1.1.2.1.2
  have bd43 : (0 : Int) ≤ η 0 43 ∧ η 0 43 ≤ 8 := wf_ok (a := 43) (b := 43) (z := (0, 8)) hI.1.1 (by decide +kernel) (Nat.le_refl _) (Nat.le_refl _)
  have bd44 : (0 : Int) ≤ η 0 44 ∧ η 0 44 ≤ 64 := wf_ok (a := 44) (b := 44) (z := (0, 64)) hI.1.1 (by decide +kernel) (Nat.le_refl _) (Nat.le_refl _)
  have bd19 : (0 : Int) ≤ η 0 19 ∧ η 0 19 ≤ 64 := wf_ok (a := 19) (b := 19) (z := (0, 64)) hI.1.1 (by decide +kernel) (Nat.le_refl _) (Nat.le_refl _)
  obtain ⟨u1, u2, u3, u4⟩ := hig.1.2
  have cn := cz_n (η := η) (η 0 41).toNat
  intro x2 η1 h2 c1 x3 η2 h3 η3 eη3 x4 η4 h4 c2 η5 eη5
  have y2 : fQle_isCounted [] η x2 η1 := h2.2.2
  have k2 : sQ wl_le zTr zOle_isCounted zMle_isCounted [] η x2 η1 ∧ oQle_isCounted [] η x2 η1 := ⟨h2.1, h2.2.1⟩
  have y3 : fQle_waitsFor [x1] η1 x3 η2 := h3.2.2
  have k3 : sQ wl_le zTr zOle_waitsFor zMle_waitsFor [x1] η1 x3 η2 ∧ oQle_waitsFor [x1] η1 x3 η2 := ⟨h3.1, h3.2.1⟩
  have y4 : fQle_rank [x1] η3 x4 η4 := h4.2.2
  have k4 : sQ wl_le zTr zOle_rank zMle_rank [x1] η3 x4 η4 ∧ oQle_rank [x1] η3 x4 η4 := ⟨h4.1, h4.2.1⟩
  have bx1 : (3 : Int) ≤ x1 ∧ x1 ≤ 14 := hI.1.2.1.1
  have w0_0_8 : (0 : Int) ≤ η 0 8 ∧ η 0 8 ≤ 6 := wf_ok (a := 8) (b := 8) (z := (0, 6)) hI.1.1 (by decide +kernel) (Nat.le_refl _) (Nat.le_refl _)
  have c0_0_8 : η 0 8 = η 0 8 := rfl
  have wb1 : wB wl_le zTr η1 := k2.1.1
  have bx2 : (0 : Int) ≤ x2 ∧ x2 ≤ 1 := k2.1.2.1
  have v1 : zEq (η1 0 8) (η 0 8) := (k2.1.2.2.2.1 0 8 (by decide +kernel)).trans rfl
  have c1_0_8 : η1 0 8 = η 0 8 := v1
  have wb2 : wB wl_le zTr η2 := k3.1.1
  have bx3 : (0 : Int) ≤ x3 ∧ x3 ≤ 0 := k3.1.2.1
  have v3 : zEq (η1 0 45) (η 0 45) := (k2.1.2.2.2.1 0 45 (by decide +kernel)).trans rfl
  have v4 : zEq (η2 0 45) (η 0 45) := (k3.1.2.2.2.1 0 45 (by decide +kernel)).trans v3
  have c2_0_45 : η2 0 45 = η 0 45 := v4
  have wb3 : wB wl_le zTr η3 := by rw [eη3]; exact wk_ok (a := 45) (b := 45) (z := ((-2147483648), 2147483647)) zTr_k (GR := []) wb2 (by decide +kernel) (by decide) (by decide) (show ((-2147483648) : Int) ≤ 1 by omega) (show 1 ≤ (2147483647 : Int) by omega)
  have v5 : zEq (η2 0 8) (η 0 8) := (k3.1.2.2.2.1 0 8 (by decide +kernel)).trans v1
  have v6 : zEq (η3 0 8) (η 0 8) := by rw [eη3]; exact (zup_ne (fun _ e => absurd e (by decide))).trans v5
  have c3_0_8 : η3 0 8 = η 0 8 := v6
  have wb4 : wB wl_le zTr η4 := k4.1.1
  have bx4 : (0 : Int) ≤ x4 ∧ x4 ≤ 6 := k4.1.2.1
  have wb5 : wB wl_le zTr η5 := by rw [eη5]; exact wk_ok (a := 46) (b := 46) (z := ((-2147483648), 2147483647)) zTr_k (GR := []) wb4 (by decide +kernel) (by decide) (by decide) (show ((-2147483648) : Int) ≤ 0 by omega) (show 0 ≤ (2147483647 : Int) by omega)
  have fm1 : zFm zMle_signs η0 η1 := zFm_tr2 hI.2 k2.1.2.2.2.1 (by decide +kernel)
  have fm2 : zFm zMle_signs η0 η2 := zFm_tr2 fm1 k3.1.2.2.2.1 (by decide +kernel)
  have fm3 : zFm zMle_signs η0 η3 := by rw [eη3]; exact zFm_up fm2 rfl
  have fm4 : zFm zMle_signs η0 η4 := zFm_tr2 fm3 k4.1.2.2.2.1 (by decide +kernel)
  have fm5 : zFm zMle_signs η0 η5 := by rw [eη5]; exact zFm_up fm4 rfl
  have fmE : zFm zMle_signs η0 η5 := fm5
  have fr22_0 : ∀ j, η 22 j = η 22 j := fun _ => rfl
  have v7 : ∀ j, η1 22 j = η 22 j := fun j => k2.1.2.2.2.1 22 _ (zinr_not (by decide +kernel))
  have fr22_1 : ∀ j, η1 22 j = η 22 j := v7
  have fr22_2 : ∀ j, η2 22 j = η2 22 j := fun _ => rfl
  have v9 : ∀ j, η3 22 j = η2 22 j := fun j => by rw [eη3]; exact zup_ne (fun e _ => absurd e (by decide))
  have fr22_3 : ∀ j, η3 22 j = η2 22 j := v9
  have v10 : ∀ j, η4 22 j = η2 22 j := fun j => (k4.1.2.2.2.1 22 _ (zinr_not (by decide +kernel))).trans (v9 j)
  have fr22_4 : ∀ j, η4 22 j = η2 22 j := v10
  have v11 : ∀ j, η5 22 j = η2 22 j := fun j => by rw [eη5]; exact (zup_ne (fun e _ => absurd e (by decide))).trans (v10 j)
  have fr22_5 : ∀ j, η5 22 j = η2 22 j := v11
  have fr22 : ∀ j, η5 22 j = η2 22 j := v11
  have v13 : zEq (η3 0 41) (η2 0 41) := by rw [eη3]; exact (zup_ne (fun _ e => absurd e (by decide))).trans rfl
  have v14 : zEq (η4 0 41) (η2 0 41) := (k4.1.2.2.2.1 0 41 (by decide +kernel)).trans v13
  have v15 : zEq (η5 0 41) (η2 0 41) := by rw [eη5]; exact (zup_ne (fun _ e => absurd e (by decide))).trans v14
  have f0_41 : η5 0 41 = η2 0 41 := v15
  have w0_0_43 : (0 : Int) ≤ η 0 43 ∧ η 0 43 ≤ 8 := wf_ok (a := 43) (b := 43) (z := (0, 8)) hI.1.1 (by decide +kernel) (Nat.le_refl _) (Nat.le_refl _)
  have v17 : zEq (η1 0 43) (η 0 43) := (k2.1.2.2.2.1 0 43 (by decide +kernel)).trans rfl
  have v18 : zEq (η2 0 43) (η 0 43) := (k3.1.2.2.2.1 0 43 (by decide +kernel)).trans v17
  have v19 : zEq (η3 0 43) (η 0 43) := by rw [eη3]; exact (zup_ne (fun _ e => absurd e (by decide))).trans v18
  have v20 : zEq (η4 0 43) (η 0 43) := (k4.1.2.2.2.1 0 43 (by decide +kernel)).trans v19
  have v21 : zEq (η5 0 43) (η 0 43) := by rw [eη5]; exact (zup_ne (fun _ e => absurd e (by decide))).trans v20
  have f0_43 : η5 0 43 = η 0 43 := v21
  have v23 : zEq (η1 0 42) (η 0 42) := (k2.1.2.2.2.1 0 42 (by decide +kernel)).trans rfl
  have v24 : zEq (η2 0 42) (η 0 42) := (k3.1.2.2.2.1 0 42 (by decide +kernel)).trans v23
  have v25 : zEq (η3 0 42) (η 0 42) := by rw [eη3]; exact (zup_ne (fun _ e => absurd e (by decide))).trans v24
  have v26 : zEq (η4 0 42) (η 0 42) := (k4.1.2.2.2.1 0 42 (by decide +kernel)).trans v25
  have v27 : zEq (η5 0 42) (η 0 42) := by rw [eη5]; exact (zup_ne (fun _ e => absurd e (by decide))).trans v26
  have f0_42 : η5 0 42 = η 0 42 := v27
  have v28 : zEq (η3 0 45) (1) := by rw [eη3]; exact zup_eq
  have v29 : zEq (η4 0 45) (1) := (k4.1.2.2.2.1 0 45 (by decide +kernel)).trans v28
  have v30 : zEq (η5 0 45) (1) := by rw [eη5]; exact (zup_ne (fun _ e => absurd e (by decide))).trans v29
  have f0_45 : η5 0 45 = 1 := v30
  have w0_0_19 : (0 : Int) ≤ η 0 19 ∧ η 0 19 ≤ 64 := wf_ok (a := 19) (b := 19) (z := (0, 64)) hI.1.1 (by decide +kernel) (Nat.le_refl _) (Nat.le_refl _)
  have v32 : zEq (η1 0 19) (η 0 19) := (k2.1.2.2.2.1 0 19 (by decide +kernel)).trans rfl
  have v33 : zEq (η2 0 19) (η 0 19) := (k3.1.2.2.2.1 0 19 (by decide +kernel)).trans v32
  have v34 : zEq (η3 0 19) (η 0 19) := by rw [eη3]; exact (zup_ne (fun _ e => absurd e (by decide))).trans v33
  have v35 : zEq (η4 0 19) (η 0 19) := (k4.1.2.2.2.1 0 19 (by decide +kernel)).trans v34
  have v36 : zEq (η5 0 19) (η 0 19) := by rw [eη5]; exact (zup_ne (fun _ e => absurd e (by decide))).trans v35
  have f0_19 : η5 0 19 = η 0 19 := v36
  have w1_0_44 : (0 : Int) ≤ η1 0 44 ∧ η1 0 44 ≤ 64 := wf_ok (a := 44) (b := 44) (z := (0, 64)) k2.1.1 (by decide +kernel) (Nat.le_refl _) (Nat.le_refl _)
  have v38 : zEq (η2 0 44) (η1 0 44) := (k3.1.2.2.2.1 0 44 (by decide +kernel)).trans rfl
  have v39 : zEq (η3 0 44) (η1 0 44) := by rw [eη3]; exact (zup_ne (fun _ e => absurd e (by decide))).trans v38
  have v40 : zEq (η4 0 44) (η1 0 44) := (k4.1.2.2.2.1 0 44 (by decide +kernel)).trans v39
  have v41 : zEq (η5 0 44) (η1 0 44) := by rw [eη5]; exact (zup_ne (fun _ e => absurd e (by decide))).trans v40
  have f0_44 : η5 0 44 = η1 0 44 := v41
  have w0_0_7 : (0 : Int) ≤ η 0 7 ∧ η 0 7 ≤ 700 := wf_ok (a := 7) (b := 7) (z := (0, 700)) hI.1.1 (by decide +kernel) (Nat.le_refl _) (Nat.le_refl _)
  have v43 : zEq (η1 0 7) (η 0 7) := (k2.1.2.2.2.1 0 7 (by decide +kernel)).trans rfl
  have v44 : zEq (η2 0 7) (η 0 7) := (k3.1.2.2.2.1 0 7 (by decide +kernel)).trans v43
  have v45 : zEq (η3 0 7) (η 0 7) := by rw [eη3]; exact (zup_ne (fun _ e => absurd e (by decide))).trans v44
  have v46 : zEq (η4 0 7) (η 0 7) := (k4.1.2.2.2.1 0 7 (by decide +kernel)).trans v45
  have v47 : zEq (η5 0 7) (η 0 7) := by rw [eη5]; exact (zup_ne (fun _ e => absurd e (by decide))).trans v46
  have f0_7 : η5 0 7 = η 0 7 := v47
  have w0_0_6 : (0 : Int) ≤ η 0 6 ∧ η 0 6 ≤ 700 := wf_ok (a := 6) (b := 6) (z := (0, 700)) hI.1.1 (by decide +kernel) (Nat.le_refl _) (Nat.le_refl _)
  have v49 : zEq (η1 0 6) (η 0 6) := (k2.1.2.2.2.1 0 6 (by decide +kernel)).trans rfl
  have v50 : zEq (η2 0 6) (η 0 6) := (k3.1.2.2.2.1 0 6 (by decide +kernel)).trans v49
  have v51 : zEq (η3 0 6) (η 0 6) := by rw [eη3]; exact (zup_ne (fun _ e => absurd e (by decide))).trans v50
  have v52 : zEq (η4 0 6) (η 0 6) := (k4.1.2.2.2.1 0 6 (by decide +kernel)).trans v51
  have v53 : zEq (η5 0 6) (η 0 6) := by rw [eη5]; exact (zup_ne (fun _ e => absurd e (by decide))).trans v52
  have f0_6 : η5 0 6 = η 0 6 := v53
  have v54 : zEq (η4 0 8) (η 0 8) := (k4.1.2.2.2.1 0 8 (by decide +kernel)).trans v6
  have v55 : zEq (η5 0 8) (η 0 8) := by rw [eη5]; exact (zup_ne (fun _ e => absurd e (by decide))).trans v54
  have f0_8 : η5 0 8 = η 0 8 := v55
  have wbE : wB wl_le zTr η5 := wb5
  
  have I0 : H_l 0 0 0 η := hig.1
  have I1 : H_l 1 0 0 η1 := k2.2.1 c1
  have I2 : H_l 0 0 (-1) η2 := k3.2
  have I3 : H_l 0 0 0 η3 := by rw [eη3]; exact h_eq (wn_up I2) rfl rfl (by apply Int.le_antisymm <;> omega)
  have I4 : H_l 0 0 0 η4 := k4.2.1
  have qr4 : (1 ≤ x4 → 2 ≤ x1) ∧ (2 ≤ x1 → 1 ≤ x4) := k4.2.2
  have I5 : H_l 0 0 0 η5 := by rw [eη5]; exact zGk_upc hk_l I4 (by decide +kernel)
  exact I5
set_option maxHeartbeats 8000000 in
theorem zle_signs_o40 {ro : Nat → List Int32} (xs : List Int) (η0 : zE) (hp : sP wl_le zTr zPle_signs xs η0) (hpp : pPle_signs xs η0) (x1 : Int) (η : zE) (hI : zsI wl_le zTr zVle_signs zMle_signs η0 3 [x1] η) (hig : iCle_signs xs η0 3 [x1] η) : ∀ (x2 : Int) (η1 : zE), ((gC2 wl_le [(nat_lit 0, zPle_isSign, zOle_isSign, zMle_isSign), (nat_lit 1, zPle_wrong, zOle_wrong, zMle_wrong), (nat_lit 2, zPle_token, zOle_token, zMle_token), (nat_lit 3, zPle_isKey, zOle_isKey, zMle_isKey), (nat_lit 4, zPle_isCounted, zOle_isCounted, zMle_isCounted), (nat_lit 5, zPle_waitsFor, zOle_waitsFor, zMle_waitsFor), (nat_lit 6, zPle_rank, zOle_rank, zMle_rank), (nat_lit 7, zPle_bind, zOle_bind, zMle_bind)] pCle_signs qCle_signs) 4).2 [] η x2 η1 → (¬ x2 = 0) → ∀ (x3 : Int) (η2 : zE), ((gC2 wl_le [(nat_lit 0, zPle_isSign, zOle_isSign, zMle_isSign), (nat_lit 1, zPle_wrong, zOle_wrong, zMle_wrong), (nat_lit 2, zPle_token, zOle_token, zMle_token), (nat_lit 3, zPle_isKey, zOle_isKey, zMle_isKey), (nat_lit 4, zPle_isCounted, zOle_isCounted, zMle_isCounted), (nat_lit 5, zPle_waitsFor, zOle_waitsFor, zMle_waitsFor), (nat_lit 6, zPle_rank, zOle_rank, zMle_rank), (nat_lit 7, zPle_bind, zOle_bind, zMle_bind)] pCle_signs qCle_signs) 5).2 [x1] η1 x3 η2 → ∀ η3 : zE, η3 = zup η2 0 (Int.toNat 45) 1 → ∀ (x4 : Int) (η4 : zE), ((gC2 wl_le [(nat_lit 0, zPle_isSign, zOle_isSign, zMle_isSign), (nat_lit 1, zPle_wrong, zOle_wrong, zMle_wrong), (nat_lit 2, zPle_token, zOle_token, zMle_token), (nat_lit 3, zPle_isKey, zOle_isKey, zMle_isKey), (nat_lit 4, zPle_isCounted, zOle_isCounted, zMle_isCounted), (nat_lit 5, zPle_waitsFor, zOle_waitsFor, zMle_waitsFor), (nat_lit 6, zPle_rank, zOle_rank, zMle_rank), (nat_lit 7, zPle_bind, zOle_bind, zMle_bind)] pCle_signs qCle_signs) 6).2 [x1] η3 x4 η4 → (3 ≤ x4) → ∀ η5 : zE, η5 = zup η4 0 (Int.toNat 46) 0 → ∀ (x5 : Int) (η6 : zE), ((gC2 wl_le [(nat_lit 0, zPle_isSign, zOle_isSign, zMle_isSign), (nat_lit 1, zPle_wrong, zOle_wrong, zMle_wrong), (nat_lit 2, zPle_token, zOle_token, zMle_token), (nat_lit 3, zPle_isKey, zOle_isKey, zMle_isKey), (nat_lit 4, zPle_isCounted, zOle_isCounted, zMle_isCounted), (nat_lit 5, zPle_waitsFor, zOle_waitsFor, zMle_waitsFor), (nat_lit 6, zPle_rank, zOle_rank, zMle_rank), (nat_lit 7, zPle_bind, zOle_bind, zMle_bind)] pCle_signs qCle_signs) 2).2 [] η5 x5 η6 → (fun (_ : Nat) (y : Int) (η' : zE) => pQle_signs xs η0 y η') 0 1 η6 := by
  have fig := hig.2
  have hig := hig.1
  intro x2 η1 h2 c1 x3 η2 h3 η3 eη3 x4 η4 h4 c2 η5 eη5 x5 η6 h5
  have y2 : fQle_isCounted [] η x2 η1 := h2.2.2
  have k2 : sQ wl_le zTr zOle_isCounted zMle_isCounted [] η x2 η1 ∧ oQle_isCounted [] η x2 η1 := ⟨h2.1, h2.2.1⟩
  have y3 : fQle_waitsFor [x1] η1 x3 η2 := h3.2.2
  have k3 : sQ wl_le zTr zOle_waitsFor zMle_waitsFor [x1] η1 x3 η2 ∧ oQle_waitsFor [x1] η1 x3 η2 := ⟨h3.1, h3.2.1⟩
  have y4 : fQle_rank [x1] η3 x4 η4 := h4.2.2
  have k4 : sQ wl_le zTr zOle_rank zMle_rank [x1] η3 x4 η4 ∧ oQle_rank [x1] η3 x4 η4 := ⟨h4.1, h4.2.1⟩
  have y5 : fQle_token [] η5 x5 η6 := h5.2.2
  have k5 : sQ wl_le zTr zOle_token zMle_token [] η5 x5 η6 ∧ oQle_token [] η5 x5 η6 := ⟨h5.1, h5.2.1⟩
  refine yj_a ?_ ?_
  · have hw : η 0 45 = 0 := hig.2.1
    have hr1 : 1 ≤ η 0 19 := hig.2.2.1
    have hs1 : η 0 7 = η0 0 7 := hig.2.2.2.1
    have hs2 : η 0 6 = η0 0 6 := hig.2.2.2.2.1
    have hs3 : η 0 8 = η0 0 8 := hig.2.2.2.2.2.1
    have hk : x1 = 0 ∨ (3 ≤ x1 ∧ ¬ η 0 8 = 0) := hig.2.2.2.2.2.2
    have kk : η 0 8 = 5 → 0 ≤ η 0 9 ∧ η 0 9 ≤ 5 := hig.1.1.1.2.1.2
    have bd43 : (0 : Int) ≤ η 0 43 ∧ η 0 43 ≤ 8 := wf_ok (a := 43) (b := 43) (z := (0, 8)) hI.1.1 (by decide +kernel) (Nat.le_refl _) (Nat.le_refl _)
    have bd44 : (0 : Int) ≤ η 0 44 ∧ η 0 44 ≤ 64 := wf_ok (a := 44) (b := 44) (z := (0, 64)) hI.1.1 (by decide +kernel) (Nat.le_refl _) (Nat.le_refl _)
    have bd19 : (0 : Int) ≤ η 0 19 ∧ η 0 19 ≤ 64 := wf_ok (a := 19) (b := 19) (z := (0, 64)) hI.1.1 (by decide +kernel) (Nat.le_refl _) (Nat.le_refl _)
    obtain ⟨u1, u2, u3, u4⟩ := hig.1.2
    have cn := cz_n (η := η) (η 0 41).toNat
    have y2 : fQle_isCounted [] η x2 η1 := h2.2.2
    have k2 : sQ wl_le zTr zOle_isCounted zMle_isCounted [] η x2 η1 ∧ oQle_isCounted [] η x2 η1 := ⟨h2.1, h2.2.1⟩
    have y3 : fQle_waitsFor [x1] η1 x3 η2 := h3.2.2
    have k3 : sQ wl_le zTr zOle_waitsFor zMle_waitsFor [x1] η1 x3 η2 ∧ oQle_waitsFor [x1] η1 x3 η2 := ⟨h3.1, h3.2.1⟩
    have y4 : fQle_rank [x1] η3 x4 η4 := h4.2.2
    have k4 : sQ wl_le zTr zOle_rank zMle_rank [x1] η3 x4 η4 ∧ oQle_rank [x1] η3 x4 η4 := ⟨h4.1, h4.2.1⟩
    have y5 : fQle_token [] η5 x5 η6 := h5.2.2
    have k5 : sQ wl_le zTr zOle_token zMle_token [] η5 x5 η6 ∧ oQle_token [] η5 x5 η6 := ⟨h5.1, h5.2.1⟩
    have bx1 : (3 : Int) ≤ x1 ∧ x1 ≤ 14 := hI.1.2.1.1
    have w0_0_8 : (0 : Int) ≤ η 0 8 ∧ η 0 8 ≤ 6 := wf_ok (a := 8) (b := 8) (z := (0, 6)) hI.1.1 (by decide +kernel) (Nat.le_refl _) (Nat.le_refl _)
    have c0_0_8 : η 0 8 = η 0 8 := rfl
    have wb1 : wB wl_le zTr η1 := k2.1.1
    have bx2 : (0 : Int) ≤ x2 ∧ x2 ≤ 1 := k2.1.2.1
    have v1 : zEq (η1 0 8) (η 0 8) := (k2.1.2.2.2.1 0 8 (by decide +kernel)).trans rfl
    have c1_0_8 : η1 0 8 = η 0 8 := v1
    have wb2 : wB wl_le zTr η2 := k3.1.1
    have bx3 : (0 : Int) ≤ x3 ∧ x3 ≤ 0 := k3.1.2.1
    have v3 : zEq (η1 0 45) (η 0 45) := (k2.1.2.2.2.1 0 45 (by decide +kernel)).trans rfl
    have v4 : zEq (η2 0 45) (η 0 45) := (k3.1.2.2.2.1 0 45 (by decide +kernel)).trans v3
    have c2_0_45 : η2 0 45 = η 0 45 := v4
    have wb3 : wB wl_le zTr η3 := by rw [eη3]; exact wk_ok (a := 45) (b := 45) (z := ((-2147483648), 2147483647)) zTr_k (GR := []) wb2 (by decide +kernel) (by decide) (by decide) (show ((-2147483648) : Int) ≤ 1 by omega) (show 1 ≤ (2147483647 : Int) by omega)
    have v5 : zEq (η2 0 8) (η 0 8) := (k3.1.2.2.2.1 0 8 (by decide +kernel)).trans v1
    have v6 : zEq (η3 0 8) (η 0 8) := by rw [eη3]; exact (zup_ne (fun _ e => absurd e (by decide))).trans v5
    have c3_0_8 : η3 0 8 = η 0 8 := v6
    have wb4 : wB wl_le zTr η4 := k4.1.1
    have bx4 : (0 : Int) ≤ x4 ∧ x4 ≤ 6 := k4.1.2.1
    have wb5 : wB wl_le zTr η5 := by rw [eη5]; exact wk_ok (a := 46) (b := 46) (z := ((-2147483648), 2147483647)) zTr_k (GR := []) wb4 (by decide +kernel) (by decide) (by decide) (show ((-2147483648) : Int) ≤ 0 by omega) (show 0 ≤ (2147483647 : Int) by omega)
    have w0_0_7 : (0 : Int) ≤ η 0 7 ∧ η 0 7 ≤ 700 := wf_ok (a := 7) (b := 7) (z := (0, 700)) hI.1.1 (by decide +kernel) (Nat.le_refl _) (Nat.le_refl _)
    have v8 : zEq (η1 0 7) (η 0 7) := (k2.1.2.2.2.1 0 7 (by decide +kernel)).trans rfl
    have v9 : zEq (η2 0 7) (η 0 7) := (k3.1.2.2.2.1 0 7 (by decide +kernel)).trans v8
    have v10 : zEq (η3 0 7) (η 0 7) := by rw [eη3]; exact (zup_ne (fun _ e => absurd e (by decide))).trans v9
    have v11 : zEq (η4 0 7) (η 0 7) := (k4.1.2.2.2.1 0 7 (by decide +kernel)).trans v10
    have v12 : zEq (η5 0 7) (η 0 7) := by rw [eη5]; exact (zup_ne (fun _ e => absurd e (by decide))).trans v11
    have c5_0_7 : η5 0 7 = η 0 7 := v12
    have w0_0_6 : (0 : Int) ≤ η 0 6 ∧ η 0 6 ≤ 700 := wf_ok (a := 6) (b := 6) (z := (0, 700)) hI.1.1 (by decide +kernel) (Nat.le_refl _) (Nat.le_refl _)
    have v14 : zEq (η1 0 6) (η 0 6) := (k2.1.2.2.2.1 0 6 (by decide +kernel)).trans rfl
    have v15 : zEq (η2 0 6) (η 0 6) := (k3.1.2.2.2.1 0 6 (by decide +kernel)).trans v14
    have v16 : zEq (η3 0 6) (η 0 6) := by rw [eη3]; exact (zup_ne (fun _ e => absurd e (by decide))).trans v15
    have v17 : zEq (η4 0 6) (η 0 6) := (k4.1.2.2.2.1 0 6 (by decide +kernel)).trans v16
    have v18 : zEq (η5 0 6) (η 0 6) := by rw [eη5]; exact (zup_ne (fun _ e => absurd e (by decide))).trans v17
    have c5_0_6 : η5 0 6 = η 0 6 := v18
    have v19 : zEq (η4 0 8) (η 0 8) := (k4.1.2.2.2.1 0 8 (by decide +kernel)).trans v6
    have v20 : zEq (η5 0 8) (η 0 8) := by rw [eη5]; exact (zup_ne (fun _ e => absurd e (by decide))).trans v19
    have c5_0_8 : η5 0 8 = η 0 8 := v20
    have wb6 : wB wl_le zTr η6 := k5.1.1
    have bx5 : (0 : Int) ≤ x5 ∧ x5 ≤ 0 := k5.1.2.1
    have fm1 : zFm zMle_signs η0 η1 := zFm_tr2 hI.2 k2.1.2.2.2.1 (by decide +kernel)
    have fm2 : zFm zMle_signs η0 η2 := zFm_tr2 fm1 k3.1.2.2.2.1 (by decide +kernel)
    have fm3 : zFm zMle_signs η0 η3 := by rw [eη3]; exact zFm_up fm2 rfl
    have fm4 : zFm zMle_signs η0 η4 := zFm_tr2 fm3 k4.1.2.2.2.1 (by decide +kernel)
    have fm5 : zFm zMle_signs η0 η5 := by rw [eη5]; exact zFm_up fm4 rfl
    have fm6 : zFm zMle_signs η0 η6 := zFm_tr2 fm5 k5.1.2.2.2.1 (by decide +kernel)
    have fmE : zFm zMle_signs η0 η6 := fm6
    have fr22_0 : ∀ j, η 22 j = η 22 j := fun _ => rfl
    have v21 : ∀ j, η1 22 j = η 22 j := fun j => k2.1.2.2.2.1 22 _ (zinr_not (by decide +kernel))
    have fr22_1 : ∀ j, η1 22 j = η 22 j := v21
    have fr22_2 : ∀ j, η2 22 j = η2 22 j := fun _ => rfl
    have v23 : ∀ j, η3 22 j = η2 22 j := fun j => by rw [eη3]; exact zup_ne (fun e _ => absurd e (by decide))
    have fr22_3 : ∀ j, η3 22 j = η2 22 j := v23
    have v24 : ∀ j, η4 22 j = η2 22 j := fun j => (k4.1.2.2.2.1 22 _ (zinr_not (by decide +kernel))).trans (v23 j)
    have fr22_4 : ∀ j, η4 22 j = η2 22 j := v24
    have v25 : ∀ j, η5 22 j = η2 22 j := fun j => by rw [eη5]; exact (zup_ne (fun e _ => absurd e (by decide))).trans (v24 j)
    have fr22_5 : ∀ j, η5 22 j = η2 22 j := v25
    have v26 : ∀ j, η6 22 j = η2 22 j := fun j => (k5.1.2.2.2.1 22 _ (zinr_not (by decide +kernel))).trans (v25 j)
    have fr22_6 : ∀ j, η6 22 j = η2 22 j := v26
    have fr22 : ∀ j, η6 22 j = η2 22 j := v26
    have v28 : zEq (η3 0 41) (η2 0 41) := by rw [eη3]; exact (zup_ne (fun _ e => absurd e (by decide))).trans rfl
    have v29 : zEq (η4 0 41) (η2 0 41) := (k4.1.2.2.2.1 0 41 (by decide +kernel)).trans v28
    have v30 : zEq (η5 0 41) (η2 0 41) := by rw [eη5]; exact (zup_ne (fun _ e => absurd e (by decide))).trans v29
    have v31 : zEq (η6 0 41) (η2 0 41) := (k5.1.2.2.2.1 0 41 (by decide +kernel)).trans v30
    have f0_41 : η6 0 41 = η2 0 41 := v31
    have w0_0_43 : (0 : Int) ≤ η 0 43 ∧ η 0 43 ≤ 8 := wf_ok (a := 43) (b := 43) (z := (0, 8)) hI.1.1 (by decide +kernel) (Nat.le_refl _) (Nat.le_refl _)
    have v33 : zEq (η1 0 43) (η 0 43) := (k2.1.2.2.2.1 0 43 (by decide +kernel)).trans rfl
    have v34 : zEq (η2 0 43) (η 0 43) := (k3.1.2.2.2.1 0 43 (by decide +kernel)).trans v33
    have v35 : zEq (η3 0 43) (η 0 43) := by rw [eη3]; exact (zup_ne (fun _ e => absurd e (by decide))).trans v34
    have v36 : zEq (η4 0 43) (η 0 43) := (k4.1.2.2.2.1 0 43 (by decide +kernel)).trans v35
    have v37 : zEq (η5 0 43) (η 0 43) := by rw [eη5]; exact (zup_ne (fun _ e => absurd e (by decide))).trans v36
    have v38 : zEq (η6 0 43) (η 0 43) := (k5.1.2.2.2.1 0 43 (by decide +kernel)).trans v37
    have f0_43 : η6 0 43 = η 0 43 := v38
    have v40 : zEq (η1 0 42) (η 0 42) := (k2.1.2.2.2.1 0 42 (by decide +kernel)).trans rfl
    have v41 : zEq (η2 0 42) (η 0 42) := (k3.1.2.2.2.1 0 42 (by decide +kernel)).trans v40
    have v42 : zEq (η3 0 42) (η 0 42) := by rw [eη3]; exact (zup_ne (fun _ e => absurd e (by decide))).trans v41
    have v43 : zEq (η4 0 42) (η 0 42) := (k4.1.2.2.2.1 0 42 (by decide +kernel)).trans v42
    have v44 : zEq (η5 0 42) (η 0 42) := by rw [eη5]; exact (zup_ne (fun _ e => absurd e (by decide))).trans v43
    have v45 : zEq (η6 0 42) (η 0 42) := (k5.1.2.2.2.1 0 42 (by decide +kernel)).trans v44
    have f0_42 : η6 0 42 = η 0 42 := v45
    have v46 : zEq (η3 0 45) (1) := by rw [eη3]; exact zup_eq
    have v47 : zEq (η4 0 45) (1) := (k4.1.2.2.2.1 0 45 (by decide +kernel)).trans v46
    have v48 : zEq (η5 0 45) (1) := by rw [eη5]; exact (zup_ne (fun _ e => absurd e (by decide))).trans v47
    have v49 : zEq (η6 0 45) (1) := (k5.1.2.2.2.1 0 45 (by decide +kernel)).trans v48
    have f0_45 : η6 0 45 = 1 := v49
    have w0_0_19 : (0 : Int) ≤ η 0 19 ∧ η 0 19 ≤ 64 := wf_ok (a := 19) (b := 19) (z := (0, 64)) hI.1.1 (by decide +kernel) (Nat.le_refl _) (Nat.le_refl _)
    have v51 : zEq (η1 0 19) (η 0 19) := (k2.1.2.2.2.1 0 19 (by decide +kernel)).trans rfl
    have v52 : zEq (η2 0 19) (η 0 19) := (k3.1.2.2.2.1 0 19 (by decide +kernel)).trans v51
    have v53 : zEq (η3 0 19) (η 0 19) := by rw [eη3]; exact (zup_ne (fun _ e => absurd e (by decide))).trans v52
    have v54 : zEq (η4 0 19) (η 0 19) := (k4.1.2.2.2.1 0 19 (by decide +kernel)).trans v53
    have v55 : zEq (η5 0 19) (η 0 19) := by rw [eη5]; exact (zup_ne (fun _ e => absurd e (by decide))).trans v54
    have v56 : zEq (η6 0 19) (η 0 19) := (k5.1.2.2.2.1 0 19 (by decide +kernel)).trans v55
    have f0_19 : η6 0 19 = η 0 19 := v56
    have w1_0_44 : (0 : Int) ≤ η1 0 44 ∧ η1 0 44 ≤ 64 := wf_ok (a := 44) (b := 44) (z := (0, 64)) k2.1.1 (by decide +kernel) (Nat.le_refl _) (Nat.le_refl _)
    have v58 : zEq (η2 0 44) (η1 0 44) := (k3.1.2.2.2.1 0 44 (by decide +kernel)).trans rfl
    have v59 : zEq (η3 0 44) (η1 0 44) := by rw [eη3]; exact (zup_ne (fun _ e => absurd e (by decide))).trans v58
    have v60 : zEq (η4 0 44) (η1 0 44) := (k4.1.2.2.2.1 0 44 (by decide +kernel)).trans v59
    have v61 : zEq (η5 0 44) (η1 0 44) := by rw [eη5]; exact (zup_ne (fun _ e => absurd e (by decide))).trans v60
    have v62 : zEq (η6 0 44) (η1 0 44) := (k5.1.2.2.2.1 0 44 (by decide +kernel)).trans v61
    have f0_44 : η6 0 44 = η1 0 44 := v62
    have w6_0_7 : (0 : Int) ≤ η6 0 7 ∧ η6 0 7 ≤ 700 := wf_ok (a := 7) (b := 7) (z := (0, 700)) k5.1.1 (by decide +kernel) (Nat.le_refl _) (Nat.le_refl _)
    have f0_7 : η6 0 7 = η6 0 7 := rfl
    have v64 : zEq (η6 0 6) (η 0 6) := (k5.1.2.2.2.1 0 6 (by decide +kernel)).trans v18
    have f0_6 : η6 0 6 = η 0 6 := v64
    have w6_0_8 : (0 : Int) ≤ η6 0 8 ∧ η6 0 8 ≤ 6 := wf_ok (a := 8) (b := 8) (z := (0, 6)) k5.1.1 (by decide +kernel) (Nat.le_refl _) (Nat.le_refl _)
    have f0_8 : η6 0 8 = η6 0 8 := rfl
    have wbE : wB wl_le zTr η6 := wb6
    
    have I0 : H_l 0 0 0 η := hig.1
    have I1 : H_l 1 0 0 η1 := k2.2.1 c1
    have I2 : H_l 0 0 (-1) η2 := k3.2
    have I3 : H_l 0 0 0 η3 := by rw [eη3]; exact h_eq (wn_up I2) rfl rfl (by apply Int.le_antisymm <;> omega)
    have I4 : H_l 0 0 0 η4 := k4.2.1
    have qr4 : (1 ≤ x4 → 2 ≤ x1) ∧ (2 ≤ x1 → 1 ≤ x4) := k4.2.2
    have I5 : H_l 0 0 0 η5 := by rw [eη5]; exact zGk_upc hk_l I4 (by decide +kernel)
    have I6 : H_l 0 0 0 η6 := k5.2.1
    have qt5 : ¬ η5 0 8 = 0 → 10 * (η6 0 6 - η6 0 7) + η6 0 8 < 10 * (η5 0 6 - η5 0 7) + η5 0 8 := k5.2.2
    refine ⟨I6.1, fun _ => ⟨I6, show 10 * (η6 0 6 - η6 0 7) + η6 0 8 < 10 * (η0 0 6 - η0 0 7) + η0 0 8 by omega, fun w => ?_⟩⟩
    have w : η6 0 45 = 0 := w
    omega
  · have fig : yq_sgn η0 = yq_sg3 x1 η := fig
    have goal_ : (1, η6) = yq_sgn η0 := by
      obtain ⟨a2, b2⟩ : x2 = (yq_cny η) ∧ η1 = (yq_cns η) := y2
      clear k2 h2
      have b3 : η2 = (yq_wai x1 η1) := y3
      clear k3 h3
      have eη3 : η3 = zup η2 0 45 1 := eη3
      obtain ⟨a4, b4⟩ : x4 = (yq_rk x1) ∧ η4 = η3 := y4
      clear k4 h4
      have eη5 : η5 = zup η4 0 46 0 := eη5
      have b5 : η6 = (yq_tok η5) := y5
      clear k5 h5
      subst a2; subst b2
      subst b3
      subst eη3
      subst a4; subst b4
      subst eη5
      subst b5
      rw [fig]
      unfold yq_sg3 yq_ct
      (repeat' split) <;> first | (exfalso; omega) | exact ⟨rfl, rfl⟩ | rfl
    exact ⟨congrArg Prod.fst goal_, congrArg Prod.snd goal_⟩
set_option maxHeartbeats 8000000 in
theorem zle_signs_o41 {ro : Nat → List Int32} (xs : List Int) (η0 : zE) (hp : sP wl_le zTr zPle_signs xs η0) (hpp : pPle_signs xs η0) (x1 : Int) (η : zE) (hI : zsI wl_le zTr zVle_signs zMle_signs η0 3 [x1] η) (hig : iCle_signs xs η0 3 [x1] η) : ∀ (x2 : Int) (η1 : zE), ((gC2 wl_le [(nat_lit 0, zPle_isSign, zOle_isSign, zMle_isSign), (nat_lit 1, zPle_wrong, zOle_wrong, zMle_wrong), (nat_lit 2, zPle_token, zOle_token, zMle_token), (nat_lit 3, zPle_isKey, zOle_isKey, zMle_isKey), (nat_lit 4, zPle_isCounted, zOle_isCounted, zMle_isCounted), (nat_lit 5, zPle_waitsFor, zOle_waitsFor, zMle_waitsFor), (nat_lit 6, zPle_rank, zOle_rank, zMle_rank), (nat_lit 7, zPle_bind, zOle_bind, zMle_bind)] pCle_signs qCle_signs) 4).2 [] η x2 η1 → (¬ x2 = 0) → ∀ (x3 : Int) (η2 : zE), ((gC2 wl_le [(nat_lit 0, zPle_isSign, zOle_isSign, zMle_isSign), (nat_lit 1, zPle_wrong, zOle_wrong, zMle_wrong), (nat_lit 2, zPle_token, zOle_token, zMle_token), (nat_lit 3, zPle_isKey, zOle_isKey, zMle_isKey), (nat_lit 4, zPle_isCounted, zOle_isCounted, zMle_isCounted), (nat_lit 5, zPle_waitsFor, zOle_waitsFor, zMle_waitsFor), (nat_lit 6, zPle_rank, zOle_rank, zMle_rank), (nat_lit 7, zPle_bind, zOle_bind, zMle_bind)] pCle_signs qCle_signs) 5).2 [x1] η1 x3 η2 → ∀ η3 : zE, η3 = zup η2 0 (Int.toNat 45) 1 → ∀ (x4 : Int) (η4 : zE), ((gC2 wl_le [(nat_lit 0, zPle_isSign, zOle_isSign, zMle_isSign), (nat_lit 1, zPle_wrong, zOle_wrong, zMle_wrong), (nat_lit 2, zPle_token, zOle_token, zMle_token), (nat_lit 3, zPle_isKey, zOle_isKey, zMle_isKey), (nat_lit 4, zPle_isCounted, zOle_isCounted, zMle_isCounted), (nat_lit 5, zPle_waitsFor, zOle_waitsFor, zMle_waitsFor), (nat_lit 6, zPle_rank, zOle_rank, zMle_rank), (nat_lit 7, zPle_bind, zOle_bind, zMle_bind)] pCle_signs qCle_signs) 6).2 [x1] η3 x4 η4 → (x4 < 3) → ∀ η5 : zE, η5 = zup η4 0 (Int.toNat 46) 1 → ((gC2 wl_le [(nat_lit 0, zPle_isSign, zOle_isSign, zMle_isSign), (nat_lit 1, zPle_wrong, zOle_wrong, zMle_wrong), (nat_lit 2, zPle_token, zOle_token, zMle_token), (nat_lit 3, zPle_isKey, zOle_isKey, zMle_isKey), (nat_lit 4, zPle_isCounted, zOle_isCounted, zMle_isCounted), (nat_lit 5, zPle_waitsFor, zOle_waitsFor, zMle_waitsFor), (nat_lit 6, zPle_rank, zOle_rank, zMle_rank), (nat_lit 7, zPle_bind, zOle_bind, zMle_bind)] pCle_signs qCle_signs) 2).1 [] η5 := by
  have fig := hig.2
  have hig := hig.1
  have hw : η 0 45 = 0 := hig.2.1
  have hr1 : 1 ≤ η 0 19 := hig.2.2.1
  have hs1 : η 0 7 = η0 0 7 := hig.2.2.2.1
  have hs2 : η 0 6 = η0 0 6 := hig.2.2.2.2.1
  have hs3 : η 0 8 = η0 0 8 := hig.2.2.2.2.2.1
  have hk : x1 = 0 ∨ (3 ≤ x1 ∧ ¬ η 0 8 = 0) := hig.2.2.2.2.2.2
  have kk : η 0 8 = 5 → 0 ≤ η 0 9 ∧ η 0 9 ≤ 5 := hig.1.1.1.2.1.2
  have bd43 : (0 : Int) ≤ η 0 43 ∧ η 0 43 ≤ 8 := wf_ok (a := 43) (b := 43) (z := (0, 8)) hI.1.1 (by decide +kernel) (Nat.le_refl _) (Nat.le_refl _)
  have bd44 : (0 : Int) ≤ η 0 44 ∧ η 0 44 ≤ 64 := wf_ok (a := 44) (b := 44) (z := (0, 64)) hI.1.1 (by decide +kernel) (Nat.le_refl _) (Nat.le_refl _)
  have bd19 : (0 : Int) ≤ η 0 19 ∧ η 0 19 ≤ 64 := wf_ok (a := 19) (b := 19) (z := (0, 64)) hI.1.1 (by decide +kernel) (Nat.le_refl _) (Nat.le_refl _)
  obtain ⟨u1, u2, u3, u4⟩ := hig.1.2
  have cn := cz_n (η := η) (η 0 41).toNat
  intro x2 η1 h2 c1 x3 η2 h3 η3 eη3 x4 η4 h4 c2 η5 eη5
  have y2 : fQle_isCounted [] η x2 η1 := h2.2.2
  have k2 : sQ wl_le zTr zOle_isCounted zMle_isCounted [] η x2 η1 ∧ oQle_isCounted [] η x2 η1 := ⟨h2.1, h2.2.1⟩
  have y3 : fQle_waitsFor [x1] η1 x3 η2 := h3.2.2
  have k3 : sQ wl_le zTr zOle_waitsFor zMle_waitsFor [x1] η1 x3 η2 ∧ oQle_waitsFor [x1] η1 x3 η2 := ⟨h3.1, h3.2.1⟩
  have y4 : fQle_rank [x1] η3 x4 η4 := h4.2.2
  have k4 : sQ wl_le zTr zOle_rank zMle_rank [x1] η3 x4 η4 ∧ oQle_rank [x1] η3 x4 η4 := ⟨h4.1, h4.2.1⟩
  have bx1 : (3 : Int) ≤ x1 ∧ x1 ≤ 14 := hI.1.2.1.1
  have w0_0_8 : (0 : Int) ≤ η 0 8 ∧ η 0 8 ≤ 6 := wf_ok (a := 8) (b := 8) (z := (0, 6)) hI.1.1 (by decide +kernel) (Nat.le_refl _) (Nat.le_refl _)
  have c0_0_8 : η 0 8 = η 0 8 := rfl
  have wb1 : wB wl_le zTr η1 := k2.1.1
  have bx2 : (0 : Int) ≤ x2 ∧ x2 ≤ 1 := k2.1.2.1
  have v1 : zEq (η1 0 8) (η 0 8) := (k2.1.2.2.2.1 0 8 (by decide +kernel)).trans rfl
  have c1_0_8 : η1 0 8 = η 0 8 := v1
  have wb2 : wB wl_le zTr η2 := k3.1.1
  have bx3 : (0 : Int) ≤ x3 ∧ x3 ≤ 0 := k3.1.2.1
  have v3 : zEq (η1 0 45) (η 0 45) := (k2.1.2.2.2.1 0 45 (by decide +kernel)).trans rfl
  have v4 : zEq (η2 0 45) (η 0 45) := (k3.1.2.2.2.1 0 45 (by decide +kernel)).trans v3
  have c2_0_45 : η2 0 45 = η 0 45 := v4
  have wb3 : wB wl_le zTr η3 := by rw [eη3]; exact wk_ok (a := 45) (b := 45) (z := ((-2147483648), 2147483647)) zTr_k (GR := []) wb2 (by decide +kernel) (by decide) (by decide) (show ((-2147483648) : Int) ≤ 1 by omega) (show 1 ≤ (2147483647 : Int) by omega)
  have v5 : zEq (η2 0 8) (η 0 8) := (k3.1.2.2.2.1 0 8 (by decide +kernel)).trans v1
  have v6 : zEq (η3 0 8) (η 0 8) := by rw [eη3]; exact (zup_ne (fun _ e => absurd e (by decide))).trans v5
  have c3_0_8 : η3 0 8 = η 0 8 := v6
  have wb4 : wB wl_le zTr η4 := k4.1.1
  have bx4 : (0 : Int) ≤ x4 ∧ x4 ≤ 6 := k4.1.2.1
  have wb5 : wB wl_le zTr η5 := by rw [eη5]; exact wk_ok (a := 46) (b := 46) (z := ((-2147483648), 2147483647)) zTr_k (GR := []) wb4 (by decide +kernel) (by decide) (by decide) (show ((-2147483648) : Int) ≤ 1 by omega) (show 1 ≤ (2147483647 : Int) by omega)
  have fm1 : zFm zMle_signs η0 η1 := zFm_tr2 hI.2 k2.1.2.2.2.1 (by decide +kernel)
  have fm2 : zFm zMle_signs η0 η2 := zFm_tr2 fm1 k3.1.2.2.2.1 (by decide +kernel)
  have fm3 : zFm zMle_signs η0 η3 := by rw [eη3]; exact zFm_up fm2 rfl
  have fm4 : zFm zMle_signs η0 η4 := zFm_tr2 fm3 k4.1.2.2.2.1 (by decide +kernel)
  have fm5 : zFm zMle_signs η0 η5 := by rw [eη5]; exact zFm_up fm4 rfl
  have fmE : zFm zMle_signs η0 η5 := fm5
  have fr22_0 : ∀ j, η 22 j = η 22 j := fun _ => rfl
  have v7 : ∀ j, η1 22 j = η 22 j := fun j => k2.1.2.2.2.1 22 _ (zinr_not (by decide +kernel))
  have fr22_1 : ∀ j, η1 22 j = η 22 j := v7
  have fr22_2 : ∀ j, η2 22 j = η2 22 j := fun _ => rfl
  have v9 : ∀ j, η3 22 j = η2 22 j := fun j => by rw [eη3]; exact zup_ne (fun e _ => absurd e (by decide))
  have fr22_3 : ∀ j, η3 22 j = η2 22 j := v9
  have v10 : ∀ j, η4 22 j = η2 22 j := fun j => (k4.1.2.2.2.1 22 _ (zinr_not (by decide +kernel))).trans (v9 j)
  have fr22_4 : ∀ j, η4 22 j = η2 22 j := v10
  have v11 : ∀ j, η5 22 j = η2 22 j := fun j => by rw [eη5]; exact (zup_ne (fun e _ => absurd e (by decide))).trans (v10 j)
  have fr22_5 : ∀ j, η5 22 j = η2 22 j := v11
  have fr22 : ∀ j, η5 22 j = η2 22 j := v11
  have v13 : zEq (η3 0 41) (η2 0 41) := by rw [eη3]; exact (zup_ne (fun _ e => absurd e (by decide))).trans rfl
  have v14 : zEq (η4 0 41) (η2 0 41) := (k4.1.2.2.2.1 0 41 (by decide +kernel)).trans v13
  have v15 : zEq (η5 0 41) (η2 0 41) := by rw [eη5]; exact (zup_ne (fun _ e => absurd e (by decide))).trans v14
  have f0_41 : η5 0 41 = η2 0 41 := v15
  have w0_0_43 : (0 : Int) ≤ η 0 43 ∧ η 0 43 ≤ 8 := wf_ok (a := 43) (b := 43) (z := (0, 8)) hI.1.1 (by decide +kernel) (Nat.le_refl _) (Nat.le_refl _)
  have v17 : zEq (η1 0 43) (η 0 43) := (k2.1.2.2.2.1 0 43 (by decide +kernel)).trans rfl
  have v18 : zEq (η2 0 43) (η 0 43) := (k3.1.2.2.2.1 0 43 (by decide +kernel)).trans v17
  have v19 : zEq (η3 0 43) (η 0 43) := by rw [eη3]; exact (zup_ne (fun _ e => absurd e (by decide))).trans v18
  have v20 : zEq (η4 0 43) (η 0 43) := (k4.1.2.2.2.1 0 43 (by decide +kernel)).trans v19
  have v21 : zEq (η5 0 43) (η 0 43) := by rw [eη5]; exact (zup_ne (fun _ e => absurd e (by decide))).trans v20
  have f0_43 : η5 0 43 = η 0 43 := v21
  have v23 : zEq (η1 0 42) (η 0 42) := (k2.1.2.2.2.1 0 42 (by decide +kernel)).trans rfl
  have v24 : zEq (η2 0 42) (η 0 42) := (k3.1.2.2.2.1 0 42 (by decide +kernel)).trans v23
  have v25 : zEq (η3 0 42) (η 0 42) := by rw [eη3]; exact (zup_ne (fun _ e => absurd e (by decide))).trans v24
  have v26 : zEq (η4 0 42) (η 0 42) := (k4.1.2.2.2.1 0 42 (by decide +kernel)).trans v25
  have v27 : zEq (η5 0 42) (η 0 42) := by rw [eη5]; exact (zup_ne (fun _ e => absurd e (by decide))).trans v26
  have f0_42 : η5 0 42 = η 0 42 := v27
  have v28 : zEq (η3 0 45) (1) := by rw [eη3]; exact zup_eq
  have v29 : zEq (η4 0 45) (1) := (k4.1.2.2.2.1 0 45 (by decide +kernel)).trans v28
  have v30 : zEq (η5 0 45) (1) := by rw [eη5]; exact (zup_ne (fun _ e => absurd e (by decide))).trans v29
  have f0_45 : η5 0 45 = 1 := v30
  have w0_0_19 : (0 : Int) ≤ η 0 19 ∧ η 0 19 ≤ 64 := wf_ok (a := 19) (b := 19) (z := (0, 64)) hI.1.1 (by decide +kernel) (Nat.le_refl _) (Nat.le_refl _)
  have v32 : zEq (η1 0 19) (η 0 19) := (k2.1.2.2.2.1 0 19 (by decide +kernel)).trans rfl
  have v33 : zEq (η2 0 19) (η 0 19) := (k3.1.2.2.2.1 0 19 (by decide +kernel)).trans v32
  have v34 : zEq (η3 0 19) (η 0 19) := by rw [eη3]; exact (zup_ne (fun _ e => absurd e (by decide))).trans v33
  have v35 : zEq (η4 0 19) (η 0 19) := (k4.1.2.2.2.1 0 19 (by decide +kernel)).trans v34
  have v36 : zEq (η5 0 19) (η 0 19) := by rw [eη5]; exact (zup_ne (fun _ e => absurd e (by decide))).trans v35
  have f0_19 : η5 0 19 = η 0 19 := v36
  have w1_0_44 : (0 : Int) ≤ η1 0 44 ∧ η1 0 44 ≤ 64 := wf_ok (a := 44) (b := 44) (z := (0, 64)) k2.1.1 (by decide +kernel) (Nat.le_refl _) (Nat.le_refl _)
  have v38 : zEq (η2 0 44) (η1 0 44) := (k3.1.2.2.2.1 0 44 (by decide +kernel)).trans rfl
  have v39 : zEq (η3 0 44) (η1 0 44) := by rw [eη3]; exact (zup_ne (fun _ e => absurd e (by decide))).trans v38
  have v40 : zEq (η4 0 44) (η1 0 44) := (k4.1.2.2.2.1 0 44 (by decide +kernel)).trans v39
  have v41 : zEq (η5 0 44) (η1 0 44) := by rw [eη5]; exact (zup_ne (fun _ e => absurd e (by decide))).trans v40
  have f0_44 : η5 0 44 = η1 0 44 := v41
  have w0_0_7 : (0 : Int) ≤ η 0 7 ∧ η 0 7 ≤ 700 := wf_ok (a := 7) (b := 7) (z := (0, 700)) hI.1.1 (by decide +kernel) (Nat.le_refl _) (Nat.le_refl _)
  have v43 : zEq (η1 0 7) (η 0 7) := (k2.1.2.2.2.1 0 7 (by decide +kernel)).trans rfl
  have v44 : zEq (η2 0 7) (η 0 7) := (k3.1.2.2.2.1 0 7 (by decide +kernel)).trans v43
  have v45 : zEq (η3 0 7) (η 0 7) := by rw [eη3]; exact (zup_ne (fun _ e => absurd e (by decide))).trans v44
  have v46 : zEq (η4 0 7) (η 0 7) := (k4.1.2.2.2.1 0 7 (by decide +kernel)).trans v45
  have v47 : zEq (η5 0 7) (η 0 7) := by rw [eη5]; exact (zup_ne (fun _ e => absurd e (by decide))).trans v46
  have f0_7 : η5 0 7 = η 0 7 := v47
  have w0_0_6 : (0 : Int) ≤ η 0 6 ∧ η 0 6 ≤ 700 := wf_ok (a := 6) (b := 6) (z := (0, 700)) hI.1.1 (by decide +kernel) (Nat.le_refl _) (Nat.le_refl _)
  have v49 : zEq (η1 0 6) (η 0 6) := (k2.1.2.2.2.1 0 6 (by decide +kernel)).trans rfl
  have v50 : zEq (η2 0 6) (η 0 6) := (k3.1.2.2.2.1 0 6 (by decide +kernel)).trans v49
  have v51 : zEq (η3 0 6) (η 0 6) := by rw [eη3]; exact (zup_ne (fun _ e => absurd e (by decide))).trans v50
  have v52 : zEq (η4 0 6) (η 0 6) := (k4.1.2.2.2.1 0 6 (by decide +kernel)).trans v51
  have v53 : zEq (η5 0 6) (η 0 6) := by rw [eη5]; exact (zup_ne (fun _ e => absurd e (by decide))).trans v52
  have f0_6 : η5 0 6 = η 0 6 := v53
  have v54 : zEq (η4 0 8) (η 0 8) := (k4.1.2.2.2.1 0 8 (by decide +kernel)).trans v6
  have v55 : zEq (η5 0 8) (η 0 8) := by rw [eη5]; exact (zup_ne (fun _ e => absurd e (by decide))).trans v54
  have f0_8 : η5 0 8 = η 0 8 := v55
  have wbE : wB wl_le zTr η5 := wb5
  
  have I0 : H_l 0 0 0 η := hig.1
  have I1 : H_l 1 0 0 η1 := k2.2.1 c1
  have I2 : H_l 0 0 (-1) η2 := k3.2
  have I3 : H_l 0 0 0 η3 := by rw [eη3]; exact h_eq (wn_up I2) rfl rfl (by apply Int.le_antisymm <;> omega)
  have I4 : H_l 0 0 0 η4 := k4.2.1
  have qr4 : (1 ≤ x4 → 2 ≤ x1) ∧ (2 ≤ x1 → 1 ≤ x4) := k4.2.2
  have I5 : H_l 0 0 0 η5 := by rw [eη5]; exact zGk_upc hk_l I4 (by decide +kernel)
  exact I5
set_option maxHeartbeats 8000000 in
theorem zle_signs_o42 {ro : Nat → List Int32} (xs : List Int) (η0 : zE) (hp : sP wl_le zTr zPle_signs xs η0) (hpp : pPle_signs xs η0) (x1 : Int) (η : zE) (hI : zsI wl_le zTr zVle_signs zMle_signs η0 3 [x1] η) (hig : iCle_signs xs η0 3 [x1] η) : ∀ (x2 : Int) (η1 : zE), ((gC2 wl_le [(nat_lit 0, zPle_isSign, zOle_isSign, zMle_isSign), (nat_lit 1, zPle_wrong, zOle_wrong, zMle_wrong), (nat_lit 2, zPle_token, zOle_token, zMle_token), (nat_lit 3, zPle_isKey, zOle_isKey, zMle_isKey), (nat_lit 4, zPle_isCounted, zOle_isCounted, zMle_isCounted), (nat_lit 5, zPle_waitsFor, zOle_waitsFor, zMle_waitsFor), (nat_lit 6, zPle_rank, zOle_rank, zMle_rank), (nat_lit 7, zPle_bind, zOle_bind, zMle_bind)] pCle_signs qCle_signs) 4).2 [] η x2 η1 → (¬ x2 = 0) → ∀ (x3 : Int) (η2 : zE), ((gC2 wl_le [(nat_lit 0, zPle_isSign, zOle_isSign, zMle_isSign), (nat_lit 1, zPle_wrong, zOle_wrong, zMle_wrong), (nat_lit 2, zPle_token, zOle_token, zMle_token), (nat_lit 3, zPle_isKey, zOle_isKey, zMle_isKey), (nat_lit 4, zPle_isCounted, zOle_isCounted, zMle_isCounted), (nat_lit 5, zPle_waitsFor, zOle_waitsFor, zMle_waitsFor), (nat_lit 6, zPle_rank, zOle_rank, zMle_rank), (nat_lit 7, zPle_bind, zOle_bind, zMle_bind)] pCle_signs qCle_signs) 5).2 [x1] η1 x3 η2 → ∀ η3 : zE, η3 = zup η2 0 (Int.toNat 45) 1 → ∀ (x4 : Int) (η4 : zE), ((gC2 wl_le [(nat_lit 0, zPle_isSign, zOle_isSign, zMle_isSign), (nat_lit 1, zPle_wrong, zOle_wrong, zMle_wrong), (nat_lit 2, zPle_token, zOle_token, zMle_token), (nat_lit 3, zPle_isKey, zOle_isKey, zMle_isKey), (nat_lit 4, zPle_isCounted, zOle_isCounted, zMle_isCounted), (nat_lit 5, zPle_waitsFor, zOle_waitsFor, zMle_waitsFor), (nat_lit 6, zPle_rank, zOle_rank, zMle_rank), (nat_lit 7, zPle_bind, zOle_bind, zMle_bind)] pCle_signs qCle_signs) 6).2 [x1] η3 x4 η4 → (x4 < 3) → ∀ η5 : zE, η5 = zup η4 0 (Int.toNat 46) 1 → ∀ (x5 : Int) (η6 : zE), ((gC2 wl_le [(nat_lit 0, zPle_isSign, zOle_isSign, zMle_isSign), (nat_lit 1, zPle_wrong, zOle_wrong, zMle_wrong), (nat_lit 2, zPle_token, zOle_token, zMle_token), (nat_lit 3, zPle_isKey, zOle_isKey, zMle_isKey), (nat_lit 4, zPle_isCounted, zOle_isCounted, zMle_isCounted), (nat_lit 5, zPle_waitsFor, zOle_waitsFor, zMle_waitsFor), (nat_lit 6, zPle_rank, zOle_rank, zMle_rank), (nat_lit 7, zPle_bind, zOle_bind, zMle_bind)] pCle_signs qCle_signs) 2).2 [] η5 x5 η6 → (fun (_ : Nat) (y : Int) (η' : zE) => pQle_signs xs η0 y η') 0 1 η6 := by
  have fig := hig.2
  have hig := hig.1
  intro x2 η1 h2 c1 x3 η2 h3 η3 eη3 x4 η4 h4 c2 η5 eη5 x5 η6 h5
  have y2 : fQle_isCounted [] η x2 η1 := h2.2.2
  have k2 : sQ wl_le zTr zOle_isCounted zMle_isCounted [] η x2 η1 ∧ oQle_isCounted [] η x2 η1 := ⟨h2.1, h2.2.1⟩
  have y3 : fQle_waitsFor [x1] η1 x3 η2 := h3.2.2
  have k3 : sQ wl_le zTr zOle_waitsFor zMle_waitsFor [x1] η1 x3 η2 ∧ oQle_waitsFor [x1] η1 x3 η2 := ⟨h3.1, h3.2.1⟩
  have y4 : fQle_rank [x1] η3 x4 η4 := h4.2.2
  have k4 : sQ wl_le zTr zOle_rank zMle_rank [x1] η3 x4 η4 ∧ oQle_rank [x1] η3 x4 η4 := ⟨h4.1, h4.2.1⟩
  have y5 : fQle_token [] η5 x5 η6 := h5.2.2
  have k5 : sQ wl_le zTr zOle_token zMle_token [] η5 x5 η6 ∧ oQle_token [] η5 x5 η6 := ⟨h5.1, h5.2.1⟩
  refine yj_a ?_ ?_
  · have hw : η 0 45 = 0 := hig.2.1
    have hr1 : 1 ≤ η 0 19 := hig.2.2.1
    have hs1 : η 0 7 = η0 0 7 := hig.2.2.2.1
    have hs2 : η 0 6 = η0 0 6 := hig.2.2.2.2.1
    have hs3 : η 0 8 = η0 0 8 := hig.2.2.2.2.2.1
    have hk : x1 = 0 ∨ (3 ≤ x1 ∧ ¬ η 0 8 = 0) := hig.2.2.2.2.2.2
    have kk : η 0 8 = 5 → 0 ≤ η 0 9 ∧ η 0 9 ≤ 5 := hig.1.1.1.2.1.2
    have bd43 : (0 : Int) ≤ η 0 43 ∧ η 0 43 ≤ 8 := wf_ok (a := 43) (b := 43) (z := (0, 8)) hI.1.1 (by decide +kernel) (Nat.le_refl _) (Nat.le_refl _)
    have bd44 : (0 : Int) ≤ η 0 44 ∧ η 0 44 ≤ 64 := wf_ok (a := 44) (b := 44) (z := (0, 64)) hI.1.1 (by decide +kernel) (Nat.le_refl _) (Nat.le_refl _)
    have bd19 : (0 : Int) ≤ η 0 19 ∧ η 0 19 ≤ 64 := wf_ok (a := 19) (b := 19) (z := (0, 64)) hI.1.1 (by decide +kernel) (Nat.le_refl _) (Nat.le_refl _)
    obtain ⟨u1, u2, u3, u4⟩ := hig.1.2
    have cn := cz_n (η := η) (η 0 41).toNat
    have y2 : fQle_isCounted [] η x2 η1 := h2.2.2
    have k2 : sQ wl_le zTr zOle_isCounted zMle_isCounted [] η x2 η1 ∧ oQle_isCounted [] η x2 η1 := ⟨h2.1, h2.2.1⟩
    have y3 : fQle_waitsFor [x1] η1 x3 η2 := h3.2.2
    have k3 : sQ wl_le zTr zOle_waitsFor zMle_waitsFor [x1] η1 x3 η2 ∧ oQle_waitsFor [x1] η1 x3 η2 := ⟨h3.1, h3.2.1⟩
    have y4 : fQle_rank [x1] η3 x4 η4 := h4.2.2
    have k4 : sQ wl_le zTr zOle_rank zMle_rank [x1] η3 x4 η4 ∧ oQle_rank [x1] η3 x4 η4 := ⟨h4.1, h4.2.1⟩
    have y5 : fQle_token [] η5 x5 η6 := h5.2.2
    have k5 : sQ wl_le zTr zOle_token zMle_token [] η5 x5 η6 ∧ oQle_token [] η5 x5 η6 := ⟨h5.1, h5.2.1⟩
    have bx1 : (3 : Int) ≤ x1 ∧ x1 ≤ 14 := hI.1.2.1.1
    have w0_0_8 : (0 : Int) ≤ η 0 8 ∧ η 0 8 ≤ 6 := wf_ok (a := 8) (b := 8) (z := (0, 6)) hI.1.1 (by decide +kernel) (Nat.le_refl _) (Nat.le_refl _)
    have c0_0_8 : η 0 8 = η 0 8 := rfl
    have wb1 : wB wl_le zTr η1 := k2.1.1
    have bx2 : (0 : Int) ≤ x2 ∧ x2 ≤ 1 := k2.1.2.1
    have v1 : zEq (η1 0 8) (η 0 8) := (k2.1.2.2.2.1 0 8 (by decide +kernel)).trans rfl
    have c1_0_8 : η1 0 8 = η 0 8 := v1
    have wb2 : wB wl_le zTr η2 := k3.1.1
    have bx3 : (0 : Int) ≤ x3 ∧ x3 ≤ 0 := k3.1.2.1
    have v3 : zEq (η1 0 45) (η 0 45) := (k2.1.2.2.2.1 0 45 (by decide +kernel)).trans rfl
    have v4 : zEq (η2 0 45) (η 0 45) := (k3.1.2.2.2.1 0 45 (by decide +kernel)).trans v3
    have c2_0_45 : η2 0 45 = η 0 45 := v4
    have wb3 : wB wl_le zTr η3 := by rw [eη3]; exact wk_ok (a := 45) (b := 45) (z := ((-2147483648), 2147483647)) zTr_k (GR := []) wb2 (by decide +kernel) (by decide) (by decide) (show ((-2147483648) : Int) ≤ 1 by omega) (show 1 ≤ (2147483647 : Int) by omega)
    have v5 : zEq (η2 0 8) (η 0 8) := (k3.1.2.2.2.1 0 8 (by decide +kernel)).trans v1
    have v6 : zEq (η3 0 8) (η 0 8) := by rw [eη3]; exact (zup_ne (fun _ e => absurd e (by decide))).trans v5
    have c3_0_8 : η3 0 8 = η 0 8 := v6
    have wb4 : wB wl_le zTr η4 := k4.1.1
    have bx4 : (0 : Int) ≤ x4 ∧ x4 ≤ 6 := k4.1.2.1
    have wb5 : wB wl_le zTr η5 := by rw [eη5]; exact wk_ok (a := 46) (b := 46) (z := ((-2147483648), 2147483647)) zTr_k (GR := []) wb4 (by decide +kernel) (by decide) (by decide) (show ((-2147483648) : Int) ≤ 1 by omega) (show 1 ≤ (2147483647 : Int) by omega)
    have w0_0_7 : (0 : Int) ≤ η 0 7 ∧ η 0 7 ≤ 700 := wf_ok (a := 7) (b := 7) (z := (0, 700)) hI.1.1 (by decide +kernel) (Nat.le_refl _) (Nat.le_refl _)
    have v8 : zEq (η1 0 7) (η 0 7) := (k2.1.2.2.2.1 0 7 (by decide +kernel)).trans rfl
    have v9 : zEq (η2 0 7) (η 0 7) := (k3.1.2.2.2.1 0 7 (by decide +kernel)).trans v8
    have v10 : zEq (η3 0 7) (η 0 7) := by rw [eη3]; exact (zup_ne (fun _ e => absurd e (by decide))).trans v9
    have v11 : zEq (η4 0 7) (η 0 7) := (k4.1.2.2.2.1 0 7 (by decide +kernel)).trans v10
    have v12 : zEq (η5 0 7) (η 0 7) := by rw [eη5]; exact (zup_ne (fun _ e => absurd e (by decide))).trans v11
    have c5_0_7 : η5 0 7 = η 0 7 := v12
    have w0_0_6 : (0 : Int) ≤ η 0 6 ∧ η 0 6 ≤ 700 := wf_ok (a := 6) (b := 6) (z := (0, 700)) hI.1.1 (by decide +kernel) (Nat.le_refl _) (Nat.le_refl _)
    have v14 : zEq (η1 0 6) (η 0 6) := (k2.1.2.2.2.1 0 6 (by decide +kernel)).trans rfl
    have v15 : zEq (η2 0 6) (η 0 6) := (k3.1.2.2.2.1 0 6 (by decide +kernel)).trans v14
    have v16 : zEq (η3 0 6) (η 0 6) := by rw [eη3]; exact (zup_ne (fun _ e => absurd e (by decide))).trans v15
    have v17 : zEq (η4 0 6) (η 0 6) := (k4.1.2.2.2.1 0 6 (by decide +kernel)).trans v16
    have v18 : zEq (η5 0 6) (η 0 6) := by rw [eη5]; exact (zup_ne (fun _ e => absurd e (by decide))).trans v17
    have c5_0_6 : η5 0 6 = η 0 6 := v18
    have v19 : zEq (η4 0 8) (η 0 8) := (k4.1.2.2.2.1 0 8 (by decide +kernel)).trans v6
    have v20 : zEq (η5 0 8) (η 0 8) := by rw [eη5]; exact (zup_ne (fun _ e => absurd e (by decide))).trans v19
    have c5_0_8 : η5 0 8 = η 0 8 := v20
    have wb6 : wB wl_le zTr η6 := k5.1.1
    have bx5 : (0 : Int) ≤ x5 ∧ x5 ≤ 0 := k5.1.2.1
    have fm1 : zFm zMle_signs η0 η1 := zFm_tr2 hI.2 k2.1.2.2.2.1 (by decide +kernel)
    have fm2 : zFm zMle_signs η0 η2 := zFm_tr2 fm1 k3.1.2.2.2.1 (by decide +kernel)
    have fm3 : zFm zMle_signs η0 η3 := by rw [eη3]; exact zFm_up fm2 rfl
    have fm4 : zFm zMle_signs η0 η4 := zFm_tr2 fm3 k4.1.2.2.2.1 (by decide +kernel)
    have fm5 : zFm zMle_signs η0 η5 := by rw [eη5]; exact zFm_up fm4 rfl
    have fm6 : zFm zMle_signs η0 η6 := zFm_tr2 fm5 k5.1.2.2.2.1 (by decide +kernel)
    have fmE : zFm zMle_signs η0 η6 := fm6
    have fr22_0 : ∀ j, η 22 j = η 22 j := fun _ => rfl
    have v21 : ∀ j, η1 22 j = η 22 j := fun j => k2.1.2.2.2.1 22 _ (zinr_not (by decide +kernel))
    have fr22_1 : ∀ j, η1 22 j = η 22 j := v21
    have fr22_2 : ∀ j, η2 22 j = η2 22 j := fun _ => rfl
    have v23 : ∀ j, η3 22 j = η2 22 j := fun j => by rw [eη3]; exact zup_ne (fun e _ => absurd e (by decide))
    have fr22_3 : ∀ j, η3 22 j = η2 22 j := v23
    have v24 : ∀ j, η4 22 j = η2 22 j := fun j => (k4.1.2.2.2.1 22 _ (zinr_not (by decide +kernel))).trans (v23 j)
    have fr22_4 : ∀ j, η4 22 j = η2 22 j := v24
    have v25 : ∀ j, η5 22 j = η2 22 j := fun j => by rw [eη5]; exact (zup_ne (fun e _ => absurd e (by decide))).trans (v24 j)
    have fr22_5 : ∀ j, η5 22 j = η2 22 j := v25
    have v26 : ∀ j, η6 22 j = η2 22 j := fun j => (k5.1.2.2.2.1 22 _ (zinr_not (by decide +kernel))).trans (v25 j)
    have fr22_6 : ∀ j, η6 22 j = η2 22 j := v26
    have fr22 : ∀ j, η6 22 j = η2 22 j := v26
    have v28 : zEq (η3 0 41) (η2 0 41) := by rw [eη3]; exact (zup_ne (fun _ e => absurd e (by decide))).trans rfl
    have v29 : zEq (η4 0 41) (η2 0 41) := (k4.1.2.2.2.1 0 41 (by decide +kernel)).trans v28
    have v30 : zEq (η5 0 41) (η2 0 41) := by rw [eη5]; exact (zup_ne (fun _ e => absurd e (by decide))).trans v29
    have v31 : zEq (η6 0 41) (η2 0 41) := (k5.1.2.2.2.1 0 41 (by decide +kernel)).trans v30
    have f0_41 : η6 0 41 = η2 0 41 := v31
    have w0_0_43 : (0 : Int) ≤ η 0 43 ∧ η 0 43 ≤ 8 := wf_ok (a := 43) (b := 43) (z := (0, 8)) hI.1.1 (by decide +kernel) (Nat.le_refl _) (Nat.le_refl _)
    have v33 : zEq (η1 0 43) (η 0 43) := (k2.1.2.2.2.1 0 43 (by decide +kernel)).trans rfl
    have v34 : zEq (η2 0 43) (η 0 43) := (k3.1.2.2.2.1 0 43 (by decide +kernel)).trans v33
    have v35 : zEq (η3 0 43) (η 0 43) := by rw [eη3]; exact (zup_ne (fun _ e => absurd e (by decide))).trans v34
    have v36 : zEq (η4 0 43) (η 0 43) := (k4.1.2.2.2.1 0 43 (by decide +kernel)).trans v35
    have v37 : zEq (η5 0 43) (η 0 43) := by rw [eη5]; exact (zup_ne (fun _ e => absurd e (by decide))).trans v36
    have v38 : zEq (η6 0 43) (η 0 43) := (k5.1.2.2.2.1 0 43 (by decide +kernel)).trans v37
    have f0_43 : η6 0 43 = η 0 43 := v38
    have v40 : zEq (η1 0 42) (η 0 42) := (k2.1.2.2.2.1 0 42 (by decide +kernel)).trans rfl
    have v41 : zEq (η2 0 42) (η 0 42) := (k3.1.2.2.2.1 0 42 (by decide +kernel)).trans v40
    have v42 : zEq (η3 0 42) (η 0 42) := by rw [eη3]; exact (zup_ne (fun _ e => absurd e (by decide))).trans v41
    have v43 : zEq (η4 0 42) (η 0 42) := (k4.1.2.2.2.1 0 42 (by decide +kernel)).trans v42
    have v44 : zEq (η5 0 42) (η 0 42) := by rw [eη5]; exact (zup_ne (fun _ e => absurd e (by decide))).trans v43
    have v45 : zEq (η6 0 42) (η 0 42) := (k5.1.2.2.2.1 0 42 (by decide +kernel)).trans v44
    have f0_42 : η6 0 42 = η 0 42 := v45
    have v46 : zEq (η3 0 45) (1) := by rw [eη3]; exact zup_eq
    have v47 : zEq (η4 0 45) (1) := (k4.1.2.2.2.1 0 45 (by decide +kernel)).trans v46
    have v48 : zEq (η5 0 45) (1) := by rw [eη5]; exact (zup_ne (fun _ e => absurd e (by decide))).trans v47
    have v49 : zEq (η6 0 45) (1) := (k5.1.2.2.2.1 0 45 (by decide +kernel)).trans v48
    have f0_45 : η6 0 45 = 1 := v49
    have w0_0_19 : (0 : Int) ≤ η 0 19 ∧ η 0 19 ≤ 64 := wf_ok (a := 19) (b := 19) (z := (0, 64)) hI.1.1 (by decide +kernel) (Nat.le_refl _) (Nat.le_refl _)
    have v51 : zEq (η1 0 19) (η 0 19) := (k2.1.2.2.2.1 0 19 (by decide +kernel)).trans rfl
    have v52 : zEq (η2 0 19) (η 0 19) := (k3.1.2.2.2.1 0 19 (by decide +kernel)).trans v51
    have v53 : zEq (η3 0 19) (η 0 19) := by rw [eη3]; exact (zup_ne (fun _ e => absurd e (by decide))).trans v52
    have v54 : zEq (η4 0 19) (η 0 19) := (k4.1.2.2.2.1 0 19 (by decide +kernel)).trans v53
    have v55 : zEq (η5 0 19) (η 0 19) := by rw [eη5]; exact (zup_ne (fun _ e => absurd e (by decide))).trans v54
    have v56 : zEq (η6 0 19) (η 0 19) := (k5.1.2.2.2.1 0 19 (by decide +kernel)).trans v55
    have f0_19 : η6 0 19 = η 0 19 := v56
    have w1_0_44 : (0 : Int) ≤ η1 0 44 ∧ η1 0 44 ≤ 64 := wf_ok (a := 44) (b := 44) (z := (0, 64)) k2.1.1 (by decide +kernel) (Nat.le_refl _) (Nat.le_refl _)
    have v58 : zEq (η2 0 44) (η1 0 44) := (k3.1.2.2.2.1 0 44 (by decide +kernel)).trans rfl
    have v59 : zEq (η3 0 44) (η1 0 44) := by rw [eη3]; exact (zup_ne (fun _ e => absurd e (by decide))).trans v58
    have v60 : zEq (η4 0 44) (η1 0 44) := (k4.1.2.2.2.1 0 44 (by decide +kernel)).trans v59
    have v61 : zEq (η5 0 44) (η1 0 44) := by rw [eη5]; exact (zup_ne (fun _ e => absurd e (by decide))).trans v60
    have v62 : zEq (η6 0 44) (η1 0 44) := (k5.1.2.2.2.1 0 44 (by decide +kernel)).trans v61
    have f0_44 : η6 0 44 = η1 0 44 := v62
    have w6_0_7 : (0 : Int) ≤ η6 0 7 ∧ η6 0 7 ≤ 700 := wf_ok (a := 7) (b := 7) (z := (0, 700)) k5.1.1 (by decide +kernel) (Nat.le_refl _) (Nat.le_refl _)
    have f0_7 : η6 0 7 = η6 0 7 := rfl
    have v64 : zEq (η6 0 6) (η 0 6) := (k5.1.2.2.2.1 0 6 (by decide +kernel)).trans v18
    have f0_6 : η6 0 6 = η 0 6 := v64
    have w6_0_8 : (0 : Int) ≤ η6 0 8 ∧ η6 0 8 ≤ 6 := wf_ok (a := 8) (b := 8) (z := (0, 6)) k5.1.1 (by decide +kernel) (Nat.le_refl _) (Nat.le_refl _)
    have f0_8 : η6 0 8 = η6 0 8 := rfl
    have wbE : wB wl_le zTr η6 := wb6
    
    have I0 : H_l 0 0 0 η := hig.1
    have I1 : H_l 1 0 0 η1 := k2.2.1 c1
    have I2 : H_l 0 0 (-1) η2 := k3.2
    have I3 : H_l 0 0 0 η3 := by rw [eη3]; exact h_eq (wn_up I2) rfl rfl (by apply Int.le_antisymm <;> omega)
    have I4 : H_l 0 0 0 η4 := k4.2.1
    have qr4 : (1 ≤ x4 → 2 ≤ x1) ∧ (2 ≤ x1 → 1 ≤ x4) := k4.2.2
    have I5 : H_l 0 0 0 η5 := by rw [eη5]; exact zGk_upc hk_l I4 (by decide +kernel)
    have I6 : H_l 0 0 0 η6 := k5.2.1
    have qt5 : ¬ η5 0 8 = 0 → 10 * (η6 0 6 - η6 0 7) + η6 0 8 < 10 * (η5 0 6 - η5 0 7) + η5 0 8 := k5.2.2
    refine ⟨I6.1, fun _ => ⟨I6, show 10 * (η6 0 6 - η6 0 7) + η6 0 8 < 10 * (η0 0 6 - η0 0 7) + η0 0 8 by omega, fun w => ?_⟩⟩
    have w : η6 0 45 = 0 := w
    omega
  · have fig : yq_sgn η0 = yq_sg3 x1 η := fig
    have goal_ : (1, η6) = yq_sgn η0 := by
      obtain ⟨a2, b2⟩ : x2 = (yq_cny η) ∧ η1 = (yq_cns η) := y2
      clear k2 h2
      have b3 : η2 = (yq_wai x1 η1) := y3
      clear k3 h3
      have eη3 : η3 = zup η2 0 45 1 := eη3
      obtain ⟨a4, b4⟩ : x4 = (yq_rk x1) ∧ η4 = η3 := y4
      clear k4 h4
      have eη5 : η5 = zup η4 0 46 1 := eη5
      have b5 : η6 = (yq_tok η5) := y5
      clear k5 h5
      subst a2; subst b2
      subst b3
      subst eη3
      subst a4; subst b4
      subst eη5
      subst b5
      rw [fig]
      unfold yq_sg3 yq_ct
      (repeat' split) <;> first | (exfalso; omega) | exact ⟨rfl, rfl⟩ | rfl
    exact ⟨congrArg Prod.fst goal_, congrArg Prod.snd goal_⟩
set_option maxHeartbeats 8000000 in
theorem zle_signs_o43 {ro : Nat → List Int32} (xs : List Int) (η0 : zE) (hp : sP wl_le zTr zPle_signs xs η0) (hpp : pPle_signs xs η0) (x1 : Int) (η : zE) (hI : zsI wl_le zTr zVle_signs zMle_signs η0 3 [x1] η) (hig : iCle_signs xs η0 3 [x1] η) : ∀ (x2 : Int) (η1 : zE), ((gC2 wl_le [(nat_lit 0, zPle_isSign, zOle_isSign, zMle_isSign), (nat_lit 1, zPle_wrong, zOle_wrong, zMle_wrong), (nat_lit 2, zPle_token, zOle_token, zMle_token), (nat_lit 3, zPle_isKey, zOle_isKey, zMle_isKey), (nat_lit 4, zPle_isCounted, zOle_isCounted, zMle_isCounted), (nat_lit 5, zPle_waitsFor, zOle_waitsFor, zMle_waitsFor), (nat_lit 6, zPle_rank, zOle_rank, zMle_rank), (nat_lit 7, zPle_bind, zOle_bind, zMle_bind)] pCle_signs qCle_signs) 4).2 [] η x2 η1 → (x2 = 0) → (fun (_ : Nat) (y : Int) (η' : zE) => pQle_signs xs η0 y η') 0 0 η1 := by
  have fig := hig.2
  have hig := hig.1
  intro x2 η1 h2 c1
  have y2 : fQle_isCounted [] η x2 η1 := h2.2.2
  have k2 : sQ wl_le zTr zOle_isCounted zMle_isCounted [] η x2 η1 ∧ oQle_isCounted [] η x2 η1 := ⟨h2.1, h2.2.1⟩
  refine yj_a ?_ ?_
  · have hw : η 0 45 = 0 := hig.2.1
    have hr1 : 1 ≤ η 0 19 := hig.2.2.1
    have hs1 : η 0 7 = η0 0 7 := hig.2.2.2.1
    have hs2 : η 0 6 = η0 0 6 := hig.2.2.2.2.1
    have hs3 : η 0 8 = η0 0 8 := hig.2.2.2.2.2.1
    have hk : x1 = 0 ∨ (3 ≤ x1 ∧ ¬ η 0 8 = 0) := hig.2.2.2.2.2.2
    have kk : η 0 8 = 5 → 0 ≤ η 0 9 ∧ η 0 9 ≤ 5 := hig.1.1.1.2.1.2
    have bd43 : (0 : Int) ≤ η 0 43 ∧ η 0 43 ≤ 8 := wf_ok (a := 43) (b := 43) (z := (0, 8)) hI.1.1 (by decide +kernel) (Nat.le_refl _) (Nat.le_refl _)
    have bd44 : (0 : Int) ≤ η 0 44 ∧ η 0 44 ≤ 64 := wf_ok (a := 44) (b := 44) (z := (0, 64)) hI.1.1 (by decide +kernel) (Nat.le_refl _) (Nat.le_refl _)
    have bd19 : (0 : Int) ≤ η 0 19 ∧ η 0 19 ≤ 64 := wf_ok (a := 19) (b := 19) (z := (0, 64)) hI.1.1 (by decide +kernel) (Nat.le_refl _) (Nat.le_refl _)
    obtain ⟨u1, u2, u3, u4⟩ := hig.1.2
    have cn := cz_n (η := η) (η 0 41).toNat
    have y2 : fQle_isCounted [] η x2 η1 := h2.2.2
    have k2 : sQ wl_le zTr zOle_isCounted zMle_isCounted [] η x2 η1 ∧ oQle_isCounted [] η x2 η1 := ⟨h2.1, h2.2.1⟩
    have bx1 : (3 : Int) ≤ x1 ∧ x1 ≤ 14 := hI.1.2.1.1
    have w0_0_8 : (0 : Int) ≤ η 0 8 ∧ η 0 8 ≤ 6 := wf_ok (a := 8) (b := 8) (z := (0, 6)) hI.1.1 (by decide +kernel) (Nat.le_refl _) (Nat.le_refl _)
    have c0_0_8 : η 0 8 = η 0 8 := rfl
    have wb1 : wB wl_le zTr η1 := k2.1.1
    have bx2 : (0 : Int) ≤ x2 ∧ x2 ≤ 1 := k2.1.2.1
    have fm1 : zFm zMle_signs η0 η1 := zFm_tr2 hI.2 k2.1.2.2.2.1 (by decide +kernel)
    have fmE : zFm zMle_signs η0 η1 := fm1
    have fr22_0 : ∀ j, η 22 j = η 22 j := fun _ => rfl
    have v1 : ∀ j, η1 22 j = η 22 j := fun j => k2.1.2.2.2.1 22 _ (zinr_not (by decide +kernel))
    have fr22_1 : ∀ j, η1 22 j = η 22 j := v1
    have fr22 : ∀ j, η1 22 j = η 22 j := v1
    have v3 : zEq (η1 0 41) (η 0 41) := (k2.1.2.2.2.1 0 41 (by decide +kernel)).trans rfl
    have f0_41 : η1 0 41 = η 0 41 := v3
    have w0_0_43 : (0 : Int) ≤ η 0 43 ∧ η 0 43 ≤ 8 := wf_ok (a := 43) (b := 43) (z := (0, 8)) hI.1.1 (by decide +kernel) (Nat.le_refl _) (Nat.le_refl _)
    have v5 : zEq (η1 0 43) (η 0 43) := (k2.1.2.2.2.1 0 43 (by decide +kernel)).trans rfl
    have f0_43 : η1 0 43 = η 0 43 := v5
    have v7 : zEq (η1 0 42) (η 0 42) := (k2.1.2.2.2.1 0 42 (by decide +kernel)).trans rfl
    have f0_42 : η1 0 42 = η 0 42 := v7
    have v9 : zEq (η1 0 45) (η 0 45) := (k2.1.2.2.2.1 0 45 (by decide +kernel)).trans rfl
    have f0_45 : η1 0 45 = η 0 45 := v9
    have w0_0_19 : (0 : Int) ≤ η 0 19 ∧ η 0 19 ≤ 64 := wf_ok (a := 19) (b := 19) (z := (0, 64)) hI.1.1 (by decide +kernel) (Nat.le_refl _) (Nat.le_refl _)
    have v11 : zEq (η1 0 19) (η 0 19) := (k2.1.2.2.2.1 0 19 (by decide +kernel)).trans rfl
    have f0_19 : η1 0 19 = η 0 19 := v11
    have w1_0_44 : (0 : Int) ≤ η1 0 44 ∧ η1 0 44 ≤ 64 := wf_ok (a := 44) (b := 44) (z := (0, 64)) k2.1.1 (by decide +kernel) (Nat.le_refl _) (Nat.le_refl _)
    have f0_44 : η1 0 44 = η1 0 44 := rfl
    have w0_0_7 : (0 : Int) ≤ η 0 7 ∧ η 0 7 ≤ 700 := wf_ok (a := 7) (b := 7) (z := (0, 700)) hI.1.1 (by decide +kernel) (Nat.le_refl _) (Nat.le_refl _)
    have v14 : zEq (η1 0 7) (η 0 7) := (k2.1.2.2.2.1 0 7 (by decide +kernel)).trans rfl
    have f0_7 : η1 0 7 = η 0 7 := v14
    have w0_0_6 : (0 : Int) ≤ η 0 6 ∧ η 0 6 ≤ 700 := wf_ok (a := 6) (b := 6) (z := (0, 700)) hI.1.1 (by decide +kernel) (Nat.le_refl _) (Nat.le_refl _)
    have v16 : zEq (η1 0 6) (η 0 6) := (k2.1.2.2.2.1 0 6 (by decide +kernel)).trans rfl
    have f0_6 : η1 0 6 = η 0 6 := v16
    have v17 : zEq (η1 0 8) (η 0 8) := (k2.1.2.2.2.1 0 8 (by decide +kernel)).trans rfl
    have f0_8 : η1 0 8 = η 0 8 := v17
    have wbE : wB wl_le zTr η1 := wb1
    
    have I0 : H_l 0 0 0 η := hig.1
    have I1 : H_l 0 0 0 η1 := k2.2.2 c1
    exact ⟨I1.1, fun w => absurd (show (0 : Int) = 0 by apply Int.le_antisymm <;> omega) w⟩
  · have fig : yq_sgn η0 = yq_sg3 x1 η := fig
    have goal_ : (0, η1) = yq_sgn η0 := by
      obtain ⟨a2, b2⟩ : x2 = (yq_cny η) ∧ η1 = (yq_cns η) := y2
      clear k2 h2
      subst a2; subst b2
      rw [fig]
      unfold yq_sg3 yq_ct
      (repeat' split) <;> first | (exfalso; omega) | exact ⟨rfl, rfl⟩ | rfl
    exact ⟨congrArg Prod.fst goal_, congrArg Prod.snd goal_⟩
set_option maxHeartbeats 8000000 in
theorem zle_signs {ro : Nat → List Int32} : zMet pr_P pr_K pr_df ro (sm_X0 1 6) 2 148 tm_le [(.inr (.inr (.inl (nat_lit 0))))] 2 [(nat_lit 0, nat_lit 0, nat_lit 1), (nat_lit 0, nat_lit 3, nat_lit 2), (nat_lit 0, nat_lit 20, nat_lit 3), (nat_lit 0, nat_lit 21, nat_lit 4), (nat_lit 0, nat_lit 22, nat_lit 5), (nat_lit 0, nat_lit 23, nat_lit 6), (nat_lit 0, nat_lit 24, nat_lit 7), (nat_lit 0, nat_lit 25, nat_lit 8), (nat_lit 0, nat_lit 26, nat_lit 9), (nat_lit 0, nat_lit 27, nat_lit 10), (nat_lit 0, nat_lit 28, nat_lit 11), (nat_lit 0, nat_lit 29, nat_lit 12), (nat_lit 0, nat_lit 30, nat_lit 13), (nat_lit 0, nat_lit 31, nat_lit 14), (nat_lit 0, nat_lit 32, nat_lit 15), (nat_lit 0, nat_lit 33, nat_lit 16), (nat_lit 0, nat_lit 34, nat_lit 17), (nat_lit 0, nat_lit 35, nat_lit 18), (nat_lit 0, nat_lit 36, nat_lit 19), (nat_lit 0, nat_lit 37, nat_lit 20), (nat_lit 0, nat_lit 38, nat_lit 21), (nat_lit 0, nat_lit 39, nat_lit 22), (nat_lit 0, nat_lit 40, nat_lit 23), (nat_lit 0, nat_lit 47, nat_lit 24), (nat_lit 0, nat_lit 48, nat_lit 25), (nat_lit 0, nat_lit 50, nat_lit 26), (nat_lit 0, nat_lit 51, nat_lit 27), (nat_lit 0, nat_lit 52, nat_lit 28), (nat_lit 0, nat_lit 53, nat_lit 29), (nat_lit 0, nat_lit 54, nat_lit 30), (nat_lit 0, nat_lit 55, nat_lit 31), (nat_lit 0, nat_lit 56, nat_lit 32), (nat_lit 0, nat_lit 57, nat_lit 33), (nat_lit 0, nat_lit 58, nat_lit 34), (nat_lit 0, nat_lit 59, nat_lit 35), (nat_lit 0, nat_lit 72, nat_lit 36), (nat_lit 0, nat_lit 73, nat_lit 37), (nat_lit 0, nat_lit 76, nat_lit 38), (nat_lit 0, nat_lit 77, nat_lit 39), (nat_lit 0, nat_lit 79, nat_lit 40), (nat_lit 0, nat_lit 81, nat_lit 41), (nat_lit 0, nat_lit 82, nat_lit 42)] [] (fun xs η => sP wl_le zTr zPle_signs xs η ∧ pPle_signs xs η) (fun xs η y η' => sQ wl_le zTr zOle_signs zMle_signs xs η y η' ∧ pQle_signs xs η y η') :=
  zmet_alt (zmea_gen (mi := (nat_lit 0, nat_lit 1, nat_lit 8, nat_lit 2, nat_lit 2, tX8_signs)) (cd := [(nat_lit 126, nat_lit 0, nat_lit 0, [(.inr (.inr (.inl (nat_lit 0)))), (.inl (nat_lit 1, (.ofNat (nat_lit 0))))], nat_lit 2, [(nat_lit 0, nat_lit 0, nat_lit 1), (nat_lit 0, nat_lit 3, nat_lit 2), (nat_lit 0, nat_lit 20, nat_lit 3), (nat_lit 0, nat_lit 21, nat_lit 4), (nat_lit 0, nat_lit 22, nat_lit 5), (nat_lit 0, nat_lit 23, nat_lit 6), (nat_lit 0, nat_lit 24, nat_lit 7), (nat_lit 0, nat_lit 25, nat_lit 8), (nat_lit 0, nat_lit 26, nat_lit 9), (nat_lit 0, nat_lit 27, nat_lit 10), (nat_lit 0, nat_lit 28, nat_lit 11), (nat_lit 0, nat_lit 29, nat_lit 12), (nat_lit 0, nat_lit 30, nat_lit 13), (nat_lit 0, nat_lit 31, nat_lit 14), (nat_lit 0, nat_lit 32, nat_lit 15), (nat_lit 0, nat_lit 33, nat_lit 16), (nat_lit 0, nat_lit 34, nat_lit 17), (nat_lit 0, nat_lit 35, nat_lit 18), (nat_lit 0, nat_lit 36, nat_lit 19), (nat_lit 0, nat_lit 37, nat_lit 20), (nat_lit 0, nat_lit 38, nat_lit 21), (nat_lit 0, nat_lit 39, nat_lit 22), (nat_lit 0, nat_lit 40, nat_lit 23), (nat_lit 0, nat_lit 47, nat_lit 24), (nat_lit 0, nat_lit 48, nat_lit 25), (nat_lit 0, nat_lit 50, nat_lit 26), (nat_lit 0, nat_lit 51, nat_lit 27), (nat_lit 0, nat_lit 52, nat_lit 28), (nat_lit 0, nat_lit 53, nat_lit 29), (nat_lit 0, nat_lit 54, nat_lit 30), (nat_lit 0, nat_lit 55, nat_lit 31), (nat_lit 0, nat_lit 56, nat_lit 32), (nat_lit 0, nat_lit 57, nat_lit 33), (nat_lit 0, nat_lit 58, nat_lit 34), (nat_lit 0, nat_lit 59, nat_lit 35), (nat_lit 0, nat_lit 72, nat_lit 36), (nat_lit 0, nat_lit 73, nat_lit 37), (nat_lit 0, nat_lit 76, nat_lit 38), (nat_lit 0, nat_lit 77, nat_lit 39), (nat_lit 0, nat_lit 79, nat_lit 40), (nat_lit 0, nat_lit 81, nat_lit 41), (nat_lit 0, nat_lit 82, nat_lit 42)], []), (nat_lit 118, nat_lit 1, nat_lit 0, [(.inr (.inr (.inl (nat_lit 0)))), (.inl (nat_lit 1, (.ofNat (nat_lit 0))))], nat_lit 2, [(nat_lit 0, nat_lit 0, nat_lit 1), (nat_lit 0, nat_lit 3, nat_lit 2), (nat_lit 0, nat_lit 20, nat_lit 3), (nat_lit 0, nat_lit 21, nat_lit 4), (nat_lit 0, nat_lit 22, nat_lit 5), (nat_lit 0, nat_lit 23, nat_lit 6), (nat_lit 0, nat_lit 24, nat_lit 7), (nat_lit 0, nat_lit 25, nat_lit 8), (nat_lit 0, nat_lit 26, nat_lit 9), (nat_lit 0, nat_lit 27, nat_lit 10), (nat_lit 0, nat_lit 28, nat_lit 11), (nat_lit 0, nat_lit 29, nat_lit 12), (nat_lit 0, nat_lit 30, nat_lit 13), (nat_lit 0, nat_lit 31, nat_lit 14), (nat_lit 0, nat_lit 32, nat_lit 15), (nat_lit 0, nat_lit 33, nat_lit 16), (nat_lit 0, nat_lit 34, nat_lit 17), (nat_lit 0, nat_lit 35, nat_lit 18), (nat_lit 0, nat_lit 36, nat_lit 19), (nat_lit 0, nat_lit 37, nat_lit 20), (nat_lit 0, nat_lit 38, nat_lit 21), (nat_lit 0, nat_lit 39, nat_lit 22), (nat_lit 0, nat_lit 40, nat_lit 23), (nat_lit 0, nat_lit 47, nat_lit 24), (nat_lit 0, nat_lit 48, nat_lit 25), (nat_lit 0, nat_lit 50, nat_lit 26), (nat_lit 0, nat_lit 51, nat_lit 27), (nat_lit 0, nat_lit 52, nat_lit 28), (nat_lit 0, nat_lit 53, nat_lit 29), (nat_lit 0, nat_lit 54, nat_lit 30), (nat_lit 0, nat_lit 55, nat_lit 31), (nat_lit 0, nat_lit 56, nat_lit 32), (nat_lit 0, nat_lit 57, nat_lit 33), (nat_lit 0, nat_lit 58, nat_lit 34), (nat_lit 0, nat_lit 59, nat_lit 35), (nat_lit 0, nat_lit 72, nat_lit 36), (nat_lit 0, nat_lit 73, nat_lit 37), (nat_lit 0, nat_lit 76, nat_lit 38), (nat_lit 0, nat_lit 77, nat_lit 39), (nat_lit 0, nat_lit 79, nat_lit 40), (nat_lit 0, nat_lit 81, nat_lit 41), (nat_lit 0, nat_lit 82, nat_lit 42)], []), (nat_lit 122, nat_lit 2, nat_lit 1, [(.inr (.inr (.inl (nat_lit 0))))], nat_lit 0, [(nat_lit 0, nat_lit 0, nat_lit 1), (nat_lit 0, nat_lit 3, nat_lit 2), (nat_lit 0, nat_lit 20, nat_lit 3), (nat_lit 0, nat_lit 21, nat_lit 4), (nat_lit 0, nat_lit 22, nat_lit 5), (nat_lit 0, nat_lit 23, nat_lit 6), (nat_lit 0, nat_lit 24, nat_lit 7), (nat_lit 0, nat_lit 25, nat_lit 8), (nat_lit 0, nat_lit 26, nat_lit 9), (nat_lit 0, nat_lit 27, nat_lit 10), (nat_lit 0, nat_lit 28, nat_lit 11), (nat_lit 0, nat_lit 29, nat_lit 12), (nat_lit 0, nat_lit 30, nat_lit 13), (nat_lit 0, nat_lit 31, nat_lit 14), (nat_lit 0, nat_lit 32, nat_lit 15), (nat_lit 0, nat_lit 33, nat_lit 16), (nat_lit 0, nat_lit 34, nat_lit 17), (nat_lit 0, nat_lit 35, nat_lit 18), (nat_lit 0, nat_lit 36, nat_lit 19), (nat_lit 0, nat_lit 37, nat_lit 20), (nat_lit 0, nat_lit 38, nat_lit 21), (nat_lit 0, nat_lit 39, nat_lit 22), (nat_lit 0, nat_lit 40, nat_lit 23), (nat_lit 0, nat_lit 47, nat_lit 24), (nat_lit 0, nat_lit 48, nat_lit 25), (nat_lit 0, nat_lit 50, nat_lit 26), (nat_lit 0, nat_lit 51, nat_lit 27), (nat_lit 0, nat_lit 52, nat_lit 28), (nat_lit 0, nat_lit 53, nat_lit 29), (nat_lit 0, nat_lit 54, nat_lit 30), (nat_lit 0, nat_lit 55, nat_lit 31), (nat_lit 0, nat_lit 56, nat_lit 32), (nat_lit 0, nat_lit 57, nat_lit 33), (nat_lit 0, nat_lit 58, nat_lit 34), (nat_lit 0, nat_lit 59, nat_lit 35), (nat_lit 0, nat_lit 72, nat_lit 36), (nat_lit 0, nat_lit 73, nat_lit 37), (nat_lit 0, nat_lit 76, nat_lit 38), (nat_lit 0, nat_lit 77, nat_lit 39), (nat_lit 0, nat_lit 79, nat_lit 40), (nat_lit 0, nat_lit 81, nat_lit 41), (nat_lit 0, nat_lit 82, nat_lit 42)], []), (nat_lit 125, nat_lit 3, nat_lit 0, [(.inr (.inr (.inl (nat_lit 0)))), (.inl (nat_lit 1, (.ofNat (nat_lit 0))))], nat_lit 2, [(nat_lit 0, nat_lit 0, nat_lit 1), (nat_lit 0, nat_lit 3, nat_lit 2), (nat_lit 0, nat_lit 20, nat_lit 3), (nat_lit 0, nat_lit 21, nat_lit 4), (nat_lit 0, nat_lit 22, nat_lit 5), (nat_lit 0, nat_lit 23, nat_lit 6), (nat_lit 0, nat_lit 24, nat_lit 7), (nat_lit 0, nat_lit 25, nat_lit 8), (nat_lit 0, nat_lit 26, nat_lit 9), (nat_lit 0, nat_lit 27, nat_lit 10), (nat_lit 0, nat_lit 28, nat_lit 11), (nat_lit 0, nat_lit 29, nat_lit 12), (nat_lit 0, nat_lit 30, nat_lit 13), (nat_lit 0, nat_lit 31, nat_lit 14), (nat_lit 0, nat_lit 32, nat_lit 15), (nat_lit 0, nat_lit 33, nat_lit 16), (nat_lit 0, nat_lit 34, nat_lit 17), (nat_lit 0, nat_lit 35, nat_lit 18), (nat_lit 0, nat_lit 36, nat_lit 19), (nat_lit 0, nat_lit 37, nat_lit 20), (nat_lit 0, nat_lit 38, nat_lit 21), (nat_lit 0, nat_lit 39, nat_lit 22), (nat_lit 0, nat_lit 40, nat_lit 23), (nat_lit 0, nat_lit 47, nat_lit 24), (nat_lit 0, nat_lit 48, nat_lit 25), (nat_lit 0, nat_lit 50, nat_lit 26), (nat_lit 0, nat_lit 51, nat_lit 27), (nat_lit 0, nat_lit 52, nat_lit 28), (nat_lit 0, nat_lit 53, nat_lit 29), (nat_lit 0, nat_lit 54, nat_lit 30), (nat_lit 0, nat_lit 55, nat_lit 31), (nat_lit 0, nat_lit 56, nat_lit 32), (nat_lit 0, nat_lit 57, nat_lit 33), (nat_lit 0, nat_lit 58, nat_lit 34), (nat_lit 0, nat_lit 59, nat_lit 35), (nat_lit 0, nat_lit 72, nat_lit 36), (nat_lit 0, nat_lit 73, nat_lit 37), (nat_lit 0, nat_lit 76, nat_lit 38), (nat_lit 0, nat_lit 77, nat_lit 39), (nat_lit 0, nat_lit 79, nat_lit 40), (nat_lit 0, nat_lit 81, nat_lit 41), (nat_lit 0, nat_lit 82, nat_lit 42)], []), (nat_lit 144, nat_lit 4, nat_lit 1, [(.inr (.inr (.inl (nat_lit 0))))], nat_lit 2, [(nat_lit 0, nat_lit 0, nat_lit 1), (nat_lit 0, nat_lit 3, nat_lit 2), (nat_lit 0, nat_lit 20, nat_lit 3), (nat_lit 0, nat_lit 21, nat_lit 4), (nat_lit 0, nat_lit 22, nat_lit 5), (nat_lit 0, nat_lit 23, nat_lit 6), (nat_lit 0, nat_lit 24, nat_lit 7), (nat_lit 0, nat_lit 25, nat_lit 8), (nat_lit 0, nat_lit 26, nat_lit 9), (nat_lit 0, nat_lit 27, nat_lit 10), (nat_lit 0, nat_lit 28, nat_lit 11), (nat_lit 0, nat_lit 29, nat_lit 12), (nat_lit 0, nat_lit 30, nat_lit 13), (nat_lit 0, nat_lit 31, nat_lit 14), (nat_lit 0, nat_lit 32, nat_lit 15), (nat_lit 0, nat_lit 33, nat_lit 16), (nat_lit 0, nat_lit 34, nat_lit 17), (nat_lit 0, nat_lit 35, nat_lit 18), (nat_lit 0, nat_lit 36, nat_lit 19), (nat_lit 0, nat_lit 37, nat_lit 20), (nat_lit 0, nat_lit 38, nat_lit 21), (nat_lit 0, nat_lit 39, nat_lit 22), (nat_lit 0, nat_lit 40, nat_lit 23), (nat_lit 0, nat_lit 47, nat_lit 24), (nat_lit 0, nat_lit 48, nat_lit 25), (nat_lit 0, nat_lit 50, nat_lit 26), (nat_lit 0, nat_lit 51, nat_lit 27), (nat_lit 0, nat_lit 52, nat_lit 28), (nat_lit 0, nat_lit 53, nat_lit 29), (nat_lit 0, nat_lit 54, nat_lit 30), (nat_lit 0, nat_lit 55, nat_lit 31), (nat_lit 0, nat_lit 56, nat_lit 32), (nat_lit 0, nat_lit 57, nat_lit 33), (nat_lit 0, nat_lit 58, nat_lit 34), (nat_lit 0, nat_lit 59, nat_lit 35), (nat_lit 0, nat_lit 72, nat_lit 36), (nat_lit 0, nat_lit 73, nat_lit 37), (nat_lit 0, nat_lit 76, nat_lit 38), (nat_lit 0, nat_lit 77, nat_lit 39), (nat_lit 0, nat_lit 79, nat_lit 40), (nat_lit 0, nat_lit 81, nat_lit 41), (nat_lit 0, nat_lit 82, nat_lit 42)], []), (nat_lit 145, nat_lit 5, nat_lit 0, [(.inr (.inr (.inl (nat_lit 0)))), (.inl (nat_lit 1, (.ofNat (nat_lit 0))))], nat_lit 0, [(nat_lit 0, nat_lit 0, nat_lit 1), (nat_lit 0, nat_lit 3, nat_lit 2), (nat_lit 0, nat_lit 20, nat_lit 3), (nat_lit 0, nat_lit 21, nat_lit 4), (nat_lit 0, nat_lit 22, nat_lit 5), (nat_lit 0, nat_lit 23, nat_lit 6), (nat_lit 0, nat_lit 24, nat_lit 7), (nat_lit 0, nat_lit 25, nat_lit 8), (nat_lit 0, nat_lit 26, nat_lit 9), (nat_lit 0, nat_lit 27, nat_lit 10), (nat_lit 0, nat_lit 28, nat_lit 11), (nat_lit 0, nat_lit 29, nat_lit 12), (nat_lit 0, nat_lit 30, nat_lit 13), (nat_lit 0, nat_lit 31, nat_lit 14), (nat_lit 0, nat_lit 32, nat_lit 15), (nat_lit 0, nat_lit 33, nat_lit 16), (nat_lit 0, nat_lit 34, nat_lit 17), (nat_lit 0, nat_lit 35, nat_lit 18), (nat_lit 0, nat_lit 36, nat_lit 19), (nat_lit 0, nat_lit 37, nat_lit 20), (nat_lit 0, nat_lit 38, nat_lit 21), (nat_lit 0, nat_lit 39, nat_lit 22), (nat_lit 0, nat_lit 40, nat_lit 23), (nat_lit 0, nat_lit 47, nat_lit 24), (nat_lit 0, nat_lit 48, nat_lit 25), (nat_lit 0, nat_lit 50, nat_lit 26), (nat_lit 0, nat_lit 51, nat_lit 27), (nat_lit 0, nat_lit 52, nat_lit 28), (nat_lit 0, nat_lit 53, nat_lit 29), (nat_lit 0, nat_lit 54, nat_lit 30), (nat_lit 0, nat_lit 55, nat_lit 31), (nat_lit 0, nat_lit 56, nat_lit 32), (nat_lit 0, nat_lit 57, nat_lit 33), (nat_lit 0, nat_lit 58, nat_lit 34), (nat_lit 0, nat_lit 59, nat_lit 35), (nat_lit 0, nat_lit 72, nat_lit 36), (nat_lit 0, nat_lit 73, nat_lit 37), (nat_lit 0, nat_lit 76, nat_lit 38), (nat_lit 0, nat_lit 77, nat_lit 39), (nat_lit 0, nat_lit 79, nat_lit 40), (nat_lit 0, nat_lit 81, nat_lit 41), (nat_lit 0, nat_lit 82, nat_lit 42)], []), (nat_lit 140, nat_lit 6, nat_lit 0, [(.inl (nat_lit 1, (.ofNat (nat_lit 0))))], nat_lit 1, [(nat_lit 0, nat_lit 0, nat_lit 1), (nat_lit 0, nat_lit 3, nat_lit 2), (nat_lit 0, nat_lit 20, nat_lit 3), (nat_lit 0, nat_lit 21, nat_lit 4), (nat_lit 0, nat_lit 22, nat_lit 5), (nat_lit 0, nat_lit 23, nat_lit 6), (nat_lit 0, nat_lit 24, nat_lit 7), (nat_lit 0, nat_lit 25, nat_lit 8), (nat_lit 0, nat_lit 26, nat_lit 9), (nat_lit 0, nat_lit 27, nat_lit 10), (nat_lit 0, nat_lit 28, nat_lit 11), (nat_lit 0, nat_lit 29, nat_lit 12), (nat_lit 0, nat_lit 30, nat_lit 13), (nat_lit 0, nat_lit 31, nat_lit 14), (nat_lit 0, nat_lit 32, nat_lit 15), (nat_lit 0, nat_lit 33, nat_lit 16), (nat_lit 0, nat_lit 34, nat_lit 17), (nat_lit 0, nat_lit 35, nat_lit 18), (nat_lit 0, nat_lit 36, nat_lit 19), (nat_lit 0, nat_lit 37, nat_lit 20), (nat_lit 0, nat_lit 38, nat_lit 21), (nat_lit 0, nat_lit 39, nat_lit 22), (nat_lit 0, nat_lit 40, nat_lit 23), (nat_lit 0, nat_lit 47, nat_lit 24), (nat_lit 0, nat_lit 48, nat_lit 25), (nat_lit 0, nat_lit 50, nat_lit 26), (nat_lit 0, nat_lit 51, nat_lit 27), (nat_lit 0, nat_lit 52, nat_lit 28), (nat_lit 0, nat_lit 53, nat_lit 29), (nat_lit 0, nat_lit 54, nat_lit 30), (nat_lit 0, nat_lit 55, nat_lit 31), (nat_lit 0, nat_lit 56, nat_lit 32), (nat_lit 0, nat_lit 57, nat_lit 33), (nat_lit 0, nat_lit 58, nat_lit 34), (nat_lit 0, nat_lit 59, nat_lit 35), (nat_lit 0, nat_lit 72, nat_lit 36), (nat_lit 0, nat_lit 73, nat_lit 37), (nat_lit 0, nat_lit 76, nat_lit 38), (nat_lit 0, nat_lit 77, nat_lit 39), (nat_lit 0, nat_lit 79, nat_lit 40), (nat_lit 0, nat_lit 81, nat_lit 41), (nat_lit 0, nat_lit 82, nat_lit 42)], []), (nat_lit 143, nat_lit 7, nat_lit 1, [(.inr (.inr (.inl (nat_lit 0)))), (.inl (nat_lit 1, (.ofNat (nat_lit 0))))], nat_lit 0, [(nat_lit 0, nat_lit 0, nat_lit 1), (nat_lit 0, nat_lit 3, nat_lit 2), (nat_lit 0, nat_lit 20, nat_lit 3), (nat_lit 0, nat_lit 21, nat_lit 4), (nat_lit 0, nat_lit 22, nat_lit 5), (nat_lit 0, nat_lit 23, nat_lit 6), (nat_lit 0, nat_lit 24, nat_lit 7), (nat_lit 0, nat_lit 25, nat_lit 8), (nat_lit 0, nat_lit 26, nat_lit 9), (nat_lit 0, nat_lit 27, nat_lit 10), (nat_lit 0, nat_lit 28, nat_lit 11), (nat_lit 0, nat_lit 29, nat_lit 12), (nat_lit 0, nat_lit 30, nat_lit 13), (nat_lit 0, nat_lit 31, nat_lit 14), (nat_lit 0, nat_lit 32, nat_lit 15), (nat_lit 0, nat_lit 33, nat_lit 16), (nat_lit 0, nat_lit 34, nat_lit 17), (nat_lit 0, nat_lit 35, nat_lit 18), (nat_lit 0, nat_lit 36, nat_lit 19), (nat_lit 0, nat_lit 37, nat_lit 20), (nat_lit 0, nat_lit 38, nat_lit 21), (nat_lit 0, nat_lit 39, nat_lit 22), (nat_lit 0, nat_lit 40, nat_lit 23), (nat_lit 0, nat_lit 47, nat_lit 24), (nat_lit 0, nat_lit 48, nat_lit 25), (nat_lit 0, nat_lit 50, nat_lit 26), (nat_lit 0, nat_lit 51, nat_lit 27), (nat_lit 0, nat_lit 52, nat_lit 28), (nat_lit 0, nat_lit 53, nat_lit 29), (nat_lit 0, nat_lit 54, nat_lit 30), (nat_lit 0, nat_lit 55, nat_lit 31), (nat_lit 0, nat_lit 56, nat_lit 32), (nat_lit 0, nat_lit 57, nat_lit 33), (nat_lit 0, nat_lit 58, nat_lit 34), (nat_lit 0, nat_lit 59, nat_lit 35), (nat_lit 0, nat_lit 72, nat_lit 36), (nat_lit 0, nat_lit 73, nat_lit 37), (nat_lit 0, nat_lit 76, nat_lit 38), (nat_lit 0, nat_lit 77, nat_lit 39), (nat_lit 0, nat_lit 79, nat_lit 40), (nat_lit 0, nat_lit 81, nat_lit 41), (nat_lit 0, nat_lit 82, nat_lit 42)], [])]) (cu := zUle_signs) (cs := [(nat_lit 0, zPle_isSign, zOle_isSign, zMle_isSign), (nat_lit 1, zPle_wrong, zOle_wrong, zMle_wrong), (nat_lit 2, zPle_token, zOle_token, zMle_token), (nat_lit 3, zPle_isKey, zOle_isKey, zMle_isKey), (nat_lit 4, zPle_isCounted, zOle_isCounted, zMle_isCounted), (nat_lit 5, zPle_waitsFor, zOle_waitsFor, zMle_waitsFor), (nat_lit 6, zPle_rank, zOle_rank, zMle_rank), (nat_lit 7, zPle_bind, zOle_bind, zMle_bind)]) (iv := zVle_signs) (po := [zOle_signs]) (pr := zPle_signs) (mods := zMle_signs) (D7 := zDle_signs) (D0 := zEle_signs) (Dm := zFle_signs) (f0 := 30) pCle_signs qCle_signs iCle_signs pPle_signs (fun xs η _ y η' => pQle_signs xs η y η') zX_low pr_mtR rfl (List.forall_mem_cons.mpr ⟨zle_isSign, List.forall_mem_cons.mpr ⟨zle_wrong, List.forall_mem_cons.mpr ⟨zle_token, List.forall_mem_cons.mpr ⟨zle_isKey, List.forall_mem_cons.mpr ⟨zle_isCounted, List.forall_mem_cons.mpr ⟨zle_waitsFor, List.forall_mem_cons.mpr ⟨zle_rank, List.forall_mem_cons.mpr ⟨zle_bind, fun _ h => nomatch h⟩⟩⟩⟩⟩⟩⟩⟩) (by decide +kernel) (by decide +kernel) (by decide +kernel)
    (by
      intro xs η hr hl hp hpp
      match xs, hl, hp, hpp with
      | [], _, hp, hpp =>
        refine List.forall_mem_cons.mpr ⟨?_, List.forall_mem_cons.mpr ⟨?_, List.forall_mem_cons.mpr ⟨?_, List.forall_mem_cons.mpr ⟨?_, List.forall_mem_cons.mpr ⟨?_, List.forall_mem_cons.mpr ⟨?_, fun _ h => nomatch h⟩⟩⟩⟩⟩⟩
        · exact zle_signs_o0 (ro := ro)  η hp hpp
        · exact zle_signs_o1 (ro := ro)  η hp hpp
        · exact zle_signs_o2 (ro := ro)  η hp hpp
        · exact zle_signs_o3 (ro := ro)  η hp hpp
        · exact zle_signs_o4 (ro := ro)  η hp hpp
        · exact zle_signs_o5 (ro := ro)  η hp hpp
      )
    (fun _ _ _ _ _ _ _ h => nomatch h)
    (List.forall_mem_cons.mpr ⟨⟨zDle_signs_0, zEle_signs_0, zFle_signs_0, 36, by decide +kernel, (by
      intro xs η0 hlx hp hpp ys η hr hl hI hig
      match ys, hl, hI, hig with
      | [], _, hI, hig =>
        refine ⟨?_, ?_⟩
        · refine List.forall_mem_cons.mpr ⟨?_, List.forall_mem_cons.mpr ⟨?_, List.forall_mem_cons.mpr ⟨?_, List.forall_mem_cons.mpr ⟨?_, List.forall_mem_cons.mpr ⟨?_, List.forall_mem_cons.mpr ⟨?_, List.forall_mem_cons.mpr ⟨?_, List.forall_mem_cons.mpr ⟨?_, List.forall_mem_cons.mpr ⟨?_, List.forall_mem_cons.mpr ⟨?_, List.forall_mem_cons.mpr ⟨?_, List.forall_mem_cons.mpr ⟨?_, List.forall_mem_cons.mpr ⟨?_, fun _ h => nomatch h⟩⟩⟩⟩⟩⟩⟩⟩⟩⟩⟩⟩⟩
          · exact zle_signs_o6 (ro := ro) xs η0 hp hpp  η hI hig
          · exact zle_signs_o7 (ro := ro) xs η0 hp hpp  η hI hig
          · exact zle_signs_o8 (ro := ro) xs η0 hp hpp  η hI hig
          · exact zle_signs_o9 (ro := ro) xs η0 hp hpp  η hI hig
          · exact zle_signs_o10 (ro := ro) xs η0 hp hpp  η hI hig
          · exact zle_signs_o11 (ro := ro) xs η0 hp hpp  η hI hig
          · exact zle_signs_o12 (ro := ro) xs η0 hp hpp  η hI hig
          · exact zle_signs_o13 (ro := ro) xs η0 hp hpp  η hI hig
          · exact zle_signs_o14 (ro := ro) xs η0 hp hpp  η hI hig
          · exact zle_signs_o15 (ro := ro) xs η0 hp hpp  η hI hig
          · exact zle_signs_o16 (ro := ro) xs η0 hp hpp  η hI hig
          · exact zle_signs_o17 (ro := ro) xs η0 hp hpp  η hI hig
          · exact zle_signs_o18 (ro := ro) xs η0 hp hpp  η hI hig
        · refine List.forall_mem_cons.mpr ⟨?_, fun _ h => nomatch h⟩
          · exact zle_signs_o19 (ro := ro) xs η0 hp hpp  η hI hig
      )⟩, (List.forall_mem_cons.mpr ⟨⟨zDle_signs_1, zEle_signs_1, zFle_signs_1, 15, by decide +kernel, (by
      intro xs η0 hlx hp hpp ys η hr hl hI hig
      match ys, hl, hI, hig with
      | [x1], _, hI, hig =>
        refine ⟨?_, ?_⟩
        · refine List.forall_mem_cons.mpr ⟨?_, List.forall_mem_cons.mpr ⟨?_, List.forall_mem_cons.mpr ⟨?_, List.forall_mem_cons.mpr ⟨?_, List.forall_mem_cons.mpr ⟨?_, fun _ h => nomatch h⟩⟩⟩⟩⟩
          · exact zle_signs_o20 (ro := ro) xs η0 hp hpp x1 η hI hig
          · exact zle_signs_o21 (ro := ro) xs η0 hp hpp x1 η hI hig
          · exact zle_signs_o22 (ro := ro) xs η0 hp hpp x1 η hI hig
          · exact zle_signs_o23 (ro := ro) xs η0 hp hpp x1 η hI hig
          · exact zle_signs_o24 (ro := ro) xs η0 hp hpp x1 η hI hig
        · refine List.forall_mem_cons.mpr ⟨?_, List.forall_mem_cons.mpr ⟨?_, List.forall_mem_cons.mpr ⟨?_, fun _ h => nomatch h⟩⟩⟩
          · exact zle_signs_o25 (ro := ro) xs η0 hp hpp x1 η hI hig
          · exact zle_signs_o26 (ro := ro) xs η0 hp hpp x1 η hI hig
          · exact zle_signs_o27 (ro := ro) xs η0 hp hpp x1 η hI hig
      )⟩, (List.forall_mem_cons.mpr ⟨⟨zDle_signs_2, zEle_signs_2, zFle_signs_2, 25, by decide +kernel, (by
      intro xs η0 hlx hp hpp ys η hr hl hI hig
      match ys, hl, hI, hig with
      | [x1], _, hI, hig =>
        refine ⟨?_, ?_⟩
        · refine List.forall_mem_cons.mpr ⟨?_, List.forall_mem_cons.mpr ⟨?_, List.forall_mem_cons.mpr ⟨?_, List.forall_mem_cons.mpr ⟨?_, List.forall_mem_cons.mpr ⟨?_, List.forall_mem_cons.mpr ⟨?_, List.forall_mem_cons.mpr ⟨?_, fun _ h => nomatch h⟩⟩⟩⟩⟩⟩⟩
          · exact zle_signs_o28 (ro := ro) xs η0 hp hpp x1 η hI hig
          · exact zle_signs_o29 (ro := ro) xs η0 hp hpp x1 η hI hig
          · exact zle_signs_o30 (ro := ro) xs η0 hp hpp x1 η hI hig
          · exact zle_signs_o31 (ro := ro) xs η0 hp hpp x1 η hI hig
          · exact zle_signs_o32 (ro := ro) xs η0 hp hpp x1 η hI hig
          · exact zle_signs_o33 (ro := ro) xs η0 hp hpp x1 η hI hig
          · exact zle_signs_o34 (ro := ro) xs η0 hp hpp x1 η hI hig
        · refine List.forall_mem_cons.mpr ⟨?_, fun _ h => nomatch h⟩
          · exact zle_signs_o35 (ro := ro) xs η0 hp hpp x1 η hI hig
      )⟩, (List.forall_mem_cons.mpr ⟨⟨zDle_signs_3, zEle_signs_3, zFle_signs_3, 25, by decide +kernel, (by
      intro xs η0 hlx hp hpp ys η hr hl hI hig
      match ys, hl, hI, hig with
      | [x1], _, hI, hig =>
        refine ⟨?_, ?_⟩
        · refine List.forall_mem_cons.mpr ⟨?_, List.forall_mem_cons.mpr ⟨?_, List.forall_mem_cons.mpr ⟨?_, List.forall_mem_cons.mpr ⟨?_, List.forall_mem_cons.mpr ⟨?_, List.forall_mem_cons.mpr ⟨?_, List.forall_mem_cons.mpr ⟨?_, List.forall_mem_cons.mpr ⟨?_, fun _ h => nomatch h⟩⟩⟩⟩⟩⟩⟩⟩
          · exact zle_signs_o36 (ro := ro) xs η0 hp hpp x1 η hI hig
          · exact zle_signs_o37 (ro := ro) xs η0 hp hpp x1 η hI hig
          · exact zle_signs_o38 (ro := ro) xs η0 hp hpp x1 η hI hig
          · exact zle_signs_o39 (ro := ro) xs η0 hp hpp x1 η hI hig
          · exact zle_signs_o40 (ro := ro) xs η0 hp hpp x1 η hI hig
          · exact zle_signs_o41 (ro := ro) xs η0 hp hpp x1 η hI hig
          · exact zle_signs_o42 (ro := ro) xs η0 hp hpp x1 η hI hig
          · exact zle_signs_o43 (ro := ro) xs η0 hp hpp x1 η hI hig
        · exact fun _ h => nomatch h
      )⟩, (fun _ h => nomatch h)⟩)⟩)⟩)⟩))
def zPle_sumRead : zPq := ([], [])
def zOle_sumRead : zPo := (((.ofNat (nat_lit 0)), (.ofNat (nat_lit 1))), [], [])
def zMle_sumRead : List zCe := [(nat_lit 0, nat_lit 44), (nat_lit 0, nat_lit 45), (nat_lit 0, nat_lit 42), (nat_lit 0, nat_lit 47), (nat_lit 0, nat_lit 46), (nat_lit 0, nat_lit 43), (nat_lit 0, nat_lit 20), (nat_lit 0, nat_lit 8), (nat_lit 0, nat_lit 9), (nat_lit 0, nat_lit 10), (nat_lit 0, nat_lit 11), (nat_lit 0, nat_lit 5), (nat_lit 0, nat_lit 6), (nat_lit 22, nat_lit 0), (nat_lit 19, nat_lit 0), (nat_lit 20, nat_lit 0), (nat_lit 21, nat_lit 0), (nat_lit 23, nat_lit 0)]
def pPle_sumRead : List Int → zE → Prop := fun _ η => G0_l η ∧ η 0 19 = η 0 44
def oQle_sumRead : List Int → zE → Int → zE → Prop := fun _ η y η' => G0_l η' ∧ (¬ y = 0 → η' 0 19 = η' 0 44 ∧ 1 ≤ η' 0 19 ∧ 10 * (η' 0 6 - η' 0 7) + η' 0 8 ≤ 10 * (η 0 6 - η 0 7) + η 0 8)
def fQle_sumRead : List Int → zE → Int → zE → Prop := fun xs η y η' => y = (yq_sum η).1 ∧ η' = (yq_sum η).2
def pQle_sumRead : List Int → zE → Int → zE → Prop := fun xs η y η' => oQle_sumRead xs η y η' ∧ fQle_sumRead xs η y η'
def pCle_sumRead : Nat → List Int → zE → Prop := fun c => match c with
  | 0 => pPle_isSign
  | 1 => pPle_leafRead
  | 2 => pPle_signs
  | 3 => pPle_bind
  | _ => fun _ _ => True
def qCle_sumRead : Nat → List Int → zE → Int → zE → Prop := fun c => match c with
  | 0 => pQle_isSign
  | 1 => pQle_leafRead
  | 2 => pQle_signs
  | 3 => pQle_bind
  | _ => fun _ _ _ _ => True
def iCle_sumRead : List Int → zE → Nat → List Int → zE → Prop := fun xs η0 c => match c with
  | 0 => fun ys η => (G_l η ∧ (η 0 45 = 0 → 1 ≤ η 0 19) ∧ 10 * (η 0 6 - η 0 7) + η 0 8 ≤ 10 * (η0 0 6 - η0 0 7) + η0 0 8) ∧ (yq_lI η0 η)
  | _ => fun _ _ => True
def zVle_sumRead : List zIv := [(nat_lit 0, ([], []), ((.ofNat (nat_lit 0)), [((.ofNat (nat_lit 10)), nat_lit 1, nat_lit 0, nat_lit 6), ((.negSucc (nat_lit 9)), nat_lit 1, nat_lit 0, nat_lit 7), ((.ofNat (nat_lit 1)), nat_lit 1, nat_lit 0, nat_lit 8)]))]
def zUle_sumRead : List zCu := [(nat_lit 25, nat_lit 0, [(nat_lit 0, (.inr (.inr (.inl (nat_lit 0)))))], [])]
def zDle_sumRead : List (List zK) := [[(nat_lit 7, nat_lit 2, [(nat_lit 0, (.ofNat (nat_lit 1)))]), (nat_lit 5, nat_lit 0, [(nat_lit 0, (.ofNat (nat_lit 0))), (nat_lit 0, (.ofNat (nat_lit 43))), (nat_lit 0, (.ofNat (nat_lit 0)))]), (nat_lit 5, nat_lit 0, [(nat_lit 0, (.ofNat (nat_lit 0))), (nat_lit 0, (.ofNat (nat_lit 42))), (nat_lit 0, (.ofNat (nat_lit 0)))]), (nat_lit 5, nat_lit 0, [(nat_lit 0, (.ofNat (nat_lit 0))), (nat_lit 0, (.ofNat (nat_lit 41))), (nat_lit 0, (.ofNat (nat_lit 0)))])],
  [(nat_lit 7, nat_lit 2, [(nat_lit 0, (.ofNat (nat_lit 1)))]), (nat_lit 5, nat_lit 1, [(nat_lit 0, (.ofNat (nat_lit 0))), (nat_lit 0, (.ofNat (nat_lit 45))), (nat_lit 0, (.ofNat (nat_lit 1)))]), (nat_lit 5, nat_lit 0, [(nat_lit 0, (.ofNat (nat_lit 0))), (nat_lit 0, (.ofNat (nat_lit 43))), (nat_lit 0, (.ofNat (nat_lit 0)))]), (nat_lit 5, nat_lit 0, [(nat_lit 0, (.ofNat (nat_lit 0))), (nat_lit 0, (.ofNat (nat_lit 42))), (nat_lit 0, (.ofNat (nat_lit 0)))]), (nat_lit 5, nat_lit 0, [(nat_lit 0, (.ofNat (nat_lit 0))), (nat_lit 0, (.ofNat (nat_lit 41))), (nat_lit 0, (.ofNat (nat_lit 0)))])]]
def zEle_sumRead : List (List zK) := [[(nat_lit 12, nat_lit 0, []), (nat_lit 5, nat_lit 1, [(nat_lit 0, (.ofNat (nat_lit 0))), (nat_lit 0, (.ofNat (nat_lit 46))), (nat_lit 0, (.ofNat (nat_lit 1)))]), (nat_lit 5, nat_lit 1, [(nat_lit 0, (.ofNat (nat_lit 0))), (nat_lit 0, (.ofNat (nat_lit 45))), (nat_lit 0, (.ofNat (nat_lit 1)))]), (nat_lit 5, nat_lit 0, [(nat_lit 0, (.ofNat (nat_lit 0))), (nat_lit 0, (.ofNat (nat_lit 43))), (nat_lit 0, (.ofNat (nat_lit 0)))]), (nat_lit 5, nat_lit 0, [(nat_lit 0, (.ofNat (nat_lit 0))), (nat_lit 0, (.ofNat (nat_lit 42))), (nat_lit 0, (.ofNat (nat_lit 0)))]), (nat_lit 5, nat_lit 0, [(nat_lit 0, (.ofNat (nat_lit 0))), (nat_lit 0, (.ofNat (nat_lit 41))), (nat_lit 0, (.ofNat (nat_lit 0)))])]]
def zFle_sumRead : List (List zK) := []
def zDle_sumRead_0 : List (List zK) := [[(nat_lit 7, nat_lit 2, [(nat_lit 0, (.ofNat (nat_lit 0)))]), (nat_lit 6, nat_lit 0, [(nat_lit 3, (.ofNat (nat_lit 0))), (nat_lit 0, (.ofNat (nat_lit 0)))]), (nat_lit 8, nat_lit 2, []), (nat_lit 6, nat_lit 0, [(nat_lit 2, (.ofNat (nat_lit 0))), (nat_lit 0, (.ofNat (nat_lit 0)))]), (nat_lit 4, nat_lit 1, [(nat_lit 0, (.ofNat (nat_lit 0))), (nat_lit 0, (.ofNat (nat_lit 45)))]), (nat_lit 6, nat_lit 0, [(nat_lit 1, (.ofNat (nat_lit 0))), (nat_lit 0, (.ofNat (nat_lit 0)))]), (nat_lit 8, nat_lit 0, [(nat_lit 0, (.ofNat (nat_lit 59)))])],
  [(nat_lit 7, nat_lit 2, [(nat_lit 0, (.ofNat (nat_lit 0)))]), (nat_lit 6, nat_lit 0, [(nat_lit 3, (.ofNat (nat_lit 0))), (nat_lit 0, (.ofNat (nat_lit 0)))]), (nat_lit 8, nat_lit 1, []), (nat_lit 6, nat_lit 1, [(nat_lit 2, (.ofNat (nat_lit 0))), (nat_lit 0, (.ofNat (nat_lit 0)))]), (nat_lit 4, nat_lit 1, [(nat_lit 0, (.ofNat (nat_lit 0))), (nat_lit 0, (.ofNat (nat_lit 45)))]), (nat_lit 6, nat_lit 0, [(nat_lit 1, (.ofNat (nat_lit 0))), (nat_lit 0, (.ofNat (nat_lit 0)))]), (nat_lit 8, nat_lit 0, [(nat_lit 0, (.ofNat (nat_lit 59)))])],
  [(nat_lit 7, nat_lit 3, []), (nat_lit 6, nat_lit 0, [(nat_lit 3, (.ofNat (nat_lit 0))), (nat_lit 0, (.ofNat (nat_lit 0)))]), (nat_lit 4, nat_lit 1, [(nat_lit 0, (.ofNat (nat_lit 0))), (nat_lit 0, (.ofNat (nat_lit 45)))]), (nat_lit 6, nat_lit 1, [(nat_lit 2, (.ofNat (nat_lit 0))), (nat_lit 0, (.ofNat (nat_lit 0)))]), (nat_lit 4, nat_lit 1, [(nat_lit 0, (.ofNat (nat_lit 0))), (nat_lit 0, (.ofNat (nat_lit 45)))]), (nat_lit 6, nat_lit 1, [(nat_lit 1, (.ofNat (nat_lit 0))), (nat_lit 0, (.ofNat (nat_lit 0)))]), (nat_lit 8, nat_lit 0, [(nat_lit 0, (.ofNat (nat_lit 59)))])],
  [(nat_lit 7, nat_lit 2, [(nat_lit 0, (.ofNat (nat_lit 0)))]), (nat_lit 6, nat_lit 0, [(nat_lit 4, (.ofNat (nat_lit 0))), (nat_lit 0, (.ofNat (nat_lit 0)))]), (nat_lit 8, nat_lit 1, []), (nat_lit 6, nat_lit 1, [(nat_lit 3, (.ofNat (nat_lit 0))), (nat_lit 0, (.ofNat (nat_lit 0)))]), (nat_lit 4, nat_lit 1, [(nat_lit 0, (.ofNat (nat_lit 0))), (nat_lit 0, (.ofNat (nat_lit 45)))]), (nat_lit 6, nat_lit 1, [(nat_lit 2, (.ofNat (nat_lit 0))), (nat_lit 0, (.ofNat (nat_lit 0)))]), (nat_lit 4, nat_lit 1, [(nat_lit 0, (.ofNat (nat_lit 0))), (nat_lit 0, (.ofNat (nat_lit 45)))]), (nat_lit 6, nat_lit 1, [(nat_lit 1, (.ofNat (nat_lit 0))), (nat_lit 0, (.ofNat (nat_lit 0)))]), (nat_lit 8, nat_lit 0, [(nat_lit 0, (.ofNat (nat_lit 59)))])],
  [(nat_lit 7, nat_lit 2, [(nat_lit 0, (.ofNat (nat_lit 1)))]), (nat_lit 8, nat_lit 3, [(nat_lit 0, (.ofNat (nat_lit 1)))]), (nat_lit 6, nat_lit 5, [(nat_lit 3, (.ofNat (nat_lit 0))), (nat_lit 0, (.ofNat (nat_lit 0)))]), (nat_lit 4, nat_lit 0, [(nat_lit 0, (.ofNat (nat_lit 0))), (nat_lit 0, (.ofNat (nat_lit 43)))]), (nat_lit 6, nat_lit 0, [(nat_lit 2, (.ofNat (nat_lit 0))), (nat_lit 0, (.ofNat (nat_lit 0)))]), (nat_lit 4, nat_lit 1, [(nat_lit 0, (.ofNat (nat_lit 0))), (nat_lit 0, (.ofNat (nat_lit 45)))]), (nat_lit 6, nat_lit 1, [(nat_lit 1, (.ofNat (nat_lit 0))), (nat_lit 0, (.ofNat (nat_lit 0)))]), (nat_lit 8, nat_lit 0, [(nat_lit 0, (.ofNat (nat_lit 59)))])],
  [(nat_lit 7, nat_lit 2, [(nat_lit 0, (.ofNat (nat_lit 0)))]), (nat_lit 6, nat_lit 0, [(nat_lit 5, (.ofNat (nat_lit 0))), (nat_lit 0, (.ofNat (nat_lit 0)))]), (nat_lit 8, nat_lit 2, []), (nat_lit 6, nat_lit 0, [(nat_lit 4, (.ofNat (nat_lit 0))), (nat_lit 0, (.ofNat (nat_lit 0)))]), (nat_lit 4, nat_lit 1, [(nat_lit 0, (.ofNat (nat_lit 0))), (nat_lit 0, (.ofNat (nat_lit 45)))]), (nat_lit 6, nat_lit 4, [(nat_lit 3, (.ofNat (nat_lit 0))), (nat_lit 0, (.ofNat (nat_lit 0)))]), (nat_lit 4, nat_lit 0, [(nat_lit 0, (.ofNat (nat_lit 0))), (nat_lit 0, (.ofNat (nat_lit 43)))]), (nat_lit 6, nat_lit 0, [(nat_lit 2, (.ofNat (nat_lit 0))), (nat_lit 0, (.ofNat (nat_lit 0)))]), (nat_lit 4, nat_lit 1, [(nat_lit 0, (.ofNat (nat_lit 0))), (nat_lit 0, (.ofNat (nat_lit 45)))]), (nat_lit 6, nat_lit 1, [(nat_lit 1, (.ofNat (nat_lit 0))), (nat_lit 0, (.ofNat (nat_lit 0)))]), (nat_lit 8, nat_lit 0, [(nat_lit 0, (.ofNat (nat_lit 59)))])],
  [(nat_lit 7, nat_lit 3, []), (nat_lit 6, nat_lit 1, [(nat_lit 4, (.ofNat (nat_lit 0))), (nat_lit 0, (.ofNat (nat_lit 0)))]), (nat_lit 4, nat_lit 1, [(nat_lit 0, (.ofNat (nat_lit 0))), (nat_lit 0, (.ofNat (nat_lit 45)))]), (nat_lit 6, nat_lit 4, [(nat_lit 3, (.ofNat (nat_lit 0))), (nat_lit 0, (.ofNat (nat_lit 0)))]), (nat_lit 4, nat_lit 0, [(nat_lit 0, (.ofNat (nat_lit 0))), (nat_lit 0, (.ofNat (nat_lit 43)))]), (nat_lit 6, nat_lit 0, [(nat_lit 2, (.ofNat (nat_lit 0))), (nat_lit 0, (.ofNat (nat_lit 0)))]), (nat_lit 4, nat_lit 1, [(nat_lit 0, (.ofNat (nat_lit 0))), (nat_lit 0, (.ofNat (nat_lit 45)))]), (nat_lit 6, nat_lit 1, [(nat_lit 1, (.ofNat (nat_lit 0))), (nat_lit 0, (.ofNat (nat_lit 0)))]), (nat_lit 8, nat_lit 0, [(nat_lit 0, (.ofNat (nat_lit 59)))])]]
def zEle_sumRead_0 : List (List zK) := [[(nat_lit 13, nat_lit 0, [(nat_lit 0, (.ofNat (nat_lit 59)))])],
  [(nat_lit 13, nat_lit 2, []), (nat_lit 6, nat_lit 0, [(nat_lit 2, (.ofNat (nat_lit 0))), (nat_lit 0, (.ofNat (nat_lit 0)))]), (nat_lit 4, nat_lit 1, [(nat_lit 0, (.ofNat (nat_lit 0))), (nat_lit 0, (.ofNat (nat_lit 45)))]), (nat_lit 6, nat_lit 0, [(nat_lit 1, (.ofNat (nat_lit 0))), (nat_lit 0, (.ofNat (nat_lit 0)))]), (nat_lit 8, nat_lit 0, [(nat_lit 0, (.ofNat (nat_lit 59)))])],
  [(nat_lit 11, nat_lit 0, [(nat_lit 0, (.ofNat (nat_lit 0)))]), (nat_lit 6, nat_lit 0, [(nat_lit 3, (.ofNat (nat_lit 0))), (nat_lit 0, (.ofNat (nat_lit 0)))]), (nat_lit 8, nat_lit 2, []), (nat_lit 6, nat_lit 0, [(nat_lit 2, (.ofNat (nat_lit 0))), (nat_lit 0, (.ofNat (nat_lit 0)))]), (nat_lit 4, nat_lit 1, [(nat_lit 0, (.ofNat (nat_lit 0))), (nat_lit 0, (.ofNat (nat_lit 45)))]), (nat_lit 6, nat_lit 0, [(nat_lit 1, (.ofNat (nat_lit 0))), (nat_lit 0, (.ofNat (nat_lit 0)))]), (nat_lit 8, nat_lit 0, [(nat_lit 0, (.ofNat (nat_lit 59)))])],
  [(nat_lit 13, nat_lit 1, []), (nat_lit 6, nat_lit 1, [(nat_lit 2, (.ofNat (nat_lit 0))), (nat_lit 0, (.ofNat (nat_lit 0)))]), (nat_lit 4, nat_lit 1, [(nat_lit 0, (.ofNat (nat_lit 0))), (nat_lit 0, (.ofNat (nat_lit 45)))]), (nat_lit 6, nat_lit 0, [(nat_lit 1, (.ofNat (nat_lit 0))), (nat_lit 0, (.ofNat (nat_lit 0)))]), (nat_lit 8, nat_lit 0, [(nat_lit 0, (.ofNat (nat_lit 59)))])],
  [(nat_lit 11, nat_lit 0, [(nat_lit 0, (.ofNat (nat_lit 0)))]), (nat_lit 6, nat_lit 0, [(nat_lit 3, (.ofNat (nat_lit 0))), (nat_lit 0, (.ofNat (nat_lit 0)))]), (nat_lit 8, nat_lit 1, []), (nat_lit 6, nat_lit 1, [(nat_lit 2, (.ofNat (nat_lit 0))), (nat_lit 0, (.ofNat (nat_lit 0)))]), (nat_lit 4, nat_lit 1, [(nat_lit 0, (.ofNat (nat_lit 0))), (nat_lit 0, (.ofNat (nat_lit 45)))]), (nat_lit 6, nat_lit 0, [(nat_lit 1, (.ofNat (nat_lit 0))), (nat_lit 0, (.ofNat (nat_lit 0)))]), (nat_lit 8, nat_lit 0, [(nat_lit 0, (.ofNat (nat_lit 59)))])],
  [(nat_lit 13, nat_lit 1, []), (nat_lit 6, nat_lit 1, [(nat_lit 3, (.ofNat (nat_lit 0))), (nat_lit 0, (.ofNat (nat_lit 0)))]), (nat_lit 4, nat_lit 1, [(nat_lit 0, (.ofNat (nat_lit 0))), (nat_lit 0, (.ofNat (nat_lit 45)))]), (nat_lit 6, nat_lit 1, [(nat_lit 2, (.ofNat (nat_lit 0))), (nat_lit 0, (.ofNat (nat_lit 0)))]), (nat_lit 4, nat_lit 1, [(nat_lit 0, (.ofNat (nat_lit 0))), (nat_lit 0, (.ofNat (nat_lit 45)))]), (nat_lit 6, nat_lit 1, [(nat_lit 1, (.ofNat (nat_lit 0))), (nat_lit 0, (.ofNat (nat_lit 0)))]), (nat_lit 8, nat_lit 0, [(nat_lit 0, (.ofNat (nat_lit 59)))])],
  [(nat_lit 11, nat_lit 0, [(nat_lit 0, (.ofNat (nat_lit 0)))]), (nat_lit 6, nat_lit 0, [(nat_lit 4, (.ofNat (nat_lit 0))), (nat_lit 0, (.ofNat (nat_lit 0)))]), (nat_lit 8, nat_lit 1, []), (nat_lit 6, nat_lit 1, [(nat_lit 3, (.ofNat (nat_lit 0))), (nat_lit 0, (.ofNat (nat_lit 0)))]), (nat_lit 4, nat_lit 1, [(nat_lit 0, (.ofNat (nat_lit 0))), (nat_lit 0, (.ofNat (nat_lit 45)))]), (nat_lit 6, nat_lit 1, [(nat_lit 2, (.ofNat (nat_lit 0))), (nat_lit 0, (.ofNat (nat_lit 0)))]), (nat_lit 4, nat_lit 1, [(nat_lit 0, (.ofNat (nat_lit 0))), (nat_lit 0, (.ofNat (nat_lit 45)))]), (nat_lit 6, nat_lit 1, [(nat_lit 1, (.ofNat (nat_lit 0))), (nat_lit 0, (.ofNat (nat_lit 0)))]), (nat_lit 8, nat_lit 0, [(nat_lit 0, (.ofNat (nat_lit 59)))])],
  [(nat_lit 13, nat_lit 3, [(nat_lit 0, (.ofNat (nat_lit 1)))]), (nat_lit 6, nat_lit 5, [(nat_lit 3, (.ofNat (nat_lit 0))), (nat_lit 0, (.ofNat (nat_lit 0)))]), (nat_lit 4, nat_lit 0, [(nat_lit 0, (.ofNat (nat_lit 0))), (nat_lit 0, (.ofNat (nat_lit 43)))]), (nat_lit 6, nat_lit 0, [(nat_lit 2, (.ofNat (nat_lit 0))), (nat_lit 0, (.ofNat (nat_lit 0)))]), (nat_lit 4, nat_lit 1, [(nat_lit 0, (.ofNat (nat_lit 0))), (nat_lit 0, (.ofNat (nat_lit 45)))]), (nat_lit 6, nat_lit 1, [(nat_lit 1, (.ofNat (nat_lit 0))), (nat_lit 0, (.ofNat (nat_lit 0)))]), (nat_lit 8, nat_lit 0, [(nat_lit 0, (.ofNat (nat_lit 59)))])],
  [(nat_lit 11, nat_lit 0, [(nat_lit 0, (.ofNat (nat_lit 1)))]), (nat_lit 8, nat_lit 3, [(nat_lit 0, (.ofNat (nat_lit 1)))]), (nat_lit 6, nat_lit 5, [(nat_lit 3, (.ofNat (nat_lit 0))), (nat_lit 0, (.ofNat (nat_lit 0)))]), (nat_lit 4, nat_lit 0, [(nat_lit 0, (.ofNat (nat_lit 0))), (nat_lit 0, (.ofNat (nat_lit 43)))]), (nat_lit 6, nat_lit 0, [(nat_lit 2, (.ofNat (nat_lit 0))), (nat_lit 0, (.ofNat (nat_lit 0)))]), (nat_lit 4, nat_lit 1, [(nat_lit 0, (.ofNat (nat_lit 0))), (nat_lit 0, (.ofNat (nat_lit 45)))]), (nat_lit 6, nat_lit 1, [(nat_lit 1, (.ofNat (nat_lit 0))), (nat_lit 0, (.ofNat (nat_lit 0)))]), (nat_lit 8, nat_lit 0, [(nat_lit 0, (.ofNat (nat_lit 59)))])],
  [(nat_lit 13, nat_lit 2, []), (nat_lit 6, nat_lit 0, [(nat_lit 4, (.ofNat (nat_lit 0))), (nat_lit 0, (.ofNat (nat_lit 0)))]), (nat_lit 4, nat_lit 1, [(nat_lit 0, (.ofNat (nat_lit 0))), (nat_lit 0, (.ofNat (nat_lit 45)))]), (nat_lit 6, nat_lit 4, [(nat_lit 3, (.ofNat (nat_lit 0))), (nat_lit 0, (.ofNat (nat_lit 0)))]), (nat_lit 4, nat_lit 0, [(nat_lit 0, (.ofNat (nat_lit 0))), (nat_lit 0, (.ofNat (nat_lit 43)))]), (nat_lit 6, nat_lit 0, [(nat_lit 2, (.ofNat (nat_lit 0))), (nat_lit 0, (.ofNat (nat_lit 0)))]), (nat_lit 4, nat_lit 1, [(nat_lit 0, (.ofNat (nat_lit 0))), (nat_lit 0, (.ofNat (nat_lit 45)))]), (nat_lit 6, nat_lit 1, [(nat_lit 1, (.ofNat (nat_lit 0))), (nat_lit 0, (.ofNat (nat_lit 0)))]), (nat_lit 8, nat_lit 0, [(nat_lit 0, (.ofNat (nat_lit 59)))])],
  [(nat_lit 11, nat_lit 0, [(nat_lit 0, (.ofNat (nat_lit 0)))]), (nat_lit 6, nat_lit 0, [(nat_lit 5, (.ofNat (nat_lit 0))), (nat_lit 0, (.ofNat (nat_lit 0)))]), (nat_lit 8, nat_lit 2, []), (nat_lit 6, nat_lit 0, [(nat_lit 4, (.ofNat (nat_lit 0))), (nat_lit 0, (.ofNat (nat_lit 0)))]), (nat_lit 4, nat_lit 1, [(nat_lit 0, (.ofNat (nat_lit 0))), (nat_lit 0, (.ofNat (nat_lit 45)))]), (nat_lit 6, nat_lit 4, [(nat_lit 3, (.ofNat (nat_lit 0))), (nat_lit 0, (.ofNat (nat_lit 0)))]), (nat_lit 4, nat_lit 0, [(nat_lit 0, (.ofNat (nat_lit 0))), (nat_lit 0, (.ofNat (nat_lit 43)))]), (nat_lit 6, nat_lit 0, [(nat_lit 2, (.ofNat (nat_lit 0))), (nat_lit 0, (.ofNat (nat_lit 0)))]), (nat_lit 4, nat_lit 1, [(nat_lit 0, (.ofNat (nat_lit 0))), (nat_lit 0, (.ofNat (nat_lit 45)))]), (nat_lit 6, nat_lit 1, [(nat_lit 1, (.ofNat (nat_lit 0))), (nat_lit 0, (.ofNat (nat_lit 0)))]), (nat_lit 8, nat_lit 0, [(nat_lit 0, (.ofNat (nat_lit 59)))])]]
def zFle_sumRead_0 : List (List zK) := [[(nat_lit 10, nat_lit 0, []), (nat_lit 6, nat_lit 1, [(nat_lit 3, (.ofNat (nat_lit 0))), (nat_lit 0, (.ofNat (nat_lit 0)))]), (nat_lit 8, nat_lit 2, []), (nat_lit 6, nat_lit 0, [(nat_lit 2, (.ofNat (nat_lit 0))), (nat_lit 0, (.ofNat (nat_lit 0)))]), (nat_lit 4, nat_lit 1, [(nat_lit 0, (.ofNat (nat_lit 0))), (nat_lit 0, (.ofNat (nat_lit 45)))]), (nat_lit 6, nat_lit 0, [(nat_lit 1, (.ofNat (nat_lit 0))), (nat_lit 0, (.ofNat (nat_lit 0)))]), (nat_lit 8, nat_lit 0, [(nat_lit 0, (.ofNat (nat_lit 59)))])],
  [(nat_lit 10, nat_lit 0, []), (nat_lit 6, nat_lit 1, [(nat_lit 3, (.ofNat (nat_lit 0))), (nat_lit 0, (.ofNat (nat_lit 0)))]), (nat_lit 8, nat_lit 1, []), (nat_lit 6, nat_lit 1, [(nat_lit 2, (.ofNat (nat_lit 0))), (nat_lit 0, (.ofNat (nat_lit 0)))]), (nat_lit 4, nat_lit 1, [(nat_lit 0, (.ofNat (nat_lit 0))), (nat_lit 0, (.ofNat (nat_lit 45)))]), (nat_lit 6, nat_lit 0, [(nat_lit 1, (.ofNat (nat_lit 0))), (nat_lit 0, (.ofNat (nat_lit 0)))]), (nat_lit 8, nat_lit 0, [(nat_lit 0, (.ofNat (nat_lit 59)))])],
  [(nat_lit 10, nat_lit 0, []), (nat_lit 6, nat_lit 1, [(nat_lit 4, (.ofNat (nat_lit 0))), (nat_lit 0, (.ofNat (nat_lit 0)))]), (nat_lit 8, nat_lit 1, []), (nat_lit 6, nat_lit 1, [(nat_lit 3, (.ofNat (nat_lit 0))), (nat_lit 0, (.ofNat (nat_lit 0)))]), (nat_lit 4, nat_lit 1, [(nat_lit 0, (.ofNat (nat_lit 0))), (nat_lit 0, (.ofNat (nat_lit 45)))]), (nat_lit 6, nat_lit 1, [(nat_lit 2, (.ofNat (nat_lit 0))), (nat_lit 0, (.ofNat (nat_lit 0)))]), (nat_lit 4, nat_lit 1, [(nat_lit 0, (.ofNat (nat_lit 0))), (nat_lit 0, (.ofNat (nat_lit 45)))]), (nat_lit 6, nat_lit 1, [(nat_lit 1, (.ofNat (nat_lit 0))), (nat_lit 0, (.ofNat (nat_lit 0)))]), (nat_lit 8, nat_lit 0, [(nat_lit 0, (.ofNat (nat_lit 59)))])],
  [(nat_lit 10, nat_lit 0, []), (nat_lit 6, nat_lit 1, [(nat_lit 5, (.ofNat (nat_lit 0))), (nat_lit 0, (.ofNat (nat_lit 0)))]), (nat_lit 8, nat_lit 2, []), (nat_lit 6, nat_lit 0, [(nat_lit 4, (.ofNat (nat_lit 0))), (nat_lit 0, (.ofNat (nat_lit 0)))]), (nat_lit 4, nat_lit 1, [(nat_lit 0, (.ofNat (nat_lit 0))), (nat_lit 0, (.ofNat (nat_lit 45)))]), (nat_lit 6, nat_lit 4, [(nat_lit 3, (.ofNat (nat_lit 0))), (nat_lit 0, (.ofNat (nat_lit 0)))]), (nat_lit 4, nat_lit 0, [(nat_lit 0, (.ofNat (nat_lit 0))), (nat_lit 0, (.ofNat (nat_lit 43)))]), (nat_lit 6, nat_lit 0, [(nat_lit 2, (.ofNat (nat_lit 0))), (nat_lit 0, (.ofNat (nat_lit 0)))]), (nat_lit 4, nat_lit 1, [(nat_lit 0, (.ofNat (nat_lit 0))), (nat_lit 0, (.ofNat (nat_lit 45)))]), (nat_lit 6, nat_lit 1, [(nat_lit 1, (.ofNat (nat_lit 0))), (nat_lit 0, (.ofNat (nat_lit 0)))]), (nat_lit 8, nat_lit 0, [(nat_lit 0, (.ofNat (nat_lit 59)))])]]
set_option maxHeartbeats 8000000 in
theorem zle_sumRead_o0 {ro : Nat → List Int32} (η : zE) (hp : sP wl_le zTr zPle_sumRead [] η) (hpp : pPle_sumRead [] η) : ∀ η1 : zE, η1 = zup η 0 (Int.toNat 41) 0 → ∀ η2 : zE, η2 = zup η1 0 (Int.toNat 42) 0 → ∀ η3 : zE, η3 = zup η2 0 (Int.toNat 43) 0 → ∀ η4 : zE, η4 = zup η3 0 (Int.toNat 45) 1 → ∀ η5 : zE, η5 = zup η4 0 (Int.toNat 46) 1 → (iCle_sumRead [] η) 0 [] η5 := by
  intro η1 eη1 η2 eη2 η3 eη3 η4 eη4 η5 eη5
  refine yj_a ?_ ?_
  · have hc : η 0 19 = η 0 44 := hpp.2
    have c0_0_41 : η 0 41 = η 0 41 := rfl
    have v2 : zEq (η1 0 42) (η 0 42) := by rw [eη1]; exact (zup_ne (fun _ e => absurd e (by decide))).trans rfl
    have c1_0_42 : η1 0 42 = η 0 42 := v2
    have w0_0_43 : (0 : Int) ≤ η 0 43 ∧ η 0 43 ≤ 8 := wf_ok (a := 43) (b := 43) (z := (0, 8)) hp.1 (by decide +kernel) (Nat.le_refl _) (Nat.le_refl _)
    have v4 : zEq (η1 0 43) (η 0 43) := by rw [eη1]; exact (zup_ne (fun _ e => absurd e (by decide))).trans rfl
    have v5 : zEq (η2 0 43) (η 0 43) := by rw [eη2]; exact (zup_ne (fun _ e => absurd e (by decide))).trans v4
    have c2_0_43 : η2 0 43 = η 0 43 := v5
    have v7 : zEq (η1 0 45) (η 0 45) := by rw [eη1]; exact (zup_ne (fun _ e => absurd e (by decide))).trans rfl
    have v8 : zEq (η2 0 45) (η 0 45) := by rw [eη2]; exact (zup_ne (fun _ e => absurd e (by decide))).trans v7
    have v9 : zEq (η3 0 45) (η 0 45) := by rw [eη3]; exact (zup_ne (fun _ e => absurd e (by decide))).trans v8
    have c3_0_45 : η3 0 45 = η 0 45 := v9
    have fm1 : zFm zMle_sumRead η η1 := by rw [eη1]; exact zFm_up zFm_rf rfl
    have fm2 : zFm zMle_sumRead η η2 := by rw [eη2]; exact zFm_up fm1 rfl
    have fm3 : zFm zMle_sumRead η η3 := by rw [eη3]; exact zFm_up fm2 rfl
    have fm4 : zFm zMle_sumRead η η4 := by rw [eη4]; exact zFm_up fm3 rfl
    have fm5 : zFm zMle_sumRead η η5 := by rw [eη5]; exact zFm_up fm4 rfl
    have fmE : zFm zMle_sumRead η η5 := fm5
    have fr22_0 : ∀ j, η 22 j = η 22 j := fun _ => rfl
    have v10 : ∀ j, η1 22 j = η 22 j := fun j => by rw [eη1]; exact zup_ne (fun e _ => absurd e (by decide))
    have fr22_1 : ∀ j, η1 22 j = η 22 j := v10
    have v11 : ∀ j, η2 22 j = η 22 j := fun j => by rw [eη2]; exact (zup_ne (fun e _ => absurd e (by decide))).trans (v10 j)
    have fr22_2 : ∀ j, η2 22 j = η 22 j := v11
    have v12 : ∀ j, η3 22 j = η 22 j := fun j => by rw [eη3]; exact (zup_ne (fun e _ => absurd e (by decide))).trans (v11 j)
    have fr22_3 : ∀ j, η3 22 j = η 22 j := v12
    have v13 : ∀ j, η4 22 j = η 22 j := fun j => by rw [eη4]; exact (zup_ne (fun e _ => absurd e (by decide))).trans (v12 j)
    have fr22_4 : ∀ j, η4 22 j = η 22 j := v13
    have v14 : ∀ j, η5 22 j = η 22 j := fun j => by rw [eη5]; exact (zup_ne (fun e _ => absurd e (by decide))).trans (v13 j)
    have fr22_5 : ∀ j, η5 22 j = η 22 j := v14
    have fr22 : ∀ j, η5 22 j = η 22 j := v14
    have v15 : zEq (η1 0 41) (0) := by rw [eη1]; exact zup_eq
    have v16 : zEq (η2 0 41) (0) := by rw [eη2]; exact (zup_ne (fun _ e => absurd e (by decide))).trans v15
    have v17 : zEq (η3 0 41) (0) := by rw [eη3]; exact (zup_ne (fun _ e => absurd e (by decide))).trans v16
    have v18 : zEq (η4 0 41) (0) := by rw [eη4]; exact (zup_ne (fun _ e => absurd e (by decide))).trans v17
    have v19 : zEq (η5 0 41) (0) := by rw [eη5]; exact (zup_ne (fun _ e => absurd e (by decide))).trans v18
    have f0_41 : η5 0 41 = 0 := v19
    have v20 : zEq (η3 0 43) (0) := by rw [eη3]; exact zup_eq
    have v21 : zEq (η4 0 43) (0) := by rw [eη4]; exact (zup_ne (fun _ e => absurd e (by decide))).trans v20
    have v22 : zEq (η5 0 43) (0) := by rw [eη5]; exact (zup_ne (fun _ e => absurd e (by decide))).trans v21
    have f0_43 : η5 0 43 = 0 := v22
    have v23 : zEq (η2 0 42) (0) := by rw [eη2]; exact zup_eq
    have v24 : zEq (η3 0 42) (0) := by rw [eη3]; exact (zup_ne (fun _ e => absurd e (by decide))).trans v23
    have v25 : zEq (η4 0 42) (0) := by rw [eη4]; exact (zup_ne (fun _ e => absurd e (by decide))).trans v24
    have v26 : zEq (η5 0 42) (0) := by rw [eη5]; exact (zup_ne (fun _ e => absurd e (by decide))).trans v25
    have f0_42 : η5 0 42 = 0 := v26
    have v27 : zEq (η4 0 45) (1) := by rw [eη4]; exact zup_eq
    have v28 : zEq (η5 0 45) (1) := by rw [eη5]; exact (zup_ne (fun _ e => absurd e (by decide))).trans v27
    have f0_45 : η5 0 45 = 1 := v28
    have w0_0_19 : (0 : Int) ≤ η 0 19 ∧ η 0 19 ≤ 64 := wf_ok (a := 19) (b := 19) (z := (0, 64)) hp.1 (by decide +kernel) (Nat.le_refl _) (Nat.le_refl _)
    have v30 : zEq (η1 0 19) (η 0 19) := by rw [eη1]; exact (zup_ne (fun _ e => absurd e (by decide))).trans rfl
    have v31 : zEq (η2 0 19) (η 0 19) := by rw [eη2]; exact (zup_ne (fun _ e => absurd e (by decide))).trans v30
    have v32 : zEq (η3 0 19) (η 0 19) := by rw [eη3]; exact (zup_ne (fun _ e => absurd e (by decide))).trans v31
    have v33 : zEq (η4 0 19) (η 0 19) := by rw [eη4]; exact (zup_ne (fun _ e => absurd e (by decide))).trans v32
    have v34 : zEq (η5 0 19) (η 0 19) := by rw [eη5]; exact (zup_ne (fun _ e => absurd e (by decide))).trans v33
    have f0_19 : η5 0 19 = η 0 19 := v34
    have w0_0_44 : (0 : Int) ≤ η 0 44 ∧ η 0 44 ≤ 64 := wf_ok (a := 44) (b := 44) (z := (0, 64)) hp.1 (by decide +kernel) (Nat.le_refl _) (Nat.le_refl _)
    have v36 : zEq (η1 0 44) (η 0 44) := by rw [eη1]; exact (zup_ne (fun _ e => absurd e (by decide))).trans rfl
    have v37 : zEq (η2 0 44) (η 0 44) := by rw [eη2]; exact (zup_ne (fun _ e => absurd e (by decide))).trans v36
    have v38 : zEq (η3 0 44) (η 0 44) := by rw [eη3]; exact (zup_ne (fun _ e => absurd e (by decide))).trans v37
    have v39 : zEq (η4 0 44) (η 0 44) := by rw [eη4]; exact (zup_ne (fun _ e => absurd e (by decide))).trans v38
    have v40 : zEq (η5 0 44) (η 0 44) := by rw [eη5]; exact (zup_ne (fun _ e => absurd e (by decide))).trans v39
    have f0_44 : η5 0 44 = η 0 44 := v40
    have w0_0_7 : (0 : Int) ≤ η 0 7 ∧ η 0 7 ≤ 700 := wf_ok (a := 7) (b := 7) (z := (0, 700)) hp.1 (by decide +kernel) (Nat.le_refl _) (Nat.le_refl _)
    have v42 : zEq (η1 0 7) (η 0 7) := by rw [eη1]; exact (zup_ne (fun _ e => absurd e (by decide))).trans rfl
    have v43 : zEq (η2 0 7) (η 0 7) := by rw [eη2]; exact (zup_ne (fun _ e => absurd e (by decide))).trans v42
    have v44 : zEq (η3 0 7) (η 0 7) := by rw [eη3]; exact (zup_ne (fun _ e => absurd e (by decide))).trans v43
    have v45 : zEq (η4 0 7) (η 0 7) := by rw [eη4]; exact (zup_ne (fun _ e => absurd e (by decide))).trans v44
    have v46 : zEq (η5 0 7) (η 0 7) := by rw [eη5]; exact (zup_ne (fun _ e => absurd e (by decide))).trans v45
    have f0_7 : η5 0 7 = η 0 7 := v46
    have w0_0_6 : (0 : Int) ≤ η 0 6 ∧ η 0 6 ≤ 700 := wf_ok (a := 6) (b := 6) (z := (0, 700)) hp.1 (by decide +kernel) (Nat.le_refl _) (Nat.le_refl _)
    have v48 : zEq (η1 0 6) (η 0 6) := by rw [eη1]; exact (zup_ne (fun _ e => absurd e (by decide))).trans rfl
    have v49 : zEq (η2 0 6) (η 0 6) := by rw [eη2]; exact (zup_ne (fun _ e => absurd e (by decide))).trans v48
    have v50 : zEq (η3 0 6) (η 0 6) := by rw [eη3]; exact (zup_ne (fun _ e => absurd e (by decide))).trans v49
    have v51 : zEq (η4 0 6) (η 0 6) := by rw [eη4]; exact (zup_ne (fun _ e => absurd e (by decide))).trans v50
    have v52 : zEq (η5 0 6) (η 0 6) := by rw [eη5]; exact (zup_ne (fun _ e => absurd e (by decide))).trans v51
    have f0_6 : η5 0 6 = η 0 6 := v52
    have w0_0_8 : (0 : Int) ≤ η 0 8 ∧ η 0 8 ≤ 6 := wf_ok (a := 8) (b := 8) (z := (0, 6)) hp.1 (by decide +kernel) (Nat.le_refl _) (Nat.le_refl _)
    have v54 : zEq (η1 0 8) (η 0 8) := by rw [eη1]; exact (zup_ne (fun _ e => absurd e (by decide))).trans rfl
    have v55 : zEq (η2 0 8) (η 0 8) := by rw [eη2]; exact (zup_ne (fun _ e => absurd e (by decide))).trans v54
    have v56 : zEq (η3 0 8) (η 0 8) := by rw [eη3]; exact (zup_ne (fun _ e => absurd e (by decide))).trans v55
    have v57 : zEq (η4 0 8) (η 0 8) := by rw [eη4]; exact (zup_ne (fun _ e => absurd e (by decide))).trans v56
    have v58 : zEq (η5 0 8) (η 0 8) := by rw [eη5]; exact (zup_ne (fun _ e => absurd e (by decide))).trans v57
    have f0_8 : η5 0 8 = η 0 8 := v58
    have G5 : G0_l η5 := by rw [eη5, eη4, eη3, eη2, eη1]; exact (zGk_upc g0k_l (zGk_upc g0k_l (zGk_upc g0k_l (zGk_upc g0k_l (zGk_upc g0k_l hpp.1 (by decide +kernel)) (by decide +kernel)) (by decide +kernel)) (by decide +kernel)) (by decide +kernel))
    have z0 : cz_l η5 (Int.toNat 0) = 0 := rfl
    have z1 : ct_l η5 (Int.toNat 0) = 0 := rfl
    exact ⟨h_w (G5) f0_41 f0_43 f0_42 f0_45 f0_19 f0_44 ⟨by omega, by apply Int.le_antisymm <;> omega, by apply Int.le_antisymm <;> omega, by apply Int.le_antisymm <;> omega⟩, fun w => by
      have w : η5 0 45 = 0 := w
      omega, show 10 * (η5 0 6 - η5 0 7) + η5 0 8 ≤ 10 * (η 0 6 - η 0 7) + η 0 8 by omega⟩
  · have eη1 : η1 = zup η 0 41 0 := eη1
    have eη2 : η2 = zup η1 0 42 0 := eη2
    have eη3 : η3 = zup η2 0 43 0 := eη3
    have eη4 : η4 = zup η3 0 45 1 := eη4
    have eη5 : η5 = zup η4 0 46 1 := eη5
    subst eη1
    subst eη2
    subst eη3
    subst eη4
    subst eη5
    exact qlI_0 rfl
set_option maxHeartbeats 8000000 in
theorem zle_sumRead_o1 {ro : Nat → List Int32} (xs : List Int) (η0 : zE) (hp : sP wl_le zTr zPle_sumRead xs η0) (hpp : pPle_sumRead xs η0) (η : zE) (hI : zsI wl_le zTr zVle_sumRead zMle_sumRead η0 0 [] η) (hig : iCle_sumRead xs η0 0 [] η) : ((gC2 wl_le [(nat_lit 0, zPle_isSign, zOle_isSign, zMle_isSign), (nat_lit 1, zPle_leafRead, zOle_leafRead, zMle_leafRead), (nat_lit 2, zPle_signs, zOle_signs, zMle_signs), (nat_lit 3, zPle_bind, zOle_bind, zMle_bind)] pCle_sumRead qCle_sumRead) 0).1 [59] η := by
  have fig := hig.2
  have hig := hig.1
  
  exact hig.1
set_option maxHeartbeats 8000000 in
theorem zle_sumRead_o2 {ro : Nat → List Int32} (xs : List Int) (η0 : zE) (hp : sP wl_le zTr zPle_sumRead xs η0) (hpp : pPle_sumRead xs η0) (η : zE) (hI : zsI wl_le zTr zVle_sumRead zMle_sumRead η0 0 [] η) (hig : iCle_sumRead xs η0 0 [] η) : ∀ (x1 : Int) (η1 : zE), ((gC2 wl_le [(nat_lit 0, zPle_isSign, zOle_isSign, zMle_isSign), (nat_lit 1, zPle_leafRead, zOle_leafRead, zMle_leafRead), (nat_lit 2, zPle_signs, zOle_signs, zMle_signs), (nat_lit 3, zPle_bind, zOle_bind, zMle_bind)] pCle_sumRead qCle_sumRead) 0).2 [59] η x1 η1 → (x1 = 0) → ∀ x2 : Int, x2 = η1 0 (Int.toNat 45) → zok 1 x2 → (x2 = 0) → ((gC2 wl_le [(nat_lit 0, zPle_isSign, zOle_isSign, zMle_isSign), (nat_lit 1, zPle_leafRead, zOle_leafRead, zMle_leafRead), (nat_lit 2, zPle_signs, zOle_signs, zMle_signs), (nat_lit 3, zPle_bind, zOle_bind, zMle_bind)] pCle_sumRead qCle_sumRead) 2).1 [] η1 := by
  have fig := hig.2
  have hig := hig.1
  have hs : η 0 7 ≤ η 0 6 := hig.1.1.1.1
  have hk1 : η 0 45 = 0 → 1 ≤ η 0 19 := hig.2.1
  have hm : 10 * (η 0 6 - η 0 7) + η 0 8 ≤ 10 * (η0 0 6 - η0 0 7) + η0 0 8 := hig.2.2
  have bd43 : (0 : Int) ≤ η 0 43 ∧ η 0 43 ≤ 8 := wf_ok (a := 43) (b := 43) (z := (0, 8)) hI.1.1 (by decide +kernel) (Nat.le_refl _) (Nat.le_refl _)
  have bd44 : (0 : Int) ≤ η 0 44 ∧ η 0 44 ≤ 64 := wf_ok (a := 44) (b := 44) (z := (0, 64)) hI.1.1 (by decide +kernel) (Nat.le_refl _) (Nat.le_refl _)
  have bd19 : (0 : Int) ≤ η 0 19 ∧ η 0 19 ≤ 64 := wf_ok (a := 19) (b := 19) (z := (0, 64)) hI.1.1 (by decide +kernel) (Nat.le_refl _) (Nat.le_refl _)
  intro x1 η1 h1 c1 x2 e2 r2 c2
  have y1 : fQle_isSign [59] η x1 η1 := h1.2.2
  have k1 : sQ wl_le zTr zOle_isSign zMle_isSign [59] η x1 η1 ∧ oQle_isSign [59] η x1 η1 := ⟨h1.1, h1.2.1⟩
  have c0_0_41 : η 0 41 = η 0 41 := rfl
  have w0_0_43 : (0 : Int) ≤ η 0 43 ∧ η 0 43 ≤ 8 := wf_ok (a := 43) (b := 43) (z := (0, 8)) hI.1.1 (by decide +kernel) (Nat.le_refl _) (Nat.le_refl _)
  have c0_0_43 : η 0 43 = η 0 43 := rfl
  have c0_0_42 : η 0 42 = η 0 42 := rfl
  have c0_0_45 : η 0 45 = η 0 45 := rfl
  have w0_0_19 : (0 : Int) ≤ η 0 19 ∧ η 0 19 ≤ 64 := wf_ok (a := 19) (b := 19) (z := (0, 64)) hI.1.1 (by decide +kernel) (Nat.le_refl _) (Nat.le_refl _)
  have c0_0_19 : η 0 19 = η 0 19 := rfl
  have w0_0_44 : (0 : Int) ≤ η 0 44 ∧ η 0 44 ≤ 64 := wf_ok (a := 44) (b := 44) (z := (0, 64)) hI.1.1 (by decide +kernel) (Nat.le_refl _) (Nat.le_refl _)
  have c0_0_44 : η 0 44 = η 0 44 := rfl
  have w0_0_7 : (0 : Int) ≤ η 0 7 ∧ η 0 7 ≤ 700 := wf_ok (a := 7) (b := 7) (z := (0, 700)) hI.1.1 (by decide +kernel) (Nat.le_refl _) (Nat.le_refl _)
  have c0_0_7 : η 0 7 = η 0 7 := rfl
  have w0_0_6 : (0 : Int) ≤ η 0 6 ∧ η 0 6 ≤ 700 := wf_ok (a := 6) (b := 6) (z := (0, 700)) hI.1.1 (by decide +kernel) (Nat.le_refl _) (Nat.le_refl _)
  have c0_0_6 : η 0 6 = η 0 6 := rfl
  have w0_0_8 : (0 : Int) ≤ η 0 8 ∧ η 0 8 ≤ 6 := wf_ok (a := 8) (b := 8) (z := (0, 6)) hI.1.1 (by decide +kernel) (Nat.le_refl _) (Nat.le_refl _)
  have c0_0_8 : η 0 8 = η 0 8 := rfl
  have bx1 : (0 : Int) ≤ x1 ∧ x1 ≤ 1 := k1.1.2.1
  have v9 : zEq (η1 0 45) (η 0 45) := (k1.1.2.2.2.1 0 45 (by decide +kernel)).trans rfl
  replace e2 : x2 = η 0 45 := e2.trans v9
  replace r2 : 0 ≤ x2 ∧ x2 ≤ 1 := r2
  have fm1 : zFm zMle_sumRead η0 η1 := zFm_tr2 hI.2 k1.1.2.2.2.1 (by decide +kernel)
  have fmE : zFm zMle_sumRead η0 η1 := fm1
  have fr22_0 : ∀ j, η 22 j = η 22 j := fun _ => rfl
  have v10 : ∀ j, η1 22 j = η 22 j := fun j => k1.1.2.2.2.1 22 _ (zinr_not (by decide +kernel))
  have fr22_1 : ∀ j, η1 22 j = η 22 j := v10
  have fr22 : ∀ j, η1 22 j = η 22 j := v10
  have v11 : zEq (η1 0 41) (η 0 41) := (k1.1.2.2.2.1 0 41 (by decide +kernel)).trans rfl
  have f0_41 : η1 0 41 = η 0 41 := v11
  have v12 : zEq (η1 0 43) (η 0 43) := (k1.1.2.2.2.1 0 43 (by decide +kernel)).trans rfl
  have f0_43 : η1 0 43 = η 0 43 := v12
  have v13 : zEq (η1 0 42) (η 0 42) := (k1.1.2.2.2.1 0 42 (by decide +kernel)).trans rfl
  have f0_42 : η1 0 42 = η 0 42 := v13
  have f0_45 : η1 0 45 = η 0 45 := v9
  have v14 : zEq (η1 0 19) (η 0 19) := (k1.1.2.2.2.1 0 19 (by decide +kernel)).trans rfl
  have f0_19 : η1 0 19 = η 0 19 := v14
  have v15 : zEq (η1 0 44) (η 0 44) := (k1.1.2.2.2.1 0 44 (by decide +kernel)).trans rfl
  have f0_44 : η1 0 44 = η 0 44 := v15
  have v16 : zEq (η1 0 7) (η 0 7) := (k1.1.2.2.2.1 0 7 (by decide +kernel)).trans rfl
  have f0_7 : η1 0 7 = η 0 7 := v16
  have v17 : zEq (η1 0 6) (η 0 6) := (k1.1.2.2.2.1 0 6 (by decide +kernel)).trans rfl
  have f0_6 : η1 0 6 = η 0 6 := v17
  have v18 : zEq (η1 0 8) (η 0 8) := (k1.1.2.2.2.1 0 8 (by decide +kernel)).trans rfl
  have f0_8 : η1 0 8 = η 0 8 := v18
  exact ⟨k1.2.1, show η1 0 45 = 0 by apply Int.le_antisymm <;> omega, show 1 ≤ η1 0 19 by omega⟩
set_option maxHeartbeats 8000000 in
theorem zle_sumRead_o3 {ro : Nat → List Int32} (xs : List Int) (η0 : zE) (hp : sP wl_le zTr zPle_sumRead xs η0) (hpp : pPle_sumRead xs η0) (η : zE) (hI : zsI wl_le zTr zVle_sumRead zMle_sumRead η0 0 [] η) (hig : iCle_sumRead xs η0 0 [] η) : ∀ (x1 : Int) (η1 : zE), ((gC2 wl_le [(nat_lit 0, zPle_isSign, zOle_isSign, zMle_isSign), (nat_lit 1, zPle_leafRead, zOle_leafRead, zMle_leafRead), (nat_lit 2, zPle_signs, zOle_signs, zMle_signs), (nat_lit 3, zPle_bind, zOle_bind, zMle_bind)] pCle_sumRead qCle_sumRead) 0).2 [59] η x1 η1 → (x1 = 0) → ∀ x2 : Int, x2 = η1 0 (Int.toNat 45) → zok 1 x2 → (x2 = 0) → ∀ (x3 : Int) (η2 : zE), ((gC2 wl_le [(nat_lit 0, zPle_isSign, zOle_isSign, zMle_isSign), (nat_lit 1, zPle_leafRead, zOle_leafRead, zMle_leafRead), (nat_lit 2, zPle_signs, zOle_signs, zMle_signs), (nat_lit 3, zPle_bind, zOle_bind, zMle_bind)] pCle_sumRead qCle_sumRead) 2).2 [] η1 x3 η2 → (x3 = 0) → (fun (_ : Nat) (y : Int) (η' : zE) => pQle_sumRead xs η0 y η') 0 0 η2 := by
  have fig := hig.2
  have hig := hig.1
  intro x1 η1 h1 c1 x2 e2 r2 c2 x3 η2 h3 c3
  have y1 : fQle_isSign [59] η x1 η1 := h1.2.2
  have k1 : sQ wl_le zTr zOle_isSign zMle_isSign [59] η x1 η1 ∧ oQle_isSign [59] η x1 η1 := ⟨h1.1, h1.2.1⟩
  have y3 : fQle_signs [] η1 x3 η2 := h3.2.2
  have k3 : sQ wl_le zTr zOle_signs zMle_signs [] η1 x3 η2 ∧ oQle_signs [] η1 x3 η2 := ⟨h3.1, h3.2.1⟩
  refine yj_a ?_ ?_
  · have y1 : fQle_isSign [59] η x1 η1 := h1.2.2
    have k1 : sQ wl_le zTr zOle_isSign zMle_isSign [59] η x1 η1 ∧ oQle_isSign [59] η x1 η1 := ⟨h1.1, h1.2.1⟩
    have y3 : fQle_signs [] η1 x3 η2 := h3.2.2
    have k3 : sQ wl_le zTr zOle_signs zMle_signs [] η1 x3 η2 ∧ oQle_signs [] η1 x3 η2 := ⟨h3.1, h3.2.1⟩
    exact ⟨k3.2.1, fun w => absurd rfl w⟩
  · have fig : yq_lI η0 η := fig
    obtain ⟨a1, b1⟩ : x1 = yq_isS 59 η ∧ η1 = η := y1
    have e2 : x2 = η1 0 45 := e2
    obtain ⟨a3, b3⟩ : x3 = (yq_sgn η1).1 ∧ η2 = (yq_sgn η1).2 := y3
    have fig : yq_lI η0 η1 := by rw [b1]; exact fig
    have a1 : x1 = yq_isS 59 η1 := by rw [b1]; exact a1
    have q := qlI_s fig (by omega) (by omega)
    rw [← a3, ← b3] at q
    have q := q.1 (by omega)
    
    exact ⟨(congrArg Prod.fst q).symm, (congrArg Prod.snd q).symm⟩
set_option maxHeartbeats 8000000 in
theorem zle_sumRead_o4 {ro : Nat → List Int32} (xs : List Int) (η0 : zE) (hp : sP wl_le zTr zPle_sumRead xs η0) (hpp : pPle_sumRead xs η0) (η : zE) (hI : zsI wl_le zTr zVle_sumRead zMle_sumRead η0 0 [] η) (hig : iCle_sumRead xs η0 0 [] η) : ∀ (x1 : Int) (η1 : zE), ((gC2 wl_le [(nat_lit 0, zPle_isSign, zOle_isSign, zMle_isSign), (nat_lit 1, zPle_leafRead, zOle_leafRead, zMle_leafRead), (nat_lit 2, zPle_signs, zOle_signs, zMle_signs), (nat_lit 3, zPle_bind, zOle_bind, zMle_bind)] pCle_sumRead qCle_sumRead) 0).2 [59] η x1 η1 → (x1 = 0) → ∀ x2 : Int, x2 = η1 0 (Int.toNat 45) → zok 1 x2 → (¬ x2 = 0) → ((gC2 wl_le [(nat_lit 0, zPle_isSign, zOle_isSign, zMle_isSign), (nat_lit 1, zPle_leafRead, zOle_leafRead, zMle_leafRead), (nat_lit 2, zPle_signs, zOle_signs, zMle_signs), (nat_lit 3, zPle_bind, zOle_bind, zMle_bind)] pCle_sumRead qCle_sumRead) 1).1 [] η1 := by
  have fig := hig.2
  have hig := hig.1
  have hs : η 0 7 ≤ η 0 6 := hig.1.1.1.1
  have hk1 : η 0 45 = 0 → 1 ≤ η 0 19 := hig.2.1
  have hm : 10 * (η 0 6 - η 0 7) + η 0 8 ≤ 10 * (η0 0 6 - η0 0 7) + η0 0 8 := hig.2.2
  have bd43 : (0 : Int) ≤ η 0 43 ∧ η 0 43 ≤ 8 := wf_ok (a := 43) (b := 43) (z := (0, 8)) hI.1.1 (by decide +kernel) (Nat.le_refl _) (Nat.le_refl _)
  have bd44 : (0 : Int) ≤ η 0 44 ∧ η 0 44 ≤ 64 := wf_ok (a := 44) (b := 44) (z := (0, 64)) hI.1.1 (by decide +kernel) (Nat.le_refl _) (Nat.le_refl _)
  have bd19 : (0 : Int) ≤ η 0 19 ∧ η 0 19 ≤ 64 := wf_ok (a := 19) (b := 19) (z := (0, 64)) hI.1.1 (by decide +kernel) (Nat.le_refl _) (Nat.le_refl _)
  intro x1 η1 h1 c1 x2 e2 r2 c2
  have y1 : fQle_isSign [59] η x1 η1 := h1.2.2
  have k1 : sQ wl_le zTr zOle_isSign zMle_isSign [59] η x1 η1 ∧ oQle_isSign [59] η x1 η1 := ⟨h1.1, h1.2.1⟩
  have c0_0_41 : η 0 41 = η 0 41 := rfl
  have w0_0_43 : (0 : Int) ≤ η 0 43 ∧ η 0 43 ≤ 8 := wf_ok (a := 43) (b := 43) (z := (0, 8)) hI.1.1 (by decide +kernel) (Nat.le_refl _) (Nat.le_refl _)
  have c0_0_43 : η 0 43 = η 0 43 := rfl
  have c0_0_42 : η 0 42 = η 0 42 := rfl
  have c0_0_45 : η 0 45 = η 0 45 := rfl
  have w0_0_19 : (0 : Int) ≤ η 0 19 ∧ η 0 19 ≤ 64 := wf_ok (a := 19) (b := 19) (z := (0, 64)) hI.1.1 (by decide +kernel) (Nat.le_refl _) (Nat.le_refl _)
  have c0_0_19 : η 0 19 = η 0 19 := rfl
  have w0_0_44 : (0 : Int) ≤ η 0 44 ∧ η 0 44 ≤ 64 := wf_ok (a := 44) (b := 44) (z := (0, 64)) hI.1.1 (by decide +kernel) (Nat.le_refl _) (Nat.le_refl _)
  have c0_0_44 : η 0 44 = η 0 44 := rfl
  have w0_0_7 : (0 : Int) ≤ η 0 7 ∧ η 0 7 ≤ 700 := wf_ok (a := 7) (b := 7) (z := (0, 700)) hI.1.1 (by decide +kernel) (Nat.le_refl _) (Nat.le_refl _)
  have c0_0_7 : η 0 7 = η 0 7 := rfl
  have w0_0_6 : (0 : Int) ≤ η 0 6 ∧ η 0 6 ≤ 700 := wf_ok (a := 6) (b := 6) (z := (0, 700)) hI.1.1 (by decide +kernel) (Nat.le_refl _) (Nat.le_refl _)
  have c0_0_6 : η 0 6 = η 0 6 := rfl
  have w0_0_8 : (0 : Int) ≤ η 0 8 ∧ η 0 8 ≤ 6 := wf_ok (a := 8) (b := 8) (z := (0, 6)) hI.1.1 (by decide +kernel) (Nat.le_refl _) (Nat.le_refl _)
  have c0_0_8 : η 0 8 = η 0 8 := rfl
  have bx1 : (0 : Int) ≤ x1 ∧ x1 ≤ 1 := k1.1.2.1
  have v9 : zEq (η1 0 45) (η 0 45) := (k1.1.2.2.2.1 0 45 (by decide +kernel)).trans rfl
  replace e2 : x2 = η 0 45 := e2.trans v9
  replace r2 : 0 ≤ x2 ∧ x2 ≤ 1 := r2
  have fm1 : zFm zMle_sumRead η0 η1 := zFm_tr2 hI.2 k1.1.2.2.2.1 (by decide +kernel)
  have fmE : zFm zMle_sumRead η0 η1 := fm1
  have fr22_0 : ∀ j, η 22 j = η 22 j := fun _ => rfl
  have v10 : ∀ j, η1 22 j = η 22 j := fun j => k1.1.2.2.2.1 22 _ (zinr_not (by decide +kernel))
  have fr22_1 : ∀ j, η1 22 j = η 22 j := v10
  have fr22 : ∀ j, η1 22 j = η 22 j := v10
  have v11 : zEq (η1 0 41) (η 0 41) := (k1.1.2.2.2.1 0 41 (by decide +kernel)).trans rfl
  have f0_41 : η1 0 41 = η 0 41 := v11
  have v12 : zEq (η1 0 43) (η 0 43) := (k1.1.2.2.2.1 0 43 (by decide +kernel)).trans rfl
  have f0_43 : η1 0 43 = η 0 43 := v12
  have v13 : zEq (η1 0 42) (η 0 42) := (k1.1.2.2.2.1 0 42 (by decide +kernel)).trans rfl
  have f0_42 : η1 0 42 = η 0 42 := v13
  have f0_45 : η1 0 45 = η 0 45 := v9
  have v14 : zEq (η1 0 19) (η 0 19) := (k1.1.2.2.2.1 0 19 (by decide +kernel)).trans rfl
  have f0_19 : η1 0 19 = η 0 19 := v14
  have v15 : zEq (η1 0 44) (η 0 44) := (k1.1.2.2.2.1 0 44 (by decide +kernel)).trans rfl
  have f0_44 : η1 0 44 = η 0 44 := v15
  have v16 : zEq (η1 0 7) (η 0 7) := (k1.1.2.2.2.1 0 7 (by decide +kernel)).trans rfl
  have f0_7 : η1 0 7 = η 0 7 := v16
  have v17 : zEq (η1 0 6) (η 0 6) := (k1.1.2.2.2.1 0 6 (by decide +kernel)).trans rfl
  have f0_6 : η1 0 6 = η 0 6 := v17
  have v18 : zEq (η1 0 8) (η 0 8) := (k1.1.2.2.2.1 0 8 (by decide +kernel)).trans rfl
  have f0_8 : η1 0 8 = η 0 8 := v18
  exact ⟨k1.2.1, show η1 0 45 = 1 by apply Int.le_antisymm <;> omega⟩
set_option maxHeartbeats 8000000 in
theorem zle_sumRead_o5 {ro : Nat → List Int32} (xs : List Int) (η0 : zE) (hp : sP wl_le zTr zPle_sumRead xs η0) (hpp : pPle_sumRead xs η0) (η : zE) (hI : zsI wl_le zTr zVle_sumRead zMle_sumRead η0 0 [] η) (hig : iCle_sumRead xs η0 0 [] η) : ∀ (x1 : Int) (η1 : zE), ((gC2 wl_le [(nat_lit 0, zPle_isSign, zOle_isSign, zMle_isSign), (nat_lit 1, zPle_leafRead, zOle_leafRead, zMle_leafRead), (nat_lit 2, zPle_signs, zOle_signs, zMle_signs), (nat_lit 3, zPle_bind, zOle_bind, zMle_bind)] pCle_sumRead qCle_sumRead) 0).2 [59] η x1 η1 → (x1 = 0) → ∀ x2 : Int, x2 = η1 0 (Int.toNat 45) → zok 1 x2 → (¬ x2 = 0) → ∀ (x3 : Int) (η2 : zE), ((gC2 wl_le [(nat_lit 0, zPle_isSign, zOle_isSign, zMle_isSign), (nat_lit 1, zPle_leafRead, zOle_leafRead, zMle_leafRead), (nat_lit 2, zPle_signs, zOle_signs, zMle_signs), (nat_lit 3, zPle_bind, zOle_bind, zMle_bind)] pCle_sumRead qCle_sumRead) 1).2 [] η1 x3 η2 → (x3 = 0) → (fun (_ : Nat) (y : Int) (η' : zE) => pQle_sumRead xs η0 y η') 0 0 η2 := by
  have fig := hig.2
  have hig := hig.1
  intro x1 η1 h1 c1 x2 e2 r2 c2 x3 η2 h3 c3
  have y1 : fQle_isSign [59] η x1 η1 := h1.2.2
  have k1 : sQ wl_le zTr zOle_isSign zMle_isSign [59] η x1 η1 ∧ oQle_isSign [59] η x1 η1 := ⟨h1.1, h1.2.1⟩
  have y3 : fQle_leafRead [] η1 x3 η2 := h3.2.2
  have k3 : sQ wl_le zTr zOle_leafRead zMle_leafRead [] η1 x3 η2 ∧ oQle_leafRead [] η1 x3 η2 := ⟨h3.1, h3.2.1⟩
  refine yj_a ?_ ?_
  · have y1 : fQle_isSign [59] η x1 η1 := h1.2.2
    have k1 : sQ wl_le zTr zOle_isSign zMle_isSign [59] η x1 η1 ∧ oQle_isSign [59] η x1 η1 := ⟨h1.1, h1.2.1⟩
    have y3 : fQle_leafRead [] η1 x3 η2 := h3.2.2
    have k3 : sQ wl_le zTr zOle_leafRead zMle_leafRead [] η1 x3 η2 ∧ oQle_leafRead [] η1 x3 η2 := ⟨h3.1, h3.2.1⟩
    exact ⟨k3.2.1, fun w => absurd rfl w⟩
  · have fig : yq_lI η0 η := fig
    obtain ⟨a1, b1⟩ : x1 = yq_isS 59 η ∧ η1 = η := y1
    have e2 : x2 = η1 0 45 := e2
    obtain ⟨a3, b3⟩ : x3 = (yq_lf η1).1 ∧ η2 = (yq_lf η1).2 := y3
    have fig : yq_lI η0 η1 := by rw [b1]; exact fig
    have a1 : x1 = yq_isS 59 η1 := by rw [b1]; exact a1
    have q := qlI_l fig (by omega) (by omega)
    rw [← a3, ← b3] at q
    have q := q.1 (by omega)
    
    exact ⟨(congrArg Prod.fst q).symm, (congrArg Prod.snd q).symm⟩
set_option maxHeartbeats 8000000 in
theorem zle_sumRead_o6 {ro : Nat → List Int32} (xs : List Int) (η0 : zE) (hp : sP wl_le zTr zPle_sumRead xs η0) (hpp : pPle_sumRead xs η0) (η : zE) (hI : zsI wl_le zTr zVle_sumRead zMle_sumRead η0 0 [] η) (hig : iCle_sumRead xs η0 0 [] η) : ∀ (x1 : Int) (η1 : zE), ((gC2 wl_le [(nat_lit 0, zPle_isSign, zOle_isSign, zMle_isSign), (nat_lit 1, zPle_leafRead, zOle_leafRead, zMle_leafRead), (nat_lit 2, zPle_signs, zOle_signs, zMle_signs), (nat_lit 3, zPle_bind, zOle_bind, zMle_bind)] pCle_sumRead qCle_sumRead) 0).2 [59] η x1 η1 → (¬ x1 = 0) → ∀ x2 : Int, x2 = η1 0 (Int.toNat 45) → zok 1 x2 → (¬ x2 = 0) → ∀ x3 : Int, x3 = η1 0 (Int.toNat 45) → zok 1 x3 → (¬ x3 = 0) → ((gC2 wl_le [(nat_lit 0, zPle_isSign, zOle_isSign, zMle_isSign), (nat_lit 1, zPle_leafRead, zOle_leafRead, zMle_leafRead), (nat_lit 2, zPle_signs, zOle_signs, zMle_signs), (nat_lit 3, zPle_bind, zOle_bind, zMle_bind)] pCle_sumRead qCle_sumRead) 1).1 [] η1 := by
  have fig := hig.2
  have hig := hig.1
  have hs : η 0 7 ≤ η 0 6 := hig.1.1.1.1
  have hk1 : η 0 45 = 0 → 1 ≤ η 0 19 := hig.2.1
  have hm : 10 * (η 0 6 - η 0 7) + η 0 8 ≤ 10 * (η0 0 6 - η0 0 7) + η0 0 8 := hig.2.2
  have bd43 : (0 : Int) ≤ η 0 43 ∧ η 0 43 ≤ 8 := wf_ok (a := 43) (b := 43) (z := (0, 8)) hI.1.1 (by decide +kernel) (Nat.le_refl _) (Nat.le_refl _)
  have bd44 : (0 : Int) ≤ η 0 44 ∧ η 0 44 ≤ 64 := wf_ok (a := 44) (b := 44) (z := (0, 64)) hI.1.1 (by decide +kernel) (Nat.le_refl _) (Nat.le_refl _)
  have bd19 : (0 : Int) ≤ η 0 19 ∧ η 0 19 ≤ 64 := wf_ok (a := 19) (b := 19) (z := (0, 64)) hI.1.1 (by decide +kernel) (Nat.le_refl _) (Nat.le_refl _)
  intro x1 η1 h1 c1 x2 e2 r2 c2 x3 e3 r3 c3
  have y1 : fQle_isSign [59] η x1 η1 := h1.2.2
  have k1 : sQ wl_le zTr zOle_isSign zMle_isSign [59] η x1 η1 ∧ oQle_isSign [59] η x1 η1 := ⟨h1.1, h1.2.1⟩
  have c0_0_41 : η 0 41 = η 0 41 := rfl
  have w0_0_43 : (0 : Int) ≤ η 0 43 ∧ η 0 43 ≤ 8 := wf_ok (a := 43) (b := 43) (z := (0, 8)) hI.1.1 (by decide +kernel) (Nat.le_refl _) (Nat.le_refl _)
  have c0_0_43 : η 0 43 = η 0 43 := rfl
  have c0_0_42 : η 0 42 = η 0 42 := rfl
  have c0_0_45 : η 0 45 = η 0 45 := rfl
  have w0_0_19 : (0 : Int) ≤ η 0 19 ∧ η 0 19 ≤ 64 := wf_ok (a := 19) (b := 19) (z := (0, 64)) hI.1.1 (by decide +kernel) (Nat.le_refl _) (Nat.le_refl _)
  have c0_0_19 : η 0 19 = η 0 19 := rfl
  have w0_0_44 : (0 : Int) ≤ η 0 44 ∧ η 0 44 ≤ 64 := wf_ok (a := 44) (b := 44) (z := (0, 64)) hI.1.1 (by decide +kernel) (Nat.le_refl _) (Nat.le_refl _)
  have c0_0_44 : η 0 44 = η 0 44 := rfl
  have w0_0_7 : (0 : Int) ≤ η 0 7 ∧ η 0 7 ≤ 700 := wf_ok (a := 7) (b := 7) (z := (0, 700)) hI.1.1 (by decide +kernel) (Nat.le_refl _) (Nat.le_refl _)
  have c0_0_7 : η 0 7 = η 0 7 := rfl
  have w0_0_6 : (0 : Int) ≤ η 0 6 ∧ η 0 6 ≤ 700 := wf_ok (a := 6) (b := 6) (z := (0, 700)) hI.1.1 (by decide +kernel) (Nat.le_refl _) (Nat.le_refl _)
  have c0_0_6 : η 0 6 = η 0 6 := rfl
  have w0_0_8 : (0 : Int) ≤ η 0 8 ∧ η 0 8 ≤ 6 := wf_ok (a := 8) (b := 8) (z := (0, 6)) hI.1.1 (by decide +kernel) (Nat.le_refl _) (Nat.le_refl _)
  have c0_0_8 : η 0 8 = η 0 8 := rfl
  have bx1 : (0 : Int) ≤ x1 ∧ x1 ≤ 1 := k1.1.2.1
  have v9 : zEq (η1 0 45) (η 0 45) := (k1.1.2.2.2.1 0 45 (by decide +kernel)).trans rfl
  replace e2 : x2 = η 0 45 := e2.trans v9
  replace r2 : 0 ≤ x2 ∧ x2 ≤ 1 := r2
  replace e3 : x3 = η 0 45 := e3.trans v9
  replace r3 : 0 ≤ x3 ∧ x3 ≤ 1 := r3
  have fm1 : zFm zMle_sumRead η0 η1 := zFm_tr2 hI.2 k1.1.2.2.2.1 (by decide +kernel)
  have fmE : zFm zMle_sumRead η0 η1 := fm1
  have fr22_0 : ∀ j, η 22 j = η 22 j := fun _ => rfl
  have v10 : ∀ j, η1 22 j = η 22 j := fun j => k1.1.2.2.2.1 22 _ (zinr_not (by decide +kernel))
  have fr22_1 : ∀ j, η1 22 j = η 22 j := v10
  have fr22 : ∀ j, η1 22 j = η 22 j := v10
  have v11 : zEq (η1 0 41) (η 0 41) := (k1.1.2.2.2.1 0 41 (by decide +kernel)).trans rfl
  have f0_41 : η1 0 41 = η 0 41 := v11
  have v12 : zEq (η1 0 43) (η 0 43) := (k1.1.2.2.2.1 0 43 (by decide +kernel)).trans rfl
  have f0_43 : η1 0 43 = η 0 43 := v12
  have v13 : zEq (η1 0 42) (η 0 42) := (k1.1.2.2.2.1 0 42 (by decide +kernel)).trans rfl
  have f0_42 : η1 0 42 = η 0 42 := v13
  have f0_45 : η1 0 45 = η 0 45 := v9
  have v14 : zEq (η1 0 19) (η 0 19) := (k1.1.2.2.2.1 0 19 (by decide +kernel)).trans rfl
  have f0_19 : η1 0 19 = η 0 19 := v14
  have v15 : zEq (η1 0 44) (η 0 44) := (k1.1.2.2.2.1 0 44 (by decide +kernel)).trans rfl
  have f0_44 : η1 0 44 = η 0 44 := v15
  have v16 : zEq (η1 0 7) (η 0 7) := (k1.1.2.2.2.1 0 7 (by decide +kernel)).trans rfl
  have f0_7 : η1 0 7 = η 0 7 := v16
  have v17 : zEq (η1 0 6) (η 0 6) := (k1.1.2.2.2.1 0 6 (by decide +kernel)).trans rfl
  have f0_6 : η1 0 6 = η 0 6 := v17
  have v18 : zEq (η1 0 8) (η 0 8) := (k1.1.2.2.2.1 0 8 (by decide +kernel)).trans rfl
  have f0_8 : η1 0 8 = η 0 8 := v18
  exact ⟨k1.2.1, show η1 0 45 = 1 by apply Int.le_antisymm <;> omega⟩
set_option maxHeartbeats 8000000 in
theorem zle_sumRead_o7 {ro : Nat → List Int32} (xs : List Int) (η0 : zE) (hp : sP wl_le zTr zPle_sumRead xs η0) (hpp : pPle_sumRead xs η0) (η : zE) (hI : zsI wl_le zTr zVle_sumRead zMle_sumRead η0 0 [] η) (hig : iCle_sumRead xs η0 0 [] η) : ∀ (x1 : Int) (η1 : zE), ((gC2 wl_le [(nat_lit 0, zPle_isSign, zOle_isSign, zMle_isSign), (nat_lit 1, zPle_leafRead, zOle_leafRead, zMle_leafRead), (nat_lit 2, zPle_signs, zOle_signs, zMle_signs), (nat_lit 3, zPle_bind, zOle_bind, zMle_bind)] pCle_sumRead qCle_sumRead) 0).2 [59] η x1 η1 → (¬ x1 = 0) → ∀ x2 : Int, x2 = η1 0 (Int.toNat 45) → zok 1 x2 → (¬ x2 = 0) → ∀ x3 : Int, x3 = η1 0 (Int.toNat 45) → zok 1 x3 → (¬ x3 = 0) → ∀ (x4 : Int) (η2 : zE), ((gC2 wl_le [(nat_lit 0, zPle_isSign, zOle_isSign, zMle_isSign), (nat_lit 1, zPle_leafRead, zOle_leafRead, zMle_leafRead), (nat_lit 2, zPle_signs, zOle_signs, zMle_signs), (nat_lit 3, zPle_bind, zOle_bind, zMle_bind)] pCle_sumRead qCle_sumRead) 1).2 [] η1 x4 η2 → (x4 = 0) → (fun (_ : Nat) (y : Int) (η' : zE) => pQle_sumRead xs η0 y η') 0 0 η2 := by
  have fig := hig.2
  have hig := hig.1
  intro x1 η1 h1 c1 x2 e2 r2 c2 x3 e3 r3 c3 x4 η2 h4 c4
  have y1 : fQle_isSign [59] η x1 η1 := h1.2.2
  have k1 : sQ wl_le zTr zOle_isSign zMle_isSign [59] η x1 η1 ∧ oQle_isSign [59] η x1 η1 := ⟨h1.1, h1.2.1⟩
  have y4 : fQle_leafRead [] η1 x4 η2 := h4.2.2
  have k4 : sQ wl_le zTr zOle_leafRead zMle_leafRead [] η1 x4 η2 ∧ oQle_leafRead [] η1 x4 η2 := ⟨h4.1, h4.2.1⟩
  refine yj_a ?_ ?_
  · have y1 : fQle_isSign [59] η x1 η1 := h1.2.2
    have k1 : sQ wl_le zTr zOle_isSign zMle_isSign [59] η x1 η1 ∧ oQle_isSign [59] η x1 η1 := ⟨h1.1, h1.2.1⟩
    have y4 : fQle_leafRead [] η1 x4 η2 := h4.2.2
    have k4 : sQ wl_le zTr zOle_leafRead zMle_leafRead [] η1 x4 η2 ∧ oQle_leafRead [] η1 x4 η2 := ⟨h4.1, h4.2.1⟩
    exact ⟨k4.2.1, fun w => absurd rfl w⟩
  · have fig : yq_lI η0 η := fig
    obtain ⟨a1, b1⟩ : x1 = yq_isS 59 η ∧ η1 = η := y1
    have e2 : x2 = η1 0 45 := e2
    have e3 : x3 = η1 0 45 := e3
    obtain ⟨a4, b4⟩ : x4 = (yq_lf η1).1 ∧ η2 = (yq_lf η1).2 := y4
    have fig : yq_lI η0 η1 := by rw [b1]; exact fig
    have a1 : x1 = yq_isS 59 η1 := by rw [b1]; exact a1
    have q := qlI_l fig (by omega) (by omega)
    rw [← a4, ← b4] at q
    have q := q.1 (by omega)
    
    exact ⟨(congrArg Prod.fst q).symm, (congrArg Prod.snd q).symm⟩
set_option maxHeartbeats 8000000 in
theorem zle_sumRead_o8 {ro : Nat → List Int32} (xs : List Int) (η0 : zE) (hp : sP wl_le zTr zPle_sumRead xs η0) (hpp : pPle_sumRead xs η0) (η : zE) (hI : zsI wl_le zTr zVle_sumRead zMle_sumRead η0 0 [] η) (hig : iCle_sumRead xs η0 0 [] η) : ∀ (x1 : Int) (η1 : zE), ((gC2 wl_le [(nat_lit 0, zPle_isSign, zOle_isSign, zMle_isSign), (nat_lit 1, zPle_leafRead, zOle_leafRead, zMle_leafRead), (nat_lit 2, zPle_signs, zOle_signs, zMle_signs), (nat_lit 3, zPle_bind, zOle_bind, zMle_bind)] pCle_sumRead qCle_sumRead) 0).2 [59] η x1 η1 → (¬ x1 = 0) → ∀ x2 : Int, x2 = η1 0 (Int.toNat 45) → zok 1 x2 → (x2 = 0) → ∀ x3 : Int, x3 = η1 0 (Int.toNat 43) → zok 0 x3 → (x3 ≤ 0) → ((gC2 wl_le [(nat_lit 0, zPle_isSign, zOle_isSign, zMle_isSign), (nat_lit 1, zPle_leafRead, zOle_leafRead, zMle_leafRead), (nat_lit 2, zPle_signs, zOle_signs, zMle_signs), (nat_lit 3, zPle_bind, zOle_bind, zMle_bind)] pCle_sumRead qCle_sumRead) 3).1 [1] η1 := by
  have fig := hig.2
  have hig := hig.1
  have hs : η 0 7 ≤ η 0 6 := hig.1.1.1.1
  have hk1 : η 0 45 = 0 → 1 ≤ η 0 19 := hig.2.1
  have hm : 10 * (η 0 6 - η 0 7) + η 0 8 ≤ 10 * (η0 0 6 - η0 0 7) + η0 0 8 := hig.2.2
  have bd43 : (0 : Int) ≤ η 0 43 ∧ η 0 43 ≤ 8 := wf_ok (a := 43) (b := 43) (z := (0, 8)) hI.1.1 (by decide +kernel) (Nat.le_refl _) (Nat.le_refl _)
  have bd44 : (0 : Int) ≤ η 0 44 ∧ η 0 44 ≤ 64 := wf_ok (a := 44) (b := 44) (z := (0, 64)) hI.1.1 (by decide +kernel) (Nat.le_refl _) (Nat.le_refl _)
  have bd19 : (0 : Int) ≤ η 0 19 ∧ η 0 19 ≤ 64 := wf_ok (a := 19) (b := 19) (z := (0, 64)) hI.1.1 (by decide +kernel) (Nat.le_refl _) (Nat.le_refl _)
  intro x1 η1 h1 c1 x2 e2 r2 c2 x3 e3 r3 c3
  have y1 : fQle_isSign [59] η x1 η1 := h1.2.2
  have k1 : sQ wl_le zTr zOle_isSign zMle_isSign [59] η x1 η1 ∧ oQle_isSign [59] η x1 η1 := ⟨h1.1, h1.2.1⟩
  have c0_0_41 : η 0 41 = η 0 41 := rfl
  have w0_0_43 : (0 : Int) ≤ η 0 43 ∧ η 0 43 ≤ 8 := wf_ok (a := 43) (b := 43) (z := (0, 8)) hI.1.1 (by decide +kernel) (Nat.le_refl _) (Nat.le_refl _)
  have c0_0_43 : η 0 43 = η 0 43 := rfl
  have c0_0_42 : η 0 42 = η 0 42 := rfl
  have c0_0_45 : η 0 45 = η 0 45 := rfl
  have w0_0_19 : (0 : Int) ≤ η 0 19 ∧ η 0 19 ≤ 64 := wf_ok (a := 19) (b := 19) (z := (0, 64)) hI.1.1 (by decide +kernel) (Nat.le_refl _) (Nat.le_refl _)
  have c0_0_19 : η 0 19 = η 0 19 := rfl
  have w0_0_44 : (0 : Int) ≤ η 0 44 ∧ η 0 44 ≤ 64 := wf_ok (a := 44) (b := 44) (z := (0, 64)) hI.1.1 (by decide +kernel) (Nat.le_refl _) (Nat.le_refl _)
  have c0_0_44 : η 0 44 = η 0 44 := rfl
  have w0_0_7 : (0 : Int) ≤ η 0 7 ∧ η 0 7 ≤ 700 := wf_ok (a := 7) (b := 7) (z := (0, 700)) hI.1.1 (by decide +kernel) (Nat.le_refl _) (Nat.le_refl _)
  have c0_0_7 : η 0 7 = η 0 7 := rfl
  have w0_0_6 : (0 : Int) ≤ η 0 6 ∧ η 0 6 ≤ 700 := wf_ok (a := 6) (b := 6) (z := (0, 700)) hI.1.1 (by decide +kernel) (Nat.le_refl _) (Nat.le_refl _)
  have c0_0_6 : η 0 6 = η 0 6 := rfl
  have w0_0_8 : (0 : Int) ≤ η 0 8 ∧ η 0 8 ≤ 6 := wf_ok (a := 8) (b := 8) (z := (0, 6)) hI.1.1 (by decide +kernel) (Nat.le_refl _) (Nat.le_refl _)
  have c0_0_8 : η 0 8 = η 0 8 := rfl
  have bx1 : (0 : Int) ≤ x1 ∧ x1 ≤ 1 := k1.1.2.1
  have v9 : zEq (η1 0 45) (η 0 45) := (k1.1.2.2.2.1 0 45 (by decide +kernel)).trans rfl
  replace e2 : x2 = η 0 45 := e2.trans v9
  replace r2 : 0 ≤ x2 ∧ x2 ≤ 1 := r2
  have v10 : zEq (η1 0 43) (η 0 43) := (k1.1.2.2.2.1 0 43 (by decide +kernel)).trans rfl
  replace e3 : x3 = η 0 43 := e3.trans v10
  have fm1 : zFm zMle_sumRead η0 η1 := zFm_tr2 hI.2 k1.1.2.2.2.1 (by decide +kernel)
  have fmE : zFm zMle_sumRead η0 η1 := fm1
  have fr22_0 : ∀ j, η 22 j = η 22 j := fun _ => rfl
  have v11 : ∀ j, η1 22 j = η 22 j := fun j => k1.1.2.2.2.1 22 _ (zinr_not (by decide +kernel))
  have fr22_1 : ∀ j, η1 22 j = η 22 j := v11
  have fr22 : ∀ j, η1 22 j = η 22 j := v11
  have v12 : zEq (η1 0 41) (η 0 41) := (k1.1.2.2.2.1 0 41 (by decide +kernel)).trans rfl
  have f0_41 : η1 0 41 = η 0 41 := v12
  have f0_43 : η1 0 43 = η 0 43 := v10
  have v13 : zEq (η1 0 42) (η 0 42) := (k1.1.2.2.2.1 0 42 (by decide +kernel)).trans rfl
  have f0_42 : η1 0 42 = η 0 42 := v13
  have f0_45 : η1 0 45 = η 0 45 := v9
  have v14 : zEq (η1 0 19) (η 0 19) := (k1.1.2.2.2.1 0 19 (by decide +kernel)).trans rfl
  have f0_19 : η1 0 19 = η 0 19 := v14
  have v15 : zEq (η1 0 44) (η 0 44) := (k1.1.2.2.2.1 0 44 (by decide +kernel)).trans rfl
  have f0_44 : η1 0 44 = η 0 44 := v15
  have v16 : zEq (η1 0 7) (η 0 7) := (k1.1.2.2.2.1 0 7 (by decide +kernel)).trans rfl
  have f0_7 : η1 0 7 = η 0 7 := v16
  have v17 : zEq (η1 0 6) (η 0 6) := (k1.1.2.2.2.1 0 6 (by decide +kernel)).trans rfl
  have f0_6 : η1 0 6 = η 0 6 := v17
  have v18 : zEq (η1 0 8) (η 0 8) := (k1.1.2.2.2.1 0 8 (by decide +kernel)).trans rfl
  have f0_8 : η1 0 8 = η 0 8 := v18
  exact ⟨k1.2.1, show η1 0 45 = 0 by apply Int.le_antisymm <;> omega⟩
set_option maxHeartbeats 8000000 in
theorem zle_sumRead_o9 {ro : Nat → List Int32} (xs : List Int) (η0 : zE) (hp : sP wl_le zTr zPle_sumRead xs η0) (hpp : pPle_sumRead xs η0) (η : zE) (hI : zsI wl_le zTr zVle_sumRead zMle_sumRead η0 0 [] η) (hig : iCle_sumRead xs η0 0 [] η) : ∀ (x1 : Int) (η1 : zE), ((gC2 wl_le [(nat_lit 0, zPle_isSign, zOle_isSign, zMle_isSign), (nat_lit 1, zPle_leafRead, zOle_leafRead, zMle_leafRead), (nat_lit 2, zPle_signs, zOle_signs, zMle_signs), (nat_lit 3, zPle_bind, zOle_bind, zMle_bind)] pCle_sumRead qCle_sumRead) 0).2 [59] η x1 η1 → (¬ x1 = 0) → ∀ x2 : Int, x2 = η1 0 (Int.toNat 45) → zok 1 x2 → (x2 = 0) → ∀ x3 : Int, x3 = η1 0 (Int.toNat 43) → zok 0 x3 → (x3 ≤ 0) → ∀ (x4 : Int) (η2 : zE), ((gC2 wl_le [(nat_lit 0, zPle_isSign, zOle_isSign, zMle_isSign), (nat_lit 1, zPle_leafRead, zOle_leafRead, zMle_leafRead), (nat_lit 2, zPle_signs, zOle_signs, zMle_signs), (nat_lit 3, zPle_bind, zOle_bind, zMle_bind)] pCle_sumRead qCle_sumRead) 3).2 [1] η1 x4 η2 → (fun (_ : Nat) (y : Int) (η' : zE) => pQle_sumRead xs η0 y η') 0 1 η2 := by
  have fig := hig.2
  have hig := hig.1
  intro x1 η1 h1 c1 x2 e2 r2 c2 x3 e3 r3 c3 x4 η2 h4
  have y1 : fQle_isSign [59] η x1 η1 := h1.2.2
  have k1 : sQ wl_le zTr zOle_isSign zMle_isSign [59] η x1 η1 ∧ oQle_isSign [59] η x1 η1 := ⟨h1.1, h1.2.1⟩
  have y4 : fQle_bind [1] η1 x4 η2 := h4.2.2
  have k4 : sQ wl_le zTr zOle_bind zMle_bind [1] η1 x4 η2 ∧ oQle_bind [1] η1 x4 η2 := ⟨h4.1, h4.2.1⟩
  refine yj_a ?_ ?_
  · have hs : η 0 7 ≤ η 0 6 := hig.1.1.1.1
    have hk1 : η 0 45 = 0 → 1 ≤ η 0 19 := hig.2.1
    have hm : 10 * (η 0 6 - η 0 7) + η 0 8 ≤ 10 * (η0 0 6 - η0 0 7) + η0 0 8 := hig.2.2
    have bd43 : (0 : Int) ≤ η 0 43 ∧ η 0 43 ≤ 8 := wf_ok (a := 43) (b := 43) (z := (0, 8)) hI.1.1 (by decide +kernel) (Nat.le_refl _) (Nat.le_refl _)
    have bd44 : (0 : Int) ≤ η 0 44 ∧ η 0 44 ≤ 64 := wf_ok (a := 44) (b := 44) (z := (0, 64)) hI.1.1 (by decide +kernel) (Nat.le_refl _) (Nat.le_refl _)
    have bd19 : (0 : Int) ≤ η 0 19 ∧ η 0 19 ≤ 64 := wf_ok (a := 19) (b := 19) (z := (0, 64)) hI.1.1 (by decide +kernel) (Nat.le_refl _) (Nat.le_refl _)
    have y1 : fQle_isSign [59] η x1 η1 := h1.2.2
    have k1 : sQ wl_le zTr zOle_isSign zMle_isSign [59] η x1 η1 ∧ oQle_isSign [59] η x1 η1 := ⟨h1.1, h1.2.1⟩
    have y4 : fQle_bind [1] η1 x4 η2 := h4.2.2
    have k4 : sQ wl_le zTr zOle_bind zMle_bind [1] η1 x4 η2 ∧ oQle_bind [1] η1 x4 η2 := ⟨h4.1, h4.2.1⟩
    have c0_0_41 : η 0 41 = η 0 41 := rfl
    have w0_0_43 : (0 : Int) ≤ η 0 43 ∧ η 0 43 ≤ 8 := wf_ok (a := 43) (b := 43) (z := (0, 8)) hI.1.1 (by decide +kernel) (Nat.le_refl _) (Nat.le_refl _)
    have c0_0_43 : η 0 43 = η 0 43 := rfl
    have c0_0_42 : η 0 42 = η 0 42 := rfl
    have c0_0_45 : η 0 45 = η 0 45 := rfl
    have w0_0_19 : (0 : Int) ≤ η 0 19 ∧ η 0 19 ≤ 64 := wf_ok (a := 19) (b := 19) (z := (0, 64)) hI.1.1 (by decide +kernel) (Nat.le_refl _) (Nat.le_refl _)
    have c0_0_19 : η 0 19 = η 0 19 := rfl
    have w0_0_44 : (0 : Int) ≤ η 0 44 ∧ η 0 44 ≤ 64 := wf_ok (a := 44) (b := 44) (z := (0, 64)) hI.1.1 (by decide +kernel) (Nat.le_refl _) (Nat.le_refl _)
    have c0_0_44 : η 0 44 = η 0 44 := rfl
    have w0_0_7 : (0 : Int) ≤ η 0 7 ∧ η 0 7 ≤ 700 := wf_ok (a := 7) (b := 7) (z := (0, 700)) hI.1.1 (by decide +kernel) (Nat.le_refl _) (Nat.le_refl _)
    have c0_0_7 : η 0 7 = η 0 7 := rfl
    have w0_0_6 : (0 : Int) ≤ η 0 6 ∧ η 0 6 ≤ 700 := wf_ok (a := 6) (b := 6) (z := (0, 700)) hI.1.1 (by decide +kernel) (Nat.le_refl _) (Nat.le_refl _)
    have c0_0_6 : η 0 6 = η 0 6 := rfl
    have w0_0_8 : (0 : Int) ≤ η 0 8 ∧ η 0 8 ≤ 6 := wf_ok (a := 8) (b := 8) (z := (0, 6)) hI.1.1 (by decide +kernel) (Nat.le_refl _) (Nat.le_refl _)
    have c0_0_8 : η 0 8 = η 0 8 := rfl
    have bx1 : (0 : Int) ≤ x1 ∧ x1 ≤ 1 := k1.1.2.1
    have v9 : zEq (η1 0 45) (η 0 45) := (k1.1.2.2.2.1 0 45 (by decide +kernel)).trans rfl
    replace e2 : x2 = η 0 45 := e2.trans v9
    replace r2 : 0 ≤ x2 ∧ x2 ≤ 1 := r2
    have v10 : zEq (η1 0 43) (η 0 43) := (k1.1.2.2.2.1 0 43 (by decide +kernel)).trans rfl
    replace e3 : x3 = η 0 43 := e3.trans v10
    have v11 : zEq (η1 0 41) (η 0 41) := (k1.1.2.2.2.1 0 41 (by decide +kernel)).trans rfl
    have c1_0_41 : η1 0 41 = η 0 41 := v11
    have c1_0_43 : η1 0 43 = η 0 43 := v10
    have v12 : zEq (η1 0 42) (η 0 42) := (k1.1.2.2.2.1 0 42 (by decide +kernel)).trans rfl
    have c1_0_42 : η1 0 42 = η 0 42 := v12
    have c1_0_45 : η1 0 45 = η 0 45 := v9
    have v13 : zEq (η1 0 19) (η 0 19) := (k1.1.2.2.2.1 0 19 (by decide +kernel)).trans rfl
    have c1_0_19 : η1 0 19 = η 0 19 := v13
    have v14 : zEq (η1 0 44) (η 0 44) := (k1.1.2.2.2.1 0 44 (by decide +kernel)).trans rfl
    have c1_0_44 : η1 0 44 = η 0 44 := v14
    have v15 : zEq (η1 0 7) (η 0 7) := (k1.1.2.2.2.1 0 7 (by decide +kernel)).trans rfl
    have c1_0_7 : η1 0 7 = η 0 7 := v15
    have v16 : zEq (η1 0 6) (η 0 6) := (k1.1.2.2.2.1 0 6 (by decide +kernel)).trans rfl
    have c1_0_6 : η1 0 6 = η 0 6 := v16
    have v17 : zEq (η1 0 8) (η 0 8) := (k1.1.2.2.2.1 0 8 (by decide +kernel)).trans rfl
    have c1_0_8 : η1 0 8 = η 0 8 := v17
    have bx4 : (0 : Int) ≤ x4 ∧ x4 ≤ 0 := k4.1.2.1
    have fm1 : zFm zMle_sumRead η0 η1 := zFm_tr2 hI.2 k1.1.2.2.2.1 (by decide +kernel)
    have fm2 : zFm zMle_sumRead η0 η2 := zFm_tr2 fm1 k4.1.2.2.2.1 (by decide +kernel)
    have fmE : zFm zMle_sumRead η0 η2 := fm2
    have fr22_0 : ∀ j, η 22 j = η 22 j := fun _ => rfl
    have v18 : ∀ j, η1 22 j = η 22 j := fun j => k1.1.2.2.2.1 22 _ (zinr_not (by decide +kernel))
    have fr22_1 : ∀ j, η1 22 j = η 22 j := v18
    have v19 : ∀ j, η2 22 j = η 22 j := fun j => (k4.1.2.2.2.1 22 _ (zinr_not (by decide +kernel))).trans (v18 j)
    have fr22_2 : ∀ j, η2 22 j = η 22 j := v19
    have fr22 : ∀ j, η2 22 j = η 22 j := v19
    have f0_41 : η2 0 41 = η2 0 41 := rfl
    have v21 : zEq (η2 0 43) (η 0 43) := (k4.1.2.2.2.1 0 43 (by decide +kernel)).trans v10
    have f0_43 : η2 0 43 = η 0 43 := v21
    have f0_42 : η2 0 42 = η2 0 42 := rfl
    have v23 : zEq (η2 0 45) (η 0 45) := (k4.1.2.2.2.1 0 45 (by decide +kernel)).trans v9
    have f0_45 : η2 0 45 = η 0 45 := v23
    have w2_0_19 : (0 : Int) ≤ η2 0 19 ∧ η2 0 19 ≤ 64 := wf_ok (a := 19) (b := 19) (z := (0, 64)) k4.1.1 (by decide +kernel) (Nat.le_refl _) (Nat.le_refl _)
    have f0_19 : η2 0 19 = η2 0 19 := rfl
    have v25 : zEq (η2 0 44) (η 0 44) := (k4.1.2.2.2.1 0 44 (by decide +kernel)).trans v14
    have f0_44 : η2 0 44 = η 0 44 := v25
    have v26 : zEq (η2 0 7) (η 0 7) := (k4.1.2.2.2.1 0 7 (by decide +kernel)).trans v15
    have f0_7 : η2 0 7 = η 0 7 := v26
    have v27 : zEq (η2 0 6) (η 0 6) := (k4.1.2.2.2.1 0 6 (by decide +kernel)).trans v16
    have f0_6 : η2 0 6 = η 0 6 := v27
    have v28 : zEq (η2 0 8) (η 0 8) := (k4.1.2.2.2.1 0 8 (by decide +kernel)).trans v17
    have f0_8 : η2 0 8 = η 0 8 := v28
    obtain ⟨j1, j2, j3, j4⟩ := k4.2.1.2
    have qb : η1 0 19 ≤ η2 0 19 := k4.2.2.2
    have w0 : η2 0 41 = 0 := by
      rcases k4.2.2.1 rfl with h | h
      · exact h
      · by_cases q : η2 0 41 = 0
        · exact q
        · exfalso
          have cp := cz_pop0 (η := η2) (w := η2 0 41) (by omega) h
          have cn := cz_n (η := η2) (η2 0 41 - 1).toNat
          omega
    have cn := cz_n (η := η2) (η2 0 41).toNat
    exact ⟨k4.2.1.1, fun _ => ⟨show η2 0 19 = η2 0 44 by apply Int.le_antisymm <;> omega, show 1 ≤ η2 0 19 by omega, show 10 * (η2 0 6 - η2 0 7) + η2 0 8 ≤ 10 * (η0 0 6 - η0 0 7) + η0 0 8 by omega⟩⟩
  · have fig : yq_lI η0 η := fig
    obtain ⟨a1, b1⟩ : x1 = yq_isS 59 η ∧ η1 = η := y1
    have e2 : x2 = η1 0 45 := e2
    have e3 : x3 = η1 0 43 := e3
    have b4 : η2 = yq_bin 1 η1 := y4
    have fig : yq_lI η0 η1 := by rw [b1]; exact fig
    have a1 : x1 = yq_isS 59 η1 := by rw [b1]; exact a1
    have q := qlI_e fig ⟨by omega, by omega, by omega⟩
    rw [← b4] at q
    exact ⟨(congrArg Prod.fst q).symm, (congrArg Prod.snd q).symm⟩
set_option maxHeartbeats 8000000 in
theorem zle_sumRead_o10 {ro : Nat → List Int32} (xs : List Int) (η0 : zE) (hp : sP wl_le zTr zPle_sumRead xs η0) (hpp : pPle_sumRead xs η0) (η : zE) (hI : zsI wl_le zTr zVle_sumRead zMle_sumRead η0 0 [] η) (hig : iCle_sumRead xs η0 0 [] η) : ∀ (x1 : Int) (η1 : zE), ((gC2 wl_le [(nat_lit 0, zPle_isSign, zOle_isSign, zMle_isSign), (nat_lit 1, zPle_leafRead, zOle_leafRead, zMle_leafRead), (nat_lit 2, zPle_signs, zOle_signs, zMle_signs), (nat_lit 3, zPle_bind, zOle_bind, zMle_bind)] pCle_sumRead qCle_sumRead) 0).2 [59] η x1 η1 → (¬ x1 = 0) → ∀ x2 : Int, x2 = η1 0 (Int.toNat 45) → zok 1 x2 → (x2 = 0) → ∀ x3 : Int, x3 = η1 0 (Int.toNat 43) → zok 0 x3 → (0 < x3) → ∀ x4 : Int, x4 = η1 0 (Int.toNat 45) → zok 1 x4 → (x4 = 0) → ((gC2 wl_le [(nat_lit 0, zPle_isSign, zOle_isSign, zMle_isSign), (nat_lit 1, zPle_leafRead, zOle_leafRead, zMle_leafRead), (nat_lit 2, zPle_signs, zOle_signs, zMle_signs), (nat_lit 3, zPle_bind, zOle_bind, zMle_bind)] pCle_sumRead qCle_sumRead) 2).1 [] η1 := by
  have fig := hig.2
  have hig := hig.1
  have hs : η 0 7 ≤ η 0 6 := hig.1.1.1.1
  have hk1 : η 0 45 = 0 → 1 ≤ η 0 19 := hig.2.1
  have hm : 10 * (η 0 6 - η 0 7) + η 0 8 ≤ 10 * (η0 0 6 - η0 0 7) + η0 0 8 := hig.2.2
  have bd43 : (0 : Int) ≤ η 0 43 ∧ η 0 43 ≤ 8 := wf_ok (a := 43) (b := 43) (z := (0, 8)) hI.1.1 (by decide +kernel) (Nat.le_refl _) (Nat.le_refl _)
  have bd44 : (0 : Int) ≤ η 0 44 ∧ η 0 44 ≤ 64 := wf_ok (a := 44) (b := 44) (z := (0, 64)) hI.1.1 (by decide +kernel) (Nat.le_refl _) (Nat.le_refl _)
  have bd19 : (0 : Int) ≤ η 0 19 ∧ η 0 19 ≤ 64 := wf_ok (a := 19) (b := 19) (z := (0, 64)) hI.1.1 (by decide +kernel) (Nat.le_refl _) (Nat.le_refl _)
  intro x1 η1 h1 c1 x2 e2 r2 c2 x3 e3 r3 c3 x4 e4 r4 c4
  have y1 : fQle_isSign [59] η x1 η1 := h1.2.2
  have k1 : sQ wl_le zTr zOle_isSign zMle_isSign [59] η x1 η1 ∧ oQle_isSign [59] η x1 η1 := ⟨h1.1, h1.2.1⟩
  have c0_0_41 : η 0 41 = η 0 41 := rfl
  have w0_0_43 : (0 : Int) ≤ η 0 43 ∧ η 0 43 ≤ 8 := wf_ok (a := 43) (b := 43) (z := (0, 8)) hI.1.1 (by decide +kernel) (Nat.le_refl _) (Nat.le_refl _)
  have c0_0_43 : η 0 43 = η 0 43 := rfl
  have c0_0_42 : η 0 42 = η 0 42 := rfl
  have c0_0_45 : η 0 45 = η 0 45 := rfl
  have w0_0_19 : (0 : Int) ≤ η 0 19 ∧ η 0 19 ≤ 64 := wf_ok (a := 19) (b := 19) (z := (0, 64)) hI.1.1 (by decide +kernel) (Nat.le_refl _) (Nat.le_refl _)
  have c0_0_19 : η 0 19 = η 0 19 := rfl
  have w0_0_44 : (0 : Int) ≤ η 0 44 ∧ η 0 44 ≤ 64 := wf_ok (a := 44) (b := 44) (z := (0, 64)) hI.1.1 (by decide +kernel) (Nat.le_refl _) (Nat.le_refl _)
  have c0_0_44 : η 0 44 = η 0 44 := rfl
  have w0_0_7 : (0 : Int) ≤ η 0 7 ∧ η 0 7 ≤ 700 := wf_ok (a := 7) (b := 7) (z := (0, 700)) hI.1.1 (by decide +kernel) (Nat.le_refl _) (Nat.le_refl _)
  have c0_0_7 : η 0 7 = η 0 7 := rfl
  have w0_0_6 : (0 : Int) ≤ η 0 6 ∧ η 0 6 ≤ 700 := wf_ok (a := 6) (b := 6) (z := (0, 700)) hI.1.1 (by decide +kernel) (Nat.le_refl _) (Nat.le_refl _)
  have c0_0_6 : η 0 6 = η 0 6 := rfl
  have w0_0_8 : (0 : Int) ≤ η 0 8 ∧ η 0 8 ≤ 6 := wf_ok (a := 8) (b := 8) (z := (0, 6)) hI.1.1 (by decide +kernel) (Nat.le_refl _) (Nat.le_refl _)
  have c0_0_8 : η 0 8 = η 0 8 := rfl
  have bx1 : (0 : Int) ≤ x1 ∧ x1 ≤ 1 := k1.1.2.1
  have v9 : zEq (η1 0 45) (η 0 45) := (k1.1.2.2.2.1 0 45 (by decide +kernel)).trans rfl
  replace e2 : x2 = η 0 45 := e2.trans v9
  replace r2 : 0 ≤ x2 ∧ x2 ≤ 1 := r2
  have v10 : zEq (η1 0 43) (η 0 43) := (k1.1.2.2.2.1 0 43 (by decide +kernel)).trans rfl
  replace e3 : x3 = η 0 43 := e3.trans v10
  replace e4 : x4 = η 0 45 := e4.trans v9
  replace r4 : 0 ≤ x4 ∧ x4 ≤ 1 := r4
  have fm1 : zFm zMle_sumRead η0 η1 := zFm_tr2 hI.2 k1.1.2.2.2.1 (by decide +kernel)
  have fmE : zFm zMle_sumRead η0 η1 := fm1
  have fr22_0 : ∀ j, η 22 j = η 22 j := fun _ => rfl
  have v11 : ∀ j, η1 22 j = η 22 j := fun j => k1.1.2.2.2.1 22 _ (zinr_not (by decide +kernel))
  have fr22_1 : ∀ j, η1 22 j = η 22 j := v11
  have fr22 : ∀ j, η1 22 j = η 22 j := v11
  have v12 : zEq (η1 0 41) (η 0 41) := (k1.1.2.2.2.1 0 41 (by decide +kernel)).trans rfl
  have f0_41 : η1 0 41 = η 0 41 := v12
  have f0_43 : η1 0 43 = η 0 43 := v10
  have v13 : zEq (η1 0 42) (η 0 42) := (k1.1.2.2.2.1 0 42 (by decide +kernel)).trans rfl
  have f0_42 : η1 0 42 = η 0 42 := v13
  have f0_45 : η1 0 45 = η 0 45 := v9
  have v14 : zEq (η1 0 19) (η 0 19) := (k1.1.2.2.2.1 0 19 (by decide +kernel)).trans rfl
  have f0_19 : η1 0 19 = η 0 19 := v14
  have v15 : zEq (η1 0 44) (η 0 44) := (k1.1.2.2.2.1 0 44 (by decide +kernel)).trans rfl
  have f0_44 : η1 0 44 = η 0 44 := v15
  have v16 : zEq (η1 0 7) (η 0 7) := (k1.1.2.2.2.1 0 7 (by decide +kernel)).trans rfl
  have f0_7 : η1 0 7 = η 0 7 := v16
  have v17 : zEq (η1 0 6) (η 0 6) := (k1.1.2.2.2.1 0 6 (by decide +kernel)).trans rfl
  have f0_6 : η1 0 6 = η 0 6 := v17
  have v18 : zEq (η1 0 8) (η 0 8) := (k1.1.2.2.2.1 0 8 (by decide +kernel)).trans rfl
  have f0_8 : η1 0 8 = η 0 8 := v18
  exact ⟨k1.2.1, show η1 0 45 = 0 by apply Int.le_antisymm <;> omega, show 1 ≤ η1 0 19 by omega⟩
set_option maxHeartbeats 8000000 in
theorem zle_sumRead_o11 {ro : Nat → List Int32} (xs : List Int) (η0 : zE) (hp : sP wl_le zTr zPle_sumRead xs η0) (hpp : pPle_sumRead xs η0) (η : zE) (hI : zsI wl_le zTr zVle_sumRead zMle_sumRead η0 0 [] η) (hig : iCle_sumRead xs η0 0 [] η) : ∀ (x1 : Int) (η1 : zE), ((gC2 wl_le [(nat_lit 0, zPle_isSign, zOle_isSign, zMle_isSign), (nat_lit 1, zPle_leafRead, zOle_leafRead, zMle_leafRead), (nat_lit 2, zPle_signs, zOle_signs, zMle_signs), (nat_lit 3, zPle_bind, zOle_bind, zMle_bind)] pCle_sumRead qCle_sumRead) 0).2 [59] η x1 η1 → (¬ x1 = 0) → ∀ x2 : Int, x2 = η1 0 (Int.toNat 45) → zok 1 x2 → (x2 = 0) → ∀ x3 : Int, x3 = η1 0 (Int.toNat 43) → zok 0 x3 → (0 < x3) → ∀ x4 : Int, x4 = η1 0 (Int.toNat 45) → zok 1 x4 → (x4 = 0) → ∀ (x5 : Int) (η2 : zE), ((gC2 wl_le [(nat_lit 0, zPle_isSign, zOle_isSign, zMle_isSign), (nat_lit 1, zPle_leafRead, zOle_leafRead, zMle_leafRead), (nat_lit 2, zPle_signs, zOle_signs, zMle_signs), (nat_lit 3, zPle_bind, zOle_bind, zMle_bind)] pCle_sumRead qCle_sumRead) 2).2 [] η1 x5 η2 → (x5 = 0) → (fun (_ : Nat) (y : Int) (η' : zE) => pQle_sumRead xs η0 y η') 0 0 η2 := by
  have fig := hig.2
  have hig := hig.1
  intro x1 η1 h1 c1 x2 e2 r2 c2 x3 e3 r3 c3 x4 e4 r4 c4 x5 η2 h5 c5
  have y1 : fQle_isSign [59] η x1 η1 := h1.2.2
  have k1 : sQ wl_le zTr zOle_isSign zMle_isSign [59] η x1 η1 ∧ oQle_isSign [59] η x1 η1 := ⟨h1.1, h1.2.1⟩
  have y5 : fQle_signs [] η1 x5 η2 := h5.2.2
  have k5 : sQ wl_le zTr zOle_signs zMle_signs [] η1 x5 η2 ∧ oQle_signs [] η1 x5 η2 := ⟨h5.1, h5.2.1⟩
  refine yj_a ?_ ?_
  · have y1 : fQle_isSign [59] η x1 η1 := h1.2.2
    have k1 : sQ wl_le zTr zOle_isSign zMle_isSign [59] η x1 η1 ∧ oQle_isSign [59] η x1 η1 := ⟨h1.1, h1.2.1⟩
    have y5 : fQle_signs [] η1 x5 η2 := h5.2.2
    have k5 : sQ wl_le zTr zOle_signs zMle_signs [] η1 x5 η2 ∧ oQle_signs [] η1 x5 η2 := ⟨h5.1, h5.2.1⟩
    exact ⟨k5.2.1, fun w => absurd rfl w⟩
  · have fig : yq_lI η0 η := fig
    obtain ⟨a1, b1⟩ : x1 = yq_isS 59 η ∧ η1 = η := y1
    have e2 : x2 = η1 0 45 := e2
    have e3 : x3 = η1 0 43 := e3
    have e4 : x4 = η1 0 45 := e4
    obtain ⟨a5, b5⟩ : x5 = (yq_sgn η1).1 ∧ η2 = (yq_sgn η1).2 := y5
    have fig : yq_lI η0 η1 := by rw [b1]; exact fig
    have a1 : x1 = yq_isS 59 η1 := by rw [b1]; exact a1
    have q := qlI_s fig (by omega) (by omega)
    rw [← a5, ← b5] at q
    have q := q.1 (by omega)
    
    exact ⟨(congrArg Prod.fst q).symm, (congrArg Prod.snd q).symm⟩
set_option maxHeartbeats 8000000 in
theorem zle_sumRead_o12 {ro : Nat → List Int32} (xs : List Int) (η0 : zE) (hp : sP wl_le zTr zPle_sumRead xs η0) (hpp : pPle_sumRead xs η0) (η : zE) (hI : zsI wl_le zTr zVle_sumRead zMle_sumRead η0 0 [] η) (hig : iCle_sumRead xs η0 0 [] η) : ∀ (x1 : Int) (η1 : zE), ((gC wl_le [(nat_lit 0, zPle_isSign, zOle_isSign, zMle_isSign), (nat_lit 1, zPle_leafRead, zOle_leafRead, zMle_leafRead), (nat_lit 2, zPle_signs, zOle_signs, zMle_signs), (nat_lit 3, zPle_bind, zOle_bind, zMle_bind)] pCle_sumRead qCle_sumRead) 0).2 [59] η x1 η1 → (x1 = 0) → ∀ x2 : Int, x2 = η1 0 (Int.toNat 45) → zok 1 x2 → (x2 = 0) → ∀ (x3 : Int) (η2 : zE), ((gC wl_le [(nat_lit 0, zPle_isSign, zOle_isSign, zMle_isSign), (nat_lit 1, zPle_leafRead, zOle_leafRead, zMle_leafRead), (nat_lit 2, zPle_signs, zOle_signs, zMle_signs), (nat_lit 3, zPle_bind, zOle_bind, zMle_bind)] pCle_sumRead qCle_sumRead) 2).2 [] η1 x3 η2 → (¬ x3 = 0) → (fun c ys η1 => zsI wl_le zTr zVle_sumRead zMle_sumRead η0 c ys η1 ∧ iCle_sumRead xs η0 c ys η1) 0 [] η2 ∧ (zsM zVle_sumRead) 0 [] η2 < zsM zVle_sumRead 0 [] η := by
  have fig := hig.2
  have hig := hig.1
  intro x1 η1 h1 c1 x2 e2 r2 c2 x3 η2 h3 c3
  have y1 : fQle_isSign [59] η x1 η1 := h1.2.2
  have k1 : sQ wl_le zTr zOle_isSign zMle_isSign [59] η x1 η1 ∧ oQle_isSign [59] η x1 η1 := ⟨h1.1, h1.2.1⟩
  have y3 : fQle_signs [] η1 x3 η2 := h3.2.2
  have k3 : sQ wl_le zTr zOle_signs zMle_signs [] η1 x3 η2 ∧ oQle_signs [] η1 x3 η2 := ⟨h3.1, h3.2.1⟩
  refine yj_d ?_ ?_
  · have hs : η 0 7 ≤ η 0 6 := hig.1.1.1.1
    have hk1 : η 0 45 = 0 → 1 ≤ η 0 19 := hig.2.1
    have hm : 10 * (η 0 6 - η 0 7) + η 0 8 ≤ 10 * (η0 0 6 - η0 0 7) + η0 0 8 := hig.2.2
    have bd43 : (0 : Int) ≤ η 0 43 ∧ η 0 43 ≤ 8 := wf_ok (a := 43) (b := 43) (z := (0, 8)) hI.1.1 (by decide +kernel) (Nat.le_refl _) (Nat.le_refl _)
    have bd44 : (0 : Int) ≤ η 0 44 ∧ η 0 44 ≤ 64 := wf_ok (a := 44) (b := 44) (z := (0, 64)) hI.1.1 (by decide +kernel) (Nat.le_refl _) (Nat.le_refl _)
    have bd19 : (0 : Int) ≤ η 0 19 ∧ η 0 19 ≤ 64 := wf_ok (a := 19) (b := 19) (z := (0, 64)) hI.1.1 (by decide +kernel) (Nat.le_refl _) (Nat.le_refl _)
    have y1 : fQle_isSign [59] η x1 η1 := h1.2.2
    have k1 : sQ wl_le zTr zOle_isSign zMle_isSign [59] η x1 η1 ∧ oQle_isSign [59] η x1 η1 := ⟨h1.1, h1.2.1⟩
    have y3 : fQle_signs [] η1 x3 η2 := h3.2.2
    have k3 : sQ wl_le zTr zOle_signs zMle_signs [] η1 x3 η2 ∧ oQle_signs [] η1 x3 η2 := ⟨h3.1, h3.2.1⟩
    have c0_0_41 : η 0 41 = η 0 41 := rfl
    have w0_0_43 : (0 : Int) ≤ η 0 43 ∧ η 0 43 ≤ 8 := wf_ok (a := 43) (b := 43) (z := (0, 8)) hI.1.1 (by decide +kernel) (Nat.le_refl _) (Nat.le_refl _)
    have c0_0_43 : η 0 43 = η 0 43 := rfl
    have c0_0_42 : η 0 42 = η 0 42 := rfl
    have c0_0_45 : η 0 45 = η 0 45 := rfl
    have w0_0_19 : (0 : Int) ≤ η 0 19 ∧ η 0 19 ≤ 64 := wf_ok (a := 19) (b := 19) (z := (0, 64)) hI.1.1 (by decide +kernel) (Nat.le_refl _) (Nat.le_refl _)
    have c0_0_19 : η 0 19 = η 0 19 := rfl
    have w0_0_44 : (0 : Int) ≤ η 0 44 ∧ η 0 44 ≤ 64 := wf_ok (a := 44) (b := 44) (z := (0, 64)) hI.1.1 (by decide +kernel) (Nat.le_refl _) (Nat.le_refl _)
    have c0_0_44 : η 0 44 = η 0 44 := rfl
    have w0_0_7 : (0 : Int) ≤ η 0 7 ∧ η 0 7 ≤ 700 := wf_ok (a := 7) (b := 7) (z := (0, 700)) hI.1.1 (by decide +kernel) (Nat.le_refl _) (Nat.le_refl _)
    have c0_0_7 : η 0 7 = η 0 7 := rfl
    have w0_0_6 : (0 : Int) ≤ η 0 6 ∧ η 0 6 ≤ 700 := wf_ok (a := 6) (b := 6) (z := (0, 700)) hI.1.1 (by decide +kernel) (Nat.le_refl _) (Nat.le_refl _)
    have c0_0_6 : η 0 6 = η 0 6 := rfl
    have w0_0_8 : (0 : Int) ≤ η 0 8 ∧ η 0 8 ≤ 6 := wf_ok (a := 8) (b := 8) (z := (0, 6)) hI.1.1 (by decide +kernel) (Nat.le_refl _) (Nat.le_refl _)
    have c0_0_8 : η 0 8 = η 0 8 := rfl
    have wb1 : wB wl_le zTr η1 := k1.1.1
    have bx1 : (0 : Int) ≤ x1 ∧ x1 ≤ 1 := k1.1.2.1
    have v9 : zEq (η1 0 45) (η 0 45) := (k1.1.2.2.2.1 0 45 (by decide +kernel)).trans rfl
    replace e2 : x2 = η 0 45 := e2.trans v9
    replace r2 : 0 ≤ x2 ∧ x2 ≤ 1 := r2
    have v10 : zEq (η1 0 41) (η 0 41) := (k1.1.2.2.2.1 0 41 (by decide +kernel)).trans rfl
    have c1_0_41 : η1 0 41 = η 0 41 := v10
    have v11 : zEq (η1 0 43) (η 0 43) := (k1.1.2.2.2.1 0 43 (by decide +kernel)).trans rfl
    have c1_0_43 : η1 0 43 = η 0 43 := v11
    have v12 : zEq (η1 0 42) (η 0 42) := (k1.1.2.2.2.1 0 42 (by decide +kernel)).trans rfl
    have c1_0_42 : η1 0 42 = η 0 42 := v12
    have c1_0_45 : η1 0 45 = η 0 45 := v9
    have v13 : zEq (η1 0 19) (η 0 19) := (k1.1.2.2.2.1 0 19 (by decide +kernel)).trans rfl
    have c1_0_19 : η1 0 19 = η 0 19 := v13
    have v14 : zEq (η1 0 44) (η 0 44) := (k1.1.2.2.2.1 0 44 (by decide +kernel)).trans rfl
    have c1_0_44 : η1 0 44 = η 0 44 := v14
    have v15 : zEq (η1 0 7) (η 0 7) := (k1.1.2.2.2.1 0 7 (by decide +kernel)).trans rfl
    have c1_0_7 : η1 0 7 = η 0 7 := v15
    have v16 : zEq (η1 0 6) (η 0 6) := (k1.1.2.2.2.1 0 6 (by decide +kernel)).trans rfl
    have c1_0_6 : η1 0 6 = η 0 6 := v16
    have v17 : zEq (η1 0 8) (η 0 8) := (k1.1.2.2.2.1 0 8 (by decide +kernel)).trans rfl
    have c1_0_8 : η1 0 8 = η 0 8 := v17
    have wb2 : wB wl_le zTr η2 := k3.1.1
    have bx3 : (0 : Int) ≤ x3 ∧ x3 ≤ 1 := k3.1.2.1
    have fm1 : zFm zMle_sumRead η0 η1 := zFm_tr2 hI.2 k1.1.2.2.2.1 (by decide +kernel)
    have fm2 : zFm zMle_sumRead η0 η2 := zFm_tr2 fm1 k3.1.2.2.2.1 (by decide +kernel)
    have fmE : zFm zMle_sumRead η0 η2 := fm2
    have fr22_0 : ∀ j, η 22 j = η 22 j := fun _ => rfl
    have v18 : ∀ j, η1 22 j = η 22 j := fun j => k1.1.2.2.2.1 22 _ (zinr_not (by decide +kernel))
    have fr22_1 : ∀ j, η1 22 j = η 22 j := v18
    have fr22_2 : ∀ j, η2 22 j = η2 22 j := fun _ => rfl
    have fr22 : ∀ j, η2 22 j = η2 22 j := fun _ => rfl
    have f0_41 : η2 0 41 = η2 0 41 := rfl
    have w2_0_43 : (0 : Int) ≤ η2 0 43 ∧ η2 0 43 ≤ 8 := wf_ok (a := 43) (b := 43) (z := (0, 8)) k3.1.1 (by decide +kernel) (Nat.le_refl _) (Nat.le_refl _)
    have f0_43 : η2 0 43 = η2 0 43 := rfl
    have f0_42 : η2 0 42 = η2 0 42 := rfl
    have f0_45 : η2 0 45 = η2 0 45 := rfl
    have w2_0_19 : (0 : Int) ≤ η2 0 19 ∧ η2 0 19 ≤ 64 := wf_ok (a := 19) (b := 19) (z := (0, 64)) k3.1.1 (by decide +kernel) (Nat.le_refl _) (Nat.le_refl _)
    have f0_19 : η2 0 19 = η2 0 19 := rfl
    have w2_0_44 : (0 : Int) ≤ η2 0 44 ∧ η2 0 44 ≤ 64 := wf_ok (a := 44) (b := 44) (z := (0, 64)) k3.1.1 (by decide +kernel) (Nat.le_refl _) (Nat.le_refl _)
    have f0_44 : η2 0 44 = η2 0 44 := rfl
    have w2_0_7 : (0 : Int) ≤ η2 0 7 ∧ η2 0 7 ≤ 700 := wf_ok (a := 7) (b := 7) (z := (0, 700)) k3.1.1 (by decide +kernel) (Nat.le_refl _) (Nat.le_refl _)
    have f0_7 : η2 0 7 = η2 0 7 := rfl
    have v27 : zEq (η2 0 6) (η 0 6) := (k3.1.2.2.2.1 0 6 (by decide +kernel)).trans v16
    have f0_6 : η2 0 6 = η 0 6 := v27
    have w2_0_8 : (0 : Int) ≤ η2 0 8 ∧ η2 0 8 ≤ 6 := wf_ok (a := 8) (b := 8) (z := (0, 6)) k3.1.1 (by decide +kernel) (Nat.le_refl _) (Nat.le_refl _)
    have f0_8 : η2 0 8 = η2 0 8 := rfl
    have wbE : wB wl_le zTr η2 := wb2
    
    have sc := k3.2.2 c3
    have mu : 10 * (η2 0 6 - η2 0 7) + η2 0 8 < 10 * (η1 0 6 - η1 0 7) + η1 0 8 := sc.2.1
    have hs2 : η2 0 7 ≤ η2 0 6 := sc.1.1.1.1
    exact ⟨⟨⟨⟨wbE, trivial, fun f hf => nomatch hf⟩, fmE⟩, sc.1, sc.2.2, show 10 * (η2 0 6 - η2 0 7) + η2 0 8 ≤ 10 * (η0 0 6 - η0 0 7) + η0 0 8 by omega⟩, by
      show ((0 : Int) + (10 * η2 0 6 + (-10 * η2 0 7 + (1 * η2 0 8 + 0)))).toNat < ((0 : Int) + (10 * η 0 6 + (-10 * η 0 7 + (1 * η 0 8 + 0)))).toNat
      omega⟩
  · have fig : yq_lI η0 η := fig
    obtain ⟨a1, b1⟩ : x1 = yq_isS 59 η ∧ η1 = η := y1
    have e2 : x2 = η1 0 45 := e2
    obtain ⟨a3, b3⟩ : x3 = (yq_sgn η1).1 ∧ η2 = (yq_sgn η1).2 := y3
    have fig : yq_lI η0 η1 := by rw [b1]; exact fig
    have a1 : x1 = yq_isS 59 η1 := by rw [b1]; exact a1
    have q := qlI_s fig (by omega) (by omega)
    rw [← a3, ← b3] at q
    have mu := (k3.2.2 (by omega)).2.1
    refine q.2 (by omega) ?_
    have hs := (k3.2.2 (by omega)).1.1.1.1
    have w8 : (0 : Int) ≤ η2 0 8 ∧ η2 0 8 ≤ 6 := wf_ok (a := 8) (b := 8) (z := (0, 6)) k3.1.1 (by decide +kernel) (Nat.le_refl _) (Nat.le_refl _)
    unfold yq_mu
    omega
