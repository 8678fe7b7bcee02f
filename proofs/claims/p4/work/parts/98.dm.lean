def zPl_grown : zPq := ([((.ofNat (nat_lit 0)), (.ofNat (nat_lit 14))), ((.negSucc (nat_lit 2147483647)), (.ofNat (nat_lit 2147483647))), ((.negSucc (nat_lit 2147483647)), (.ofNat (nat_lit 2147483647)))], [])
def zOl_grown : zPo := (((.ofNat (nat_lit 0)), (.ofNat (nat_lit 0))), [], [])
def zMl_grown : List zCe := [(nat_lit 0, nat_lit 43), (nat_lit 0, nat_lit 20), (nat_lit 19, nat_lit 0), (nat_lit 20, nat_lit 0), (nat_lit 21, nat_lit 0), (nat_lit 23, nat_lit 0)]
def pPl_grown : List Int → zE → Prop := fun xs η => (H_l 1 0 0 η ∨ H_l 1 0 (-1) η) ∧ T3_l (xs.getD 0 0) (xs.getD 1 0) (xs.getD 2 0) ∧ 0 ≤ η 0 42 ∧ η 0 42 ≤ 95
def pQl_grown : List Int → zE → Int → zE → Prop := fun _ η _ η' => (H_l 1 0 0 η → H_l 0 0 1 η') ∧ (H_l 1 0 (-1) η → G_l η') ∧ η' 0 19 = η 0 19 + 1
def pCl_grown : Nat → List Int → zE → Prop := fun c => match c with
  | _ => fun _ _ => True
def qCl_grown : Nat → List Int → zE → Int → zE → Prop := fun c => match c with
  | _ => fun _ _ _ _ => True
def iCl_grown : List Int → zE → Nat → List Int → zE → Prop := fun xs η0 c => match c with
  | _ => fun _ _ => True
def zVl_grown : List zIv := []
def zDl_grown : List (List zK) := []
def zEl_grown : List (List zK) := []
def zFl_grown : List (List zK) := [[(nat_lit 7, nat_lit 0, [(nat_lit 5, (.ofNat (nat_lit 0))), (nat_lit 0, (.ofNat (nat_lit 128)))]), (nat_lit 0, nat_lit 1, [(nat_lit 0, (.ofNat (nat_lit 64))), (nat_lit 4, (.ofNat (nat_lit 0)))]), (nat_lit 4, nat_lit 0, [(nat_lit 0, (.ofNat (nat_lit 0))), (nat_lit 0, (.ofNat (nat_lit 19)))])],
  [(nat_lit 7, nat_lit 0, [(nat_lit 7, (.ofNat (nat_lit 0))), (nat_lit 0, (.ofNat (nat_lit 128)))]), (nat_lit 0, nat_lit 1, [(nat_lit 0, (.ofNat (nat_lit 64))), (nat_lit 6, (.ofNat (nat_lit 0)))]), (nat_lit 4, nat_lit 0, [(nat_lit 0, (.ofNat (nat_lit 0))), (nat_lit 0, (.ofNat (nat_lit 19)))]), (nat_lit 5, nat_lit 0, [(nat_lit 19, (.ofNat (nat_lit 0))), (nat_lit 5, (.ofNat (nat_lit 0))), (nat_lit 1, (.ofNat (nat_lit 0)))]), (nat_lit 0, nat_lit 1, [(nat_lit 0, (.ofNat (nat_lit 64))), (nat_lit 4, (.ofNat (nat_lit 0)))]), (nat_lit 4, nat_lit 0, [(nat_lit 0, (.ofNat (nat_lit 0))), (nat_lit 0, (.ofNat (nat_lit 19)))])],
  [(nat_lit 7, nat_lit 0, [(nat_lit 9, (.ofNat (nat_lit 0))), (nat_lit 0, (.ofNat (nat_lit 128)))]), (nat_lit 0, nat_lit 1, [(nat_lit 0, (.ofNat (nat_lit 64))), (nat_lit 8, (.ofNat (nat_lit 0)))]), (nat_lit 4, nat_lit 0, [(nat_lit 0, (.ofNat (nat_lit 0))), (nat_lit 0, (.ofNat (nat_lit 19)))]), (nat_lit 5, nat_lit 0, [(nat_lit 20, (.ofNat (nat_lit 0))), (nat_lit 7, (.ofNat (nat_lit 0))), (nat_lit 2, (.ofNat (nat_lit 0)))]), (nat_lit 0, nat_lit 1, [(nat_lit 0, (.ofNat (nat_lit 64))), (nat_lit 6, (.ofNat (nat_lit 0)))]), (nat_lit 4, nat_lit 0, [(nat_lit 0, (.ofNat (nat_lit 0))), (nat_lit 0, (.ofNat (nat_lit 19)))]), (nat_lit 5, nat_lit 0, [(nat_lit 19, (.ofNat (nat_lit 0))), (nat_lit 5, (.ofNat (nat_lit 0))), (nat_lit 1, (.ofNat (nat_lit 0)))]), (nat_lit 0, nat_lit 1, [(nat_lit 0, (.ofNat (nat_lit 64))), (nat_lit 4, (.ofNat (nat_lit 0)))]), (nat_lit 4, nat_lit 0, [(nat_lit 0, (.ofNat (nat_lit 0))), (nat_lit 0, (.ofNat (nat_lit 19)))])],
  [(nat_lit 7, nat_lit 0, [(nat_lit 10, (.ofNat (nat_lit 0))), (nat_lit 0, (.ofNat (nat_lit 96)))]), (nat_lit 4, nat_lit 0, [(nat_lit 0, (.ofNat (nat_lit 0))), (nat_lit 0, (.ofNat (nat_lit 19)))]), (nat_lit 4, nat_lit 0, [(nat_lit 0, (.ofNat (nat_lit 0))), (nat_lit 0, (.ofNat (nat_lit 42)))]), (nat_lit 5, nat_lit 0, [(nat_lit 21, (.ofNat (nat_lit 0))), (nat_lit 9, (.ofNat (nat_lit 0))), (nat_lit 3, (.ofNat (nat_lit 0)))]), (nat_lit 0, nat_lit 1, [(nat_lit 0, (.ofNat (nat_lit 64))), (nat_lit 8, (.ofNat (nat_lit 0)))]), (nat_lit 4, nat_lit 0, [(nat_lit 0, (.ofNat (nat_lit 0))), (nat_lit 0, (.ofNat (nat_lit 19)))]), (nat_lit 5, nat_lit 0, [(nat_lit 20, (.ofNat (nat_lit 0))), (nat_lit 7, (.ofNat (nat_lit 0))), (nat_lit 2, (.ofNat (nat_lit 0)))]), (nat_lit 0, nat_lit 1, [(nat_lit 0, (.ofNat (nat_lit 64))), (nat_lit 6, (.ofNat (nat_lit 0)))]), (nat_lit 4, nat_lit 0, [(nat_lit 0, (.ofNat (nat_lit 0))), (nat_lit 0, (.ofNat (nat_lit 19)))]), (nat_lit 5, nat_lit 0, [(nat_lit 19, (.ofNat (nat_lit 0))), (nat_lit 5, (.ofNat (nat_lit 0))), (nat_lit 1, (.ofNat (nat_lit 0)))]), (nat_lit 0, nat_lit 1, [(nat_lit 0, (.ofNat (nat_lit 64))), (nat_lit 4, (.ofNat (nat_lit 0)))]), (nat_lit 4, nat_lit 0, [(nat_lit 0, (.ofNat (nat_lit 0))), (nat_lit 0, (.ofNat (nat_lit 19)))])],
  [(nat_lit 11, nat_lit 0, [(nat_lit 0, (.ofNat (nat_lit 0)))]), (nat_lit 5, nat_lit 0, [(nat_lit 0, (.ofNat (nat_lit 0))), (nat_lit 0, (.ofNat (nat_lit 19))), (nat_lit 15, (.ofNat (nat_lit 0)))]), (nat_lit 0, nat_lit 1, [(nat_lit 14, (.ofNat (nat_lit 0))), (nat_lit 0, (.ofNat (nat_lit 1)))]), (nat_lit 4, nat_lit 0, [(nat_lit 0, (.ofNat (nat_lit 0))), (nat_lit 0, (.ofNat (nat_lit 19)))]), (nat_lit 5, nat_lit 0, [(nat_lit 0, (.ofNat (nat_lit 0))), (nat_lit 0, (.ofNat (nat_lit 42))), (nat_lit 13, (.ofNat (nat_lit 0)))]), (nat_lit 0, nat_lit 1, [(nat_lit 12, (.ofNat (nat_lit 0))), (nat_lit 0, (.ofNat (nat_lit 1)))]), (nat_lit 4, nat_lit 0, [(nat_lit 0, (.ofNat (nat_lit 0))), (nat_lit 0, (.ofNat (nat_lit 42)))]), (nat_lit 5, nat_lit 0, [(nat_lit 23, (.ofNat (nat_lit 0))), (nat_lit 10, (.ofNat (nat_lit 0))), (nat_lit 11, (.ofNat (nat_lit 0)))]), (nat_lit 4, nat_lit 0, [(nat_lit 0, (.ofNat (nat_lit 0))), (nat_lit 0, (.ofNat (nat_lit 19)))]), (nat_lit 4, nat_lit 0, [(nat_lit 0, (.ofNat (nat_lit 0))), (nat_lit 0, (.ofNat (nat_lit 42)))]), (nat_lit 5, nat_lit 0, [(nat_lit 21, (.ofNat (nat_lit 0))), (nat_lit 9, (.ofNat (nat_lit 0))), (nat_lit 3, (.ofNat (nat_lit 0)))]), (nat_lit 0, nat_lit 1, [(nat_lit 0, (.ofNat (nat_lit 64))), (nat_lit 8, (.ofNat (nat_lit 0)))]), (nat_lit 4, nat_lit 0, [(nat_lit 0, (.ofNat (nat_lit 0))), (nat_lit 0, (.ofNat (nat_lit 19)))]), (nat_lit 5, nat_lit 0, [(nat_lit 20, (.ofNat (nat_lit 0))), (nat_lit 7, (.ofNat (nat_lit 0))), (nat_lit 2, (.ofNat (nat_lit 0)))]), (nat_lit 0, nat_lit 1, [(nat_lit 0, (.ofNat (nat_lit 64))), (nat_lit 6, (.ofNat (nat_lit 0)))]), (nat_lit 4, nat_lit 0, [(nat_lit 0, (.ofNat (nat_lit 0))), (nat_lit 0, (.ofNat (nat_lit 19)))]), (nat_lit 5, nat_lit 0, [(nat_lit 19, (.ofNat (nat_lit 0))), (nat_lit 5, (.ofNat (nat_lit 0))), (nat_lit 1, (.ofNat (nat_lit 0)))]), (nat_lit 0, nat_lit 1, [(nat_lit 0, (.ofNat (nat_lit 64))), (nat_lit 4, (.ofNat (nat_lit 0)))]), (nat_lit 4, nat_lit 0, [(nat_lit 0, (.ofNat (nat_lit 0))), (nat_lit 0, (.ofNat (nat_lit 19)))])]]
set_option maxHeartbeats 8000000 in
theorem zl_grown {ro : Nat → List Int32} : zMet pr_P pr_K pr_df ro (sm_X0 1 6) 0 141 tm_l [(.inr (.inr (.inl (nat_lit 0)))), (.inl (nat_lit 1, (.ofNat (nat_lit 0)))), (.inl (nat_lit 2, (.ofNat (nat_lit 0)))), (.inl (nat_lit 3, (.ofNat (nat_lit 0))))] 0 [(nat_lit 0, nat_lit 0, nat_lit 1), (nat_lit 0, nat_lit 3, nat_lit 2), (nat_lit 0, nat_lit 20, nat_lit 3), (nat_lit 0, nat_lit 21, nat_lit 4), (nat_lit 0, nat_lit 22, nat_lit 5), (nat_lit 0, nat_lit 23, nat_lit 6), (nat_lit 0, nat_lit 24, nat_lit 7), (nat_lit 0, nat_lit 25, nat_lit 8), (nat_lit 0, nat_lit 26, nat_lit 9), (nat_lit 0, nat_lit 27, nat_lit 10), (nat_lit 0, nat_lit 28, nat_lit 11), (nat_lit 0, nat_lit 29, nat_lit 12), (nat_lit 0, nat_lit 30, nat_lit 13), (nat_lit 0, nat_lit 31, nat_lit 14), (nat_lit 0, nat_lit 32, nat_lit 15), (nat_lit 0, nat_lit 33, nat_lit 16), (nat_lit 0, nat_lit 34, nat_lit 17), (nat_lit 0, nat_lit 35, nat_lit 18), (nat_lit 0, nat_lit 36, nat_lit 19), (nat_lit 0, nat_lit 37, nat_lit 20), (nat_lit 0, nat_lit 38, nat_lit 21), (nat_lit 0, nat_lit 39, nat_lit 22), (nat_lit 0, nat_lit 40, nat_lit 23), (nat_lit 0, nat_lit 47, nat_lit 24), (nat_lit 0, nat_lit 48, nat_lit 25), (nat_lit 0, nat_lit 50, nat_lit 26), (nat_lit 0, nat_lit 51, nat_lit 27), (nat_lit 0, nat_lit 52, nat_lit 28), (nat_lit 0, nat_lit 53, nat_lit 29), (nat_lit 0, nat_lit 54, nat_lit 30), (nat_lit 0, nat_lit 55, nat_lit 31), (nat_lit 0, nat_lit 56, nat_lit 32), (nat_lit 0, nat_lit 57, nat_lit 33), (nat_lit 0, nat_lit 58, nat_lit 34), (nat_lit 0, nat_lit 59, nat_lit 35), (nat_lit 0, nat_lit 72, nat_lit 36), (nat_lit 0, nat_lit 73, nat_lit 37), (nat_lit 0, nat_lit 76, nat_lit 38), (nat_lit 0, nat_lit 77, nat_lit 39), (nat_lit 0, nat_lit 79, nat_lit 40), (nat_lit 0, nat_lit 81, nat_lit 41), (nat_lit 0, nat_lit 82, nat_lit 42)] [] (fun xs η => sP wl_l zTr zPl_grown xs η ∧ pPl_grown xs η) (fun xs η y η' => sQ wl_l zTr zOl_grown zMl_grown xs η y η' ∧ pQl_grown xs η y η') :=
  zmet_alt (zmea_gen (mi := (nat_lit 3, nat_lit 1, nat_lit 8, nat_lit 4, nat_lit 0, tX8_grown)) (cd := []) (cu := []) (cs := []) (iv := zVl_grown) (po := [zOl_grown]) (pr := zPl_grown) (mods := zMl_grown) (D7 := zDl_grown) (D0 := zEl_grown) (Dm := zFl_grown) (f0 := 48) pCl_grown qCl_grown iCl_grown pPl_grown (fun xs η _ y η' => pQl_grown xs η y η') zX_low pr_mtR rfl (fun _ h => nomatch h) (by decide +kernel) (by decide +kernel) (by decide +kernel)
    (fun _ _ _ _ _ _ _ h => nomatch h)
    (by
      intro xs η hr hl hp hpp
      match xs, hl, hp, hpp with
      | [x1, x2, x3], _, hp, hpp =>
        refine List.forall_mem_cons.mpr ⟨?_, List.forall_mem_cons.mpr ⟨?_, List.forall_mem_cons.mpr ⟨?_, List.forall_mem_cons.mpr ⟨?_, List.forall_mem_cons.mpr ⟨?_, fun _ h => nomatch h⟩⟩⟩⟩⟩
        · show ∀ x4 : Int, x4 = η 0 (Int.toNat 19) → zok 0 x4 → ∀ x5 : Int, x5 = zd 0 1 64 x4 → (0 : Int) ≤ x5 ∧ (x5 : Int) < 128
          have hj : ∃ f, J_l 1 0 f η := by
            rcases hpp.1 with H | H
            · exact ⟨_, H.2⟩
            · exact ⟨_, H.2⟩
          obtain ⟨f, j1, j2, j3, j4⟩ := hj
          have cn := cz_n (η := η) (η 0 41).toNat
          have h0 : 0 ≤ η 0 42 := hpp.2.2.1
          have h1 : η 0 42 ≤ 95 := hpp.2.2.2
          have bd43 : (0 : Int) ≤ η 0 43 ∧ η 0 43 ≤ 8 := wf_ok (a := 43) (b := 43) (z := (0, 8)) hp.1 (by decide +kernel) (Nat.le_refl _) (Nat.le_refl _)
          have bd44 : (0 : Int) ≤ η 0 44 ∧ η 0 44 ≤ 64 := wf_ok (a := 44) (b := 44) (z := (0, 64)) hp.1 (by decide +kernel) (Nat.le_refl _) (Nat.le_refl _)
          have bd19 : (0 : Int) ≤ η 0 19 ∧ η 0 19 ≤ 64 := wf_ok (a := 19) (b := 19) (z := (0, 64)) hp.1 (by decide +kernel) (Nat.le_refl _) (Nat.le_refl _)
          intro x4 e4 r4 x5 e5
          replace e5 := zEq_i e5
          have bx1 : (0 : Int) ≤ x1 ∧ x1 ≤ 14 := hp.2.1.1
          have bx2 : ((-2147483648) : Int) ≤ x2 ∧ x2 ≤ 2147483647 := hp.2.1.2.1
          have bx3 : ((-2147483648) : Int) ≤ x3 ∧ x3 ≤ 2147483647 := hp.2.1.2.2.1
          have w0_0_19 : (0 : Int) ≤ η 0 19 ∧ η 0 19 ≤ 64 := wf_ok (a := 19) (b := 19) (z := (0, 64)) hp.1 (by decide +kernel) (Nat.le_refl _) (Nat.le_refl _)
          replace e4 : x4 = η 0 19 := e4
          replace r4 : -2147483648 ≤ x4 ∧ x4 ≤ 2147483647 := r4
          first
          | replace e5 : x5 = 64 + x4 := zd_a2 (zEq_o e5) (by clear e5; exact ⟨by omega, by omega⟩)
          | clear e5
          have fmE : zFm zMl_grown η η := zFm_rf
          have fr22_0 : ∀ j, η 22 j = η 22 j := fun _ => rfl
          have fr22 : ∀ j, η 22 j = η 22 j := fun _ => rfl
          have f0_41 : η 0 41 = η 0 41 := rfl
          have w0_0_43 : (0 : Int) ≤ η 0 43 ∧ η 0 43 ≤ 8 := wf_ok (a := 43) (b := 43) (z := (0, 8)) hp.1 (by decide +kernel) (Nat.le_refl _) (Nat.le_refl _)
          have f0_43 : η 0 43 = η 0 43 := rfl
          have f0_42 : η 0 42 = η 0 42 := rfl
          have f0_45 : η 0 45 = η 0 45 := rfl
          have f0_19 : η 0 19 = η 0 19 := rfl
          have w0_0_44 : (0 : Int) ≤ η 0 44 ∧ η 0 44 ≤ 64 := wf_ok (a := 44) (b := 44) (z := (0, 64)) hp.1 (by decide +kernel) (Nat.le_refl _) (Nat.le_refl _)
          have f0_44 : η 0 44 = η 0 44 := rfl
          exact ⟨by omega, by omega⟩
        · show ∀ x4 : Int, x4 = η 0 (Int.toNat 19) → zok 0 x4 → ∀ x5 : Int, x5 = zd 0 1 64 x4 → ∀ η1 : zE, η1 = zup η 19 (Int.toNat x5) x1 → ∀ x6 : Int, x6 = η1 0 (Int.toNat 19) → zok 0 x6 → ∀ x7 : Int, x7 = zd 0 1 64 x6 → (0 : Int) ≤ x7 ∧ (x7 : Int) < 128
          have hj : ∃ f, J_l 1 0 f η := by
            rcases hpp.1 with H | H
            · exact ⟨_, H.2⟩
            · exact ⟨_, H.2⟩
          obtain ⟨f, j1, j2, j3, j4⟩ := hj
          have cn := cz_n (η := η) (η 0 41).toNat
          have h0 : 0 ≤ η 0 42 := hpp.2.2.1
          have h1 : η 0 42 ≤ 95 := hpp.2.2.2
          have bd43 : (0 : Int) ≤ η 0 43 ∧ η 0 43 ≤ 8 := wf_ok (a := 43) (b := 43) (z := (0, 8)) hp.1 (by decide +kernel) (Nat.le_refl _) (Nat.le_refl _)
          have bd44 : (0 : Int) ≤ η 0 44 ∧ η 0 44 ≤ 64 := wf_ok (a := 44) (b := 44) (z := (0, 64)) hp.1 (by decide +kernel) (Nat.le_refl _) (Nat.le_refl _)
          have bd19 : (0 : Int) ≤ η 0 19 ∧ η 0 19 ≤ 64 := wf_ok (a := 19) (b := 19) (z := (0, 64)) hp.1 (by decide +kernel) (Nat.le_refl _) (Nat.le_refl _)
          intro x4 e4 r4 x5 e5 η1 eη1 x6 e6 r6 x7 e7
          replace e5 := zEq_i e5
          replace e7 := zEq_i e7
          have bx1 : (0 : Int) ≤ x1 ∧ x1 ≤ 14 := hp.2.1.1
          have bx2 : ((-2147483648) : Int) ≤ x2 ∧ x2 ≤ 2147483647 := hp.2.1.2.1
          have bx3 : ((-2147483648) : Int) ≤ x3 ∧ x3 ≤ 2147483647 := hp.2.1.2.2.1
          have w0_0_19 : (0 : Int) ≤ η 0 19 ∧ η 0 19 ≤ 64 := wf_ok (a := 19) (b := 19) (z := (0, 64)) hp.1 (by decide +kernel) (Nat.le_refl _) (Nat.le_refl _)
          replace e4 : x4 = η 0 19 := e4
          replace r4 : -2147483648 ≤ x4 ∧ x4 ≤ 2147483647 := r4
          first
          | replace e5 : x5 = 64 + x4 := zd_a2 (zEq_o e5) (by clear e5; exact ⟨by omega, by omega⟩)
          | clear e5
          have v1 : zEq (η1 0 19) (η 0 19) := by rw [eη1]; exact (zup_ne (fun e _ => absurd e (by decide))).trans rfl
          replace e6 : x6 = η 0 19 := e6.trans v1
          replace r6 : -2147483648 ≤ x6 ∧ x6 ≤ 2147483647 := r6
          first
          | replace e7 : x7 = 64 + x6 := zd_a2 (zEq_o e7) (by clear e7; exact ⟨by omega, by omega⟩)
          | clear e7
          have fm1 : zFm zMl_grown η η1 := by rw [eη1]; exact zFm_up zFm_rf (zin2_of (q := (19, 0)) (by decide) rfl (Or.inl rfl))
          have fmE : zFm zMl_grown η η1 := fm1
          have fr22_0 : ∀ j, η 22 j = η 22 j := fun _ => rfl
          have v2 : ∀ j, η1 22 j = η 22 j := fun j => by rw [eη1]; exact zup_ne (fun e _ => absurd e (by decide))
          have fr22_1 : ∀ j, η1 22 j = η 22 j := v2
          have fr22 : ∀ j, η1 22 j = η 22 j := v2
          have v4 : zEq (η1 0 41) (η 0 41) := by rw [eη1]; exact (zup_ne (fun e _ => absurd e (by decide))).trans rfl
          have f0_41 : η1 0 41 = η 0 41 := v4
          have w0_0_43 : (0 : Int) ≤ η 0 43 ∧ η 0 43 ≤ 8 := wf_ok (a := 43) (b := 43) (z := (0, 8)) hp.1 (by decide +kernel) (Nat.le_refl _) (Nat.le_refl _)
          have v6 : zEq (η1 0 43) (η 0 43) := by rw [eη1]; exact (zup_ne (fun e _ => absurd e (by decide))).trans rfl
          have f0_43 : η1 0 43 = η 0 43 := v6
          have v8 : zEq (η1 0 42) (η 0 42) := by rw [eη1]; exact (zup_ne (fun e _ => absurd e (by decide))).trans rfl
          have f0_42 : η1 0 42 = η 0 42 := v8
          have v10 : zEq (η1 0 45) (η 0 45) := by rw [eη1]; exact (zup_ne (fun e _ => absurd e (by decide))).trans rfl
          have f0_45 : η1 0 45 = η 0 45 := v10
          have f0_19 : η1 0 19 = η 0 19 := v1
          have w0_0_44 : (0 : Int) ≤ η 0 44 ∧ η 0 44 ≤ 64 := wf_ok (a := 44) (b := 44) (z := (0, 64)) hp.1 (by decide +kernel) (Nat.le_refl _) (Nat.le_refl _)
          have v12 : zEq (η1 0 44) (η 0 44) := by rw [eη1]; exact (zup_ne (fun e _ => absurd e (by decide))).trans rfl
          have f0_44 : η1 0 44 = η 0 44 := v12
          exact ⟨by omega, by omega⟩
        · show ∀ x4 : Int, x4 = η 0 (Int.toNat 19) → zok 0 x4 → ∀ x5 : Int, x5 = zd 0 1 64 x4 → ∀ η1 : zE, η1 = zup η 19 (Int.toNat x5) x1 → ∀ x6 : Int, x6 = η1 0 (Int.toNat 19) → zok 0 x6 → ∀ x7 : Int, x7 = zd 0 1 64 x6 → ∀ η2 : zE, η2 = zup η1 20 (Int.toNat x7) x2 → ∀ x8 : Int, x8 = η2 0 (Int.toNat 19) → zok 0 x8 → ∀ x9 : Int, x9 = zd 0 1 64 x8 → (0 : Int) ≤ x9 ∧ (x9 : Int) < 128
          have hj : ∃ f, J_l 1 0 f η := by
            rcases hpp.1 with H | H
            · exact ⟨_, H.2⟩
            · exact ⟨_, H.2⟩
          obtain ⟨f, j1, j2, j3, j4⟩ := hj
          have cn := cz_n (η := η) (η 0 41).toNat
          have h0 : 0 ≤ η 0 42 := hpp.2.2.1
          have h1 : η 0 42 ≤ 95 := hpp.2.2.2
          have bd43 : (0 : Int) ≤ η 0 43 ∧ η 0 43 ≤ 8 := wf_ok (a := 43) (b := 43) (z := (0, 8)) hp.1 (by decide +kernel) (Nat.le_refl _) (Nat.le_refl _)
          have bd44 : (0 : Int) ≤ η 0 44 ∧ η 0 44 ≤ 64 := wf_ok (a := 44) (b := 44) (z := (0, 64)) hp.1 (by decide +kernel) (Nat.le_refl _) (Nat.le_refl _)
          have bd19 : (0 : Int) ≤ η 0 19 ∧ η 0 19 ≤ 64 := wf_ok (a := 19) (b := 19) (z := (0, 64)) hp.1 (by decide +kernel) (Nat.le_refl _) (Nat.le_refl _)
          intro x4 e4 r4 x5 e5 η1 eη1 x6 e6 r6 x7 e7 η2 eη2 x8 e8 r8 x9 e9
          replace e5 := zEq_i e5
          replace e7 := zEq_i e7
          replace e9 := zEq_i e9
          have bx1 : (0 : Int) ≤ x1 ∧ x1 ≤ 14 := hp.2.1.1
          have bx2 : ((-2147483648) : Int) ≤ x2 ∧ x2 ≤ 2147483647 := hp.2.1.2.1
          have bx3 : ((-2147483648) : Int) ≤ x3 ∧ x3 ≤ 2147483647 := hp.2.1.2.2.1
          have w0_0_19 : (0 : Int) ≤ η 0 19 ∧ η 0 19 ≤ 64 := wf_ok (a := 19) (b := 19) (z := (0, 64)) hp.1 (by decide +kernel) (Nat.le_refl _) (Nat.le_refl _)
          replace e4 : x4 = η 0 19 := e4
          replace r4 : -2147483648 ≤ x4 ∧ x4 ≤ 2147483647 := r4
          first
          | replace e5 : x5 = 64 + x4 := zd_a2 (zEq_o e5) (by clear e5; exact ⟨by omega, by omega⟩)
          | clear e5
          have v1 : zEq (η1 0 19) (η 0 19) := by rw [eη1]; exact (zup_ne (fun e _ => absurd e (by decide))).trans rfl
          replace e6 : x6 = η 0 19 := e6.trans v1
          replace r6 : -2147483648 ≤ x6 ∧ x6 ≤ 2147483647 := r6
          first
          | replace e7 : x7 = 64 + x6 := zd_a2 (zEq_o e7) (by clear e7; exact ⟨by omega, by omega⟩)
          | clear e7
          have v2 : zEq (η2 0 19) (η 0 19) := by rw [eη2]; exact (zup_ne (fun e _ => absurd e (by decide))).trans v1
          replace e8 : x8 = η 0 19 := e8.trans v2
          replace r8 : -2147483648 ≤ x8 ∧ x8 ≤ 2147483647 := r8
          first
          | replace e9 : x9 = 64 + x8 := zd_a2 (zEq_o e9) (by clear e9; exact ⟨by omega, by omega⟩)
          | clear e9
          have fm1 : zFm zMl_grown η η1 := by rw [eη1]; exact zFm_up zFm_rf (zin2_of (q := (19, 0)) (by decide) rfl (Or.inl rfl))
          have fm2 : zFm zMl_grown η η2 := by rw [eη2]; exact zFm_up fm1 (zin2_of (q := (20, 0)) (by decide) rfl (Or.inl rfl))
          have fmE : zFm zMl_grown η η2 := fm2
          have fr22_0 : ∀ j, η 22 j = η 22 j := fun _ => rfl
          have v3 : ∀ j, η1 22 j = η 22 j := fun j => by rw [eη1]; exact zup_ne (fun e _ => absurd e (by decide))
          have fr22_1 : ∀ j, η1 22 j = η 22 j := v3
          have v4 : ∀ j, η2 22 j = η 22 j := fun j => by rw [eη2]; exact (zup_ne (fun e _ => absurd e (by decide))).trans (v3 j)
          have fr22_2 : ∀ j, η2 22 j = η 22 j := v4
          have fr22 : ∀ j, η2 22 j = η 22 j := v4
          have v6 : zEq (η1 0 41) (η 0 41) := by rw [eη1]; exact (zup_ne (fun e _ => absurd e (by decide))).trans rfl
          have v7 : zEq (η2 0 41) (η 0 41) := by rw [eη2]; exact (zup_ne (fun e _ => absurd e (by decide))).trans v6
          have f0_41 : η2 0 41 = η 0 41 := v7
          have w0_0_43 : (0 : Int) ≤ η 0 43 ∧ η 0 43 ≤ 8 := wf_ok (a := 43) (b := 43) (z := (0, 8)) hp.1 (by decide +kernel) (Nat.le_refl _) (Nat.le_refl _)
          have v9 : zEq (η1 0 43) (η 0 43) := by rw [eη1]; exact (zup_ne (fun e _ => absurd e (by decide))).trans rfl
          have v10 : zEq (η2 0 43) (η 0 43) := by rw [eη2]; exact (zup_ne (fun e _ => absurd e (by decide))).trans v9
          have f0_43 : η2 0 43 = η 0 43 := v10
          have v12 : zEq (η1 0 42) (η 0 42) := by rw [eη1]; exact (zup_ne (fun e _ => absurd e (by decide))).trans rfl
          have v13 : zEq (η2 0 42) (η 0 42) := by rw [eη2]; exact (zup_ne (fun e _ => absurd e (by decide))).trans v12
          have f0_42 : η2 0 42 = η 0 42 := v13
          have v15 : zEq (η1 0 45) (η 0 45) := by rw [eη1]; exact (zup_ne (fun e _ => absurd e (by decide))).trans rfl
          have v16 : zEq (η2 0 45) (η 0 45) := by rw [eη2]; exact (zup_ne (fun e _ => absurd e (by decide))).trans v15
          have f0_45 : η2 0 45 = η 0 45 := v16
          have f0_19 : η2 0 19 = η 0 19 := v2
          have w0_0_44 : (0 : Int) ≤ η 0 44 ∧ η 0 44 ≤ 64 := wf_ok (a := 44) (b := 44) (z := (0, 64)) hp.1 (by decide +kernel) (Nat.le_refl _) (Nat.le_refl _)
          have v18 : zEq (η1 0 44) (η 0 44) := by rw [eη1]; exact (zup_ne (fun e _ => absurd e (by decide))).trans rfl
          have v19 : zEq (η2 0 44) (η 0 44) := by rw [eη2]; exact (zup_ne (fun e _ => absurd e (by decide))).trans v18
          have f0_44 : η2 0 44 = η 0 44 := v19
          exact ⟨by omega, by omega⟩
        · show ∀ x4 : Int, x4 = η 0 (Int.toNat 19) → zok 0 x4 → ∀ x5 : Int, x5 = zd 0 1 64 x4 → ∀ η1 : zE, η1 = zup η 19 (Int.toNat x5) x1 → ∀ x6 : Int, x6 = η1 0 (Int.toNat 19) → zok 0 x6 → ∀ x7 : Int, x7 = zd 0 1 64 x6 → ∀ η2 : zE, η2 = zup η1 20 (Int.toNat x7) x2 → ∀ x8 : Int, x8 = η2 0 (Int.toNat 19) → zok 0 x8 → ∀ x9 : Int, x9 = zd 0 1 64 x8 → ∀ η3 : zE, η3 = zup η2 21 (Int.toNat x9) x3 → ∀ x10 : Int, x10 = η3 0 (Int.toNat 42) → zok 0 x10 → ∀ x11 : Int, x11 = η3 0 (Int.toNat 19) → zok 0 x11 → (0 : Int) ≤ x10 ∧ (x10 : Int) < 96
          have hj : ∃ f, J_l 1 0 f η := by
            rcases hpp.1 with H | H
            · exact ⟨_, H.2⟩
            · exact ⟨_, H.2⟩
          obtain ⟨f, j1, j2, j3, j4⟩ := hj
          have cn := cz_n (η := η) (η 0 41).toNat
          have h0 : 0 ≤ η 0 42 := hpp.2.2.1
          have h1 : η 0 42 ≤ 95 := hpp.2.2.2
          have bd43 : (0 : Int) ≤ η 0 43 ∧ η 0 43 ≤ 8 := wf_ok (a := 43) (b := 43) (z := (0, 8)) hp.1 (by decide +kernel) (Nat.le_refl _) (Nat.le_refl _)
          have bd44 : (0 : Int) ≤ η 0 44 ∧ η 0 44 ≤ 64 := wf_ok (a := 44) (b := 44) (z := (0, 64)) hp.1 (by decide +kernel) (Nat.le_refl _) (Nat.le_refl _)
          have bd19 : (0 : Int) ≤ η 0 19 ∧ η 0 19 ≤ 64 := wf_ok (a := 19) (b := 19) (z := (0, 64)) hp.1 (by decide +kernel) (Nat.le_refl _) (Nat.le_refl _)
          intro x4 e4 r4 x5 e5 η1 eη1 x6 e6 r6 x7 e7 η2 eη2 x8 e8 r8 x9 e9 η3 eη3 x10 e10 r10 x11 e11 r11
          replace e5 := zEq_i e5
          replace e7 := zEq_i e7
          replace e9 := zEq_i e9
          have bx1 : (0 : Int) ≤ x1 ∧ x1 ≤ 14 := hp.2.1.1
          have bx2 : ((-2147483648) : Int) ≤ x2 ∧ x2 ≤ 2147483647 := hp.2.1.2.1
          have bx3 : ((-2147483648) : Int) ≤ x3 ∧ x3 ≤ 2147483647 := hp.2.1.2.2.1
          have w0_0_19 : (0 : Int) ≤ η 0 19 ∧ η 0 19 ≤ 64 := wf_ok (a := 19) (b := 19) (z := (0, 64)) hp.1 (by decide +kernel) (Nat.le_refl _) (Nat.le_refl _)
          replace e4 : x4 = η 0 19 := e4
          replace r4 : -2147483648 ≤ x4 ∧ x4 ≤ 2147483647 := r4
          first
          | replace e5 : x5 = 64 + x4 := zd_a2 (zEq_o e5) (by clear e5; exact ⟨by omega, by omega⟩)
          | clear e5
          have v1 : zEq (η1 0 19) (η 0 19) := by rw [eη1]; exact (zup_ne (fun e _ => absurd e (by decide))).trans rfl
          replace e6 : x6 = η 0 19 := e6.trans v1
          replace r6 : -2147483648 ≤ x6 ∧ x6 ≤ 2147483647 := r6
          first
          | replace e7 : x7 = 64 + x6 := zd_a2 (zEq_o e7) (by clear e7; exact ⟨by omega, by omega⟩)
          | clear e7
          have v2 : zEq (η2 0 19) (η 0 19) := by rw [eη2]; exact (zup_ne (fun e _ => absurd e (by decide))).trans v1
          replace e8 : x8 = η 0 19 := e8.trans v2
          replace r8 : -2147483648 ≤ x8 ∧ x8 ≤ 2147483647 := r8
          first
          | replace e9 : x9 = 64 + x8 := zd_a2 (zEq_o e9) (by clear e9; exact ⟨by omega, by omega⟩)
          | clear e9
          have v4 : zEq (η1 0 42) (η 0 42) := by rw [eη1]; exact (zup_ne (fun e _ => absurd e (by decide))).trans rfl
          have v5 : zEq (η2 0 42) (η 0 42) := by rw [eη2]; exact (zup_ne (fun e _ => absurd e (by decide))).trans v4
          have v6 : zEq (η3 0 42) (η 0 42) := by rw [eη3]; exact (zup_ne (fun e _ => absurd e (by decide))).trans v5
          replace e10 : x10 = η 0 42 := e10.trans v6
          replace r10 : -2147483648 ≤ x10 ∧ x10 ≤ 2147483647 := r10
          have v7 : zEq (η3 0 19) (η 0 19) := by rw [eη3]; exact (zup_ne (fun e _ => absurd e (by decide))).trans v2
          replace e11 : x11 = η 0 19 := e11.trans v7
          replace r11 : -2147483648 ≤ x11 ∧ x11 ≤ 2147483647 := r11
          have fm1 : zFm zMl_grown η η1 := by rw [eη1]; exact zFm_up zFm_rf (zin2_of (q := (19, 0)) (by decide) rfl (Or.inl rfl))
          have fm2 : zFm zMl_grown η η2 := by rw [eη2]; exact zFm_up fm1 (zin2_of (q := (20, 0)) (by decide) rfl (Or.inl rfl))
          have fm3 : zFm zMl_grown η η3 := by rw [eη3]; exact zFm_up fm2 (zin2_of (q := (21, 0)) (by decide) rfl (Or.inl rfl))
          have fmE : zFm zMl_grown η η3 := fm3
          have fr22_0 : ∀ j, η 22 j = η 22 j := fun _ => rfl
          have v8 : ∀ j, η1 22 j = η 22 j := fun j => by rw [eη1]; exact zup_ne (fun e _ => absurd e (by decide))
          have fr22_1 : ∀ j, η1 22 j = η 22 j := v8
          have v9 : ∀ j, η2 22 j = η 22 j := fun j => by rw [eη2]; exact (zup_ne (fun e _ => absurd e (by decide))).trans (v8 j)
          have fr22_2 : ∀ j, η2 22 j = η 22 j := v9
          have v10 : ∀ j, η3 22 j = η 22 j := fun j => by rw [eη3]; exact (zup_ne (fun e _ => absurd e (by decide))).trans (v9 j)
          have fr22_3 : ∀ j, η3 22 j = η 22 j := v10
          have fr22 : ∀ j, η3 22 j = η 22 j := v10
          have v12 : zEq (η1 0 41) (η 0 41) := by rw [eη1]; exact (zup_ne (fun e _ => absurd e (by decide))).trans rfl
          have v13 : zEq (η2 0 41) (η 0 41) := by rw [eη2]; exact (zup_ne (fun e _ => absurd e (by decide))).trans v12
          have v14 : zEq (η3 0 41) (η 0 41) := by rw [eη3]; exact (zup_ne (fun e _ => absurd e (by decide))).trans v13
          have f0_41 : η3 0 41 = η 0 41 := v14
          have w0_0_43 : (0 : Int) ≤ η 0 43 ∧ η 0 43 ≤ 8 := wf_ok (a := 43) (b := 43) (z := (0, 8)) hp.1 (by decide +kernel) (Nat.le_refl _) (Nat.le_refl _)
          have v16 : zEq (η1 0 43) (η 0 43) := by rw [eη1]; exact (zup_ne (fun e _ => absurd e (by decide))).trans rfl
          have v17 : zEq (η2 0 43) (η 0 43) := by rw [eη2]; exact (zup_ne (fun e _ => absurd e (by decide))).trans v16
          have v18 : zEq (η3 0 43) (η 0 43) := by rw [eη3]; exact (zup_ne (fun e _ => absurd e (by decide))).trans v17
          have f0_43 : η3 0 43 = η 0 43 := v18
          have f0_42 : η3 0 42 = η 0 42 := v6
          have v20 : zEq (η1 0 45) (η 0 45) := by rw [eη1]; exact (zup_ne (fun e _ => absurd e (by decide))).trans rfl
          have v21 : zEq (η2 0 45) (η 0 45) := by rw [eη2]; exact (zup_ne (fun e _ => absurd e (by decide))).trans v20
          have v22 : zEq (η3 0 45) (η 0 45) := by rw [eη3]; exact (zup_ne (fun e _ => absurd e (by decide))).trans v21
          have f0_45 : η3 0 45 = η 0 45 := v22
          have f0_19 : η3 0 19 = η 0 19 := v7
          have w0_0_44 : (0 : Int) ≤ η 0 44 ∧ η 0 44 ≤ 64 := wf_ok (a := 44) (b := 44) (z := (0, 64)) hp.1 (by decide +kernel) (Nat.le_refl _) (Nat.le_refl _)
          have v24 : zEq (η1 0 44) (η 0 44) := by rw [eη1]; exact (zup_ne (fun e _ => absurd e (by decide))).trans rfl
          have v25 : zEq (η2 0 44) (η 0 44) := by rw [eη2]; exact (zup_ne (fun e _ => absurd e (by decide))).trans v24
          have v26 : zEq (η3 0 44) (η 0 44) := by rw [eη3]; exact (zup_ne (fun e _ => absurd e (by decide))).trans v25
          have f0_44 : η3 0 44 = η 0 44 := v26
          exact ⟨by omega, by omega⟩
        · show ∀ x4 : Int, x4 = η 0 (Int.toNat 19) → zok 0 x4 → ∀ x5 : Int, x5 = zd 0 1 64 x4 → ∀ η1 : zE, η1 = zup η 19 (Int.toNat x5) x1 → ∀ x6 : Int, x6 = η1 0 (Int.toNat 19) → zok 0 x6 → ∀ x7 : Int, x7 = zd 0 1 64 x6 → ∀ η2 : zE, η2 = zup η1 20 (Int.toNat x7) x2 → ∀ x8 : Int, x8 = η2 0 (Int.toNat 19) → zok 0 x8 → ∀ x9 : Int, x9 = zd 0 1 64 x8 → ∀ η3 : zE, η3 = zup η2 21 (Int.toNat x9) x3 → ∀ x10 : Int, x10 = η3 0 (Int.toNat 42) → zok 0 x10 → ∀ x11 : Int, x11 = η3 0 (Int.toNat 19) → zok 0 x11 → ∀ η4 : zE, η4 = zup η3 23 (Int.toNat x10) x11 → ∀ x12 : Int, x12 = η4 0 (Int.toNat 42) → zok 0 x12 → ∀ x13 : Int, x13 = zd 0 1 x12 1 → ∀ η5 : zE, η5 = zup η4 0 (Int.toNat 42) x13 → ∀ x14 : Int, x14 = η5 0 (Int.toNat 19) → zok 0 x14 → ∀ x15 : Int, x15 = zd 0 1 x14 1 → ∀ η6 : zE, η6 = zup η5 0 (Int.toNat 19) x15 → (fun j y η1 => zsQ wl_l zTr [zOl_grown] zMl_grown [x1, x2, x3] η j y η1 ∧ pQl_grown [x1, x2, x3] η y η1) 0 0 η6
          have hj : ∃ f, J_l 1 0 f η := by
            rcases hpp.1 with H | H
            · exact ⟨_, H.2⟩
            · exact ⟨_, H.2⟩
          obtain ⟨f, j1, j2, j3, j4⟩ := hj
          have cn := cz_n (η := η) (η 0 41).toNat
          have h0 : 0 ≤ η 0 42 := hpp.2.2.1
          have h1 : η 0 42 ≤ 95 := hpp.2.2.2
          have bd43 : (0 : Int) ≤ η 0 43 ∧ η 0 43 ≤ 8 := wf_ok (a := 43) (b := 43) (z := (0, 8)) hp.1 (by decide +kernel) (Nat.le_refl _) (Nat.le_refl _)
          have bd44 : (0 : Int) ≤ η 0 44 ∧ η 0 44 ≤ 64 := wf_ok (a := 44) (b := 44) (z := (0, 64)) hp.1 (by decide +kernel) (Nat.le_refl _) (Nat.le_refl _)
          have bd19 : (0 : Int) ≤ η 0 19 ∧ η 0 19 ≤ 64 := wf_ok (a := 19) (b := 19) (z := (0, 64)) hp.1 (by decide +kernel) (Nat.le_refl _) (Nat.le_refl _)
          intro x4 e4 r4 x5 e5 η1 eη1 x6 e6 r6 x7 e7 η2 eη2 x8 e8 r8 x9 e9 η3 eη3 x10 e10 r10 x11 e11 r11 η4 eη4 x12 e12 r12 x13 e13 η5 eη5 x14 e14 r14 x15 e15 η6 eη6
          replace e5 := zEq_i e5
          replace e7 := zEq_i e7
          replace e9 := zEq_i e9
          replace e13 := zEq_i e13
          replace e15 := zEq_i e15
          have bx1 : (0 : Int) ≤ x1 ∧ x1 ≤ 14 := hp.2.1.1
          have bx2 : ((-2147483648) : Int) ≤ x2 ∧ x2 ≤ 2147483647 := hp.2.1.2.1
          have bx3 : ((-2147483648) : Int) ≤ x3 ∧ x3 ≤ 2147483647 := hp.2.1.2.2.1
          have w0_0_19 : (0 : Int) ≤ η 0 19 ∧ η 0 19 ≤ 64 := wf_ok (a := 19) (b := 19) (z := (0, 64)) hp.1 (by decide +kernel) (Nat.le_refl _) (Nat.le_refl _)
          replace e4 : x4 = η 0 19 := e4
          replace r4 : -2147483648 ≤ x4 ∧ x4 ≤ 2147483647 := r4
          first
          | replace e5 : x5 = 64 + x4 := zd_a2 (zEq_o e5) (by clear e5; exact ⟨by omega, by omega⟩)
          | clear e5
          have wb1 : wB wl_l zTr η1 := by rw [eη1]; exact wk_ok (a := 0) (b := 127) (z := ((-2147483648), 2147483647)) zTr_k (GR := []) hp.1 (by decide +kernel) (by omega) (by omega) (show ((-2147483648) : Int) ≤ x1 by omega) (show x1 ≤ (2147483647 : Int) by omega)
          have v1 : zEq (η1 0 19) (η 0 19) := by rw [eη1]; exact (zup_ne (fun e _ => absurd e (by decide))).trans rfl
          replace e6 : x6 = η 0 19 := e6.trans v1
          replace r6 : -2147483648 ≤ x6 ∧ x6 ≤ 2147483647 := r6
          first
          | replace e7 : x7 = 64 + x6 := zd_a2 (zEq_o e7) (by clear e7; exact ⟨by omega, by omega⟩)
          | clear e7
          have wb2 : wB wl_l zTr η2 := by rw [eη2]; exact wk_ok (a := 0) (b := 127) (z := ((-2147483648), 2147483647)) zTr_k (GR := []) wb1 (by decide +kernel) (by omega) (by omega) (show ((-2147483648) : Int) ≤ x2 by omega) (show x2 ≤ (2147483647 : Int) by omega)
          have v2 : zEq (η2 0 19) (η 0 19) := by rw [eη2]; exact (zup_ne (fun e _ => absurd e (by decide))).trans v1
          replace e8 : x8 = η 0 19 := e8.trans v2
          replace r8 : -2147483648 ≤ x8 ∧ x8 ≤ 2147483647 := r8
          first
          | replace e9 : x9 = 64 + x8 := zd_a2 (zEq_o e9) (by clear e9; exact ⟨by omega, by omega⟩)
          | clear e9
          have wb3 : wB wl_l zTr η3 := by rw [eη3]; exact wk_ok (a := 0) (b := 127) (z := ((-2147483648), 2147483647)) zTr_k (GR := []) wb2 (by decide +kernel) (by omega) (by omega) (show ((-2147483648) : Int) ≤ x3 by omega) (show x3 ≤ (2147483647 : Int) by omega)
          have v4 : zEq (η1 0 42) (η 0 42) := by rw [eη1]; exact (zup_ne (fun e _ => absurd e (by decide))).trans rfl
          have v5 : zEq (η2 0 42) (η 0 42) := by rw [eη2]; exact (zup_ne (fun e _ => absurd e (by decide))).trans v4
          have v6 : zEq (η3 0 42) (η 0 42) := by rw [eη3]; exact (zup_ne (fun e _ => absurd e (by decide))).trans v5
          replace e10 : x10 = η 0 42 := e10.trans v6
          replace r10 : -2147483648 ≤ x10 ∧ x10 ≤ 2147483647 := r10
          have v7 : zEq (η3 0 19) (η 0 19) := by rw [eη3]; exact (zup_ne (fun e _ => absurd e (by decide))).trans v2
          replace e11 : x11 = η 0 19 := e11.trans v7
          replace r11 : -2147483648 ≤ x11 ∧ x11 ≤ 2147483647 := r11
          have wb4 : wB wl_l zTr η4 := by rw [eη4]; exact wk_ok (a := 0) (b := 95) (z := (0, 63)) zTr_k (GR := []) wb3 (by decide +kernel) (by omega) (by omega) (show (0 : Int) ≤ x11 by omega) (show x11 ≤ (63 : Int) by omega)
          have v8 : zEq (η4 0 42) (η 0 42) := by rw [eη4]; exact (zup_ne (fun e _ => absurd e (by decide))).trans v6
          replace e12 : x12 = η 0 42 := e12.trans v8
          replace r12 : -2147483648 ≤ x12 ∧ x12 ≤ 2147483647 := r12
          first
          | replace e13 : x13 = x12 + 1 := zd_a2 (zEq_o e13) (by clear e13; exact ⟨by omega, by omega⟩)
          | clear e13
          have c4_0_42 : η4 0 42 = η 0 42 := v8
          have wb5 : wB wl_l zTr η5 := by rw [eη5]; exact wk_ok (a := 42) (b := 42) (z := ((-2147483648), 2147483647)) zTr_k (GR := []) wb4 (by decide +kernel) (by decide) (by decide) (show ((-2147483648) : Int) ≤ x13 by omega) (show x13 ≤ (2147483647 : Int) by omega)
          have v9 : zEq (η4 0 19) (η 0 19) := by rw [eη4]; exact (zup_ne (fun e _ => absurd e (by decide))).trans v7
          have v10 : zEq (η5 0 19) (η 0 19) := by rw [eη5]; exact (zup_ne (fun _ e => absurd e (by decide))).trans v9
          replace e14 : x14 = η 0 19 := e14.trans v10
          replace r14 : -2147483648 ≤ x14 ∧ x14 ≤ 2147483647 := r14
          first
          | replace e15 : x15 = x14 + 1 := zd_a2 (zEq_o e15) (by clear e15; exact ⟨by omega, by omega⟩)
          | clear e15
          have c5_0_19 : η5 0 19 = η 0 19 := v10
          have wb6 : wB wl_l zTr η6 := by rw [eη6]; exact wk_ok (a := 19) (b := 19) (z := (0, 64)) zTr_k (GR := []) wb5 (by decide +kernel) (by decide) (by decide) (show (0 : Int) ≤ x15 by omega) (show x15 ≤ (64 : Int) by omega)
          have fm1 : zFm zMl_grown η η1 := by rw [eη1]; exact zFm_up zFm_rf (zin2_of (q := (19, 0)) (by decide) rfl (Or.inl rfl))
          have fm2 : zFm zMl_grown η η2 := by rw [eη2]; exact zFm_up fm1 (zin2_of (q := (20, 0)) (by decide) rfl (Or.inl rfl))
          have fm3 : zFm zMl_grown η η3 := by rw [eη3]; exact zFm_up fm2 (zin2_of (q := (21, 0)) (by decide) rfl (Or.inl rfl))
          have fm4 : zFm zMl_grown η η4 := by rw [eη4]; exact zFm_up fm3 (zin2_of (q := (23, 0)) (by decide) rfl (Or.inl rfl))
          have fm5 : zFm zMl_grown η η5 := by rw [eη5]; exact zFm_up fm4 rfl
          have fm6 : zFm zMl_grown η η6 := by rw [eη6]; exact zFm_up fm5 rfl
          have fmE : zFm zMl_grown η η6 := fm6
          have fr22_0 : ∀ j, η 22 j = η 22 j := fun _ => rfl
          have v11 : ∀ j, η1 22 j = η 22 j := fun j => by rw [eη1]; exact zup_ne (fun e _ => absurd e (by decide))
          have fr22_1 : ∀ j, η1 22 j = η 22 j := v11
          have v12 : ∀ j, η2 22 j = η 22 j := fun j => by rw [eη2]; exact (zup_ne (fun e _ => absurd e (by decide))).trans (v11 j)
          have fr22_2 : ∀ j, η2 22 j = η 22 j := v12
          have v13 : ∀ j, η3 22 j = η 22 j := fun j => by rw [eη3]; exact (zup_ne (fun e _ => absurd e (by decide))).trans (v12 j)
          have fr22_3 : ∀ j, η3 22 j = η 22 j := v13
          have v14 : ∀ j, η4 22 j = η 22 j := fun j => by rw [eη4]; exact (zup_ne (fun e _ => absurd e (by decide))).trans (v13 j)
          have fr22_4 : ∀ j, η4 22 j = η 22 j := v14
          have v15 : ∀ j, η5 22 j = η 22 j := fun j => by rw [eη5]; exact (zup_ne (fun e _ => absurd e (by decide))).trans (v14 j)
          have fr22_5 : ∀ j, η5 22 j = η 22 j := v15
          have v16 : ∀ j, η6 22 j = η 22 j := fun j => by rw [eη6]; exact (zup_ne (fun e _ => absurd e (by decide))).trans (v15 j)
          have fr22_6 : ∀ j, η6 22 j = η 22 j := v16
          have fr22 : ∀ j, η6 22 j = η 22 j := v16
          have v18 : zEq (η1 0 41) (η 0 41) := by rw [eη1]; exact (zup_ne (fun e _ => absurd e (by decide))).trans rfl
          have v19 : zEq (η2 0 41) (η 0 41) := by rw [eη2]; exact (zup_ne (fun e _ => absurd e (by decide))).trans v18
          have v20 : zEq (η3 0 41) (η 0 41) := by rw [eη3]; exact (zup_ne (fun e _ => absurd e (by decide))).trans v19
          have v21 : zEq (η4 0 41) (η 0 41) := by rw [eη4]; exact (zup_ne (fun e _ => absurd e (by decide))).trans v20
          have v22 : zEq (η5 0 41) (η 0 41) := by rw [eη5]; exact (zup_ne (fun _ e => absurd e (by decide))).trans v21
          have v23 : zEq (η6 0 41) (η 0 41) := by rw [eη6]; exact (zup_ne (fun _ e => absurd e (by decide))).trans v22
          have f0_41 : η6 0 41 = η 0 41 := v23
          have w0_0_43 : (0 : Int) ≤ η 0 43 ∧ η 0 43 ≤ 8 := wf_ok (a := 43) (b := 43) (z := (0, 8)) hp.1 (by decide +kernel) (Nat.le_refl _) (Nat.le_refl _)
          have v25 : zEq (η1 0 43) (η 0 43) := by rw [eη1]; exact (zup_ne (fun e _ => absurd e (by decide))).trans rfl
          have v26 : zEq (η2 0 43) (η 0 43) := by rw [eη2]; exact (zup_ne (fun e _ => absurd e (by decide))).trans v25
          have v27 : zEq (η3 0 43) (η 0 43) := by rw [eη3]; exact (zup_ne (fun e _ => absurd e (by decide))).trans v26
          have v28 : zEq (η4 0 43) (η 0 43) := by rw [eη4]; exact (zup_ne (fun e _ => absurd e (by decide))).trans v27
          have v29 : zEq (η5 0 43) (η 0 43) := by rw [eη5]; exact (zup_ne (fun _ e => absurd e (by decide))).trans v28
          have v30 : zEq (η6 0 43) (η 0 43) := by rw [eη6]; exact (zup_ne (fun _ e => absurd e (by decide))).trans v29
          have f0_43 : η6 0 43 = η 0 43 := v30
          have v31 : zEq (η5 0 42) (x13) := by rw [eη5]; exact zup_eq
          have v32 : zEq (η6 0 42) (x13) := by rw [eη6]; exact (zup_ne (fun _ e => absurd e (by decide))).trans v31
          have f0_42 : η6 0 42 = x13 := v32
          have v34 : zEq (η1 0 45) (η 0 45) := by rw [eη1]; exact (zup_ne (fun e _ => absurd e (by decide))).trans rfl
          have v35 : zEq (η2 0 45) (η 0 45) := by rw [eη2]; exact (zup_ne (fun e _ => absurd e (by decide))).trans v34
          have v36 : zEq (η3 0 45) (η 0 45) := by rw [eη3]; exact (zup_ne (fun e _ => absurd e (by decide))).trans v35
          have v37 : zEq (η4 0 45) (η 0 45) := by rw [eη4]; exact (zup_ne (fun e _ => absurd e (by decide))).trans v36
          have v38 : zEq (η5 0 45) (η 0 45) := by rw [eη5]; exact (zup_ne (fun _ e => absurd e (by decide))).trans v37
          have v39 : zEq (η6 0 45) (η 0 45) := by rw [eη6]; exact (zup_ne (fun _ e => absurd e (by decide))).trans v38
          have f0_45 : η6 0 45 = η 0 45 := v39
          have v40 : zEq (η6 0 19) (x15) := by rw [eη6]; exact zup_eq
          have f0_19 : η6 0 19 = x15 := v40
          have w0_0_44 : (0 : Int) ≤ η 0 44 ∧ η 0 44 ≤ 64 := wf_ok (a := 44) (b := 44) (z := (0, 64)) hp.1 (by decide +kernel) (Nat.le_refl _) (Nat.le_refl _)
          have v42 : zEq (η1 0 44) (η 0 44) := by rw [eη1]; exact (zup_ne (fun e _ => absurd e (by decide))).trans rfl
          have v43 : zEq (η2 0 44) (η 0 44) := by rw [eη2]; exact (zup_ne (fun e _ => absurd e (by decide))).trans v42
          have v44 : zEq (η3 0 44) (η 0 44) := by rw [eη3]; exact (zup_ne (fun e _ => absurd e (by decide))).trans v43
          have v45 : zEq (η4 0 44) (η 0 44) := by rw [eη4]; exact (zup_ne (fun e _ => absurd e (by decide))).trans v44
          have v46 : zEq (η5 0 44) (η 0 44) := by rw [eη5]; exact (zup_ne (fun _ e => absurd e (by decide))).trans v45
          have v47 : zEq (η6 0 44) (η 0 44) := by rw [eη6]; exact (zup_ne (fun _ e => absurd e (by decide))).trans v46
          have f0_44 : η6 0 44 = η 0 44 := v47
          have wbE : wB wl_l zTr η6 := wb6
          
          have ht : G0_l η := by rcases hpp.1 with H | H <;> exact H.1
          have q7 : x7 = x5 := by rw [e7, e6, e5, e4]
          have q9 : x9 = x5 := by rw [e9, e8, e5, e4]
          have t3 : T3_l x1 x2 x3 := hpp.2.1
          have HG : G0_l η6 := by
            rw [eη6, eη5, eη4, eη3, eη2, eη1, q7, q9]
            exact grow_g ht t3
          have cw := cz_below (η := η) (η' := η6) (η 0 41).toNat (fun j _ => fr22 j)
          have cz1 : cz_l η6 (η 0 41).toNat = cz_l η (η 0 41).toNat := cw.1
          refine ⟨⟨wbE, ⟨by decide, by decide⟩, (fun f hf => nomatch hf), fmE, fun _ _ w => nomatch w⟩, fun H => ?_, fun H => ?_, show η6 0 19 = η 0 19 + 1 by omega⟩
          · obtain ⟨i1, i2, i3, i4⟩ := H.2
            exact h_w (HG) f0_41 f0_43 f0_42 f0_45 f0_19 f0_44 ⟨by omega, by apply Int.le_antisymm <;> omega, by apply Int.le_antisymm <;> omega, by apply Int.le_antisymm <;> omega⟩
          · obtain ⟨i1, i2, i3, i4⟩ := H.2
            exact h_w (HG) f0_41 f0_43 f0_42 f0_45 f0_19 f0_44 ⟨by omega, by apply Int.le_antisymm <;> omega, by apply Int.le_antisymm <;> omega, by apply Int.le_antisymm <;> omega⟩
      )
    (fun _ h => nomatch h))
