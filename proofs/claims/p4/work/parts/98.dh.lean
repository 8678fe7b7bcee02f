def zPl_isCounted : zPq := ([], [])
def zOl_isCounted : zPo := (((.ofNat (nat_lit 0)), (.ofNat (nat_lit 1))), [], [])
def zMl_isCounted : List zCe := [(nat_lit 0, nat_lit 5), (nat_lit 0, nat_lit 6), (nat_lit 0, nat_lit 45)]
def pPl_isCounted : List Int → zE → Prop := (fun _ η => G_l η)
def pQl_isCounted : List Int → zE → Int → zE → Prop := fun _ _ y η' => (¬ y = 0 → H_l 1 0 0 η') ∧ (y = 0 → G_l η')
def pCl_isCounted : Nat → List Int → zE → Prop := fun c => match c with
  | 0 => pPl_wrong
  | _ => fun _ _ => True
def qCl_isCounted : Nat → List Int → zE → Int → zE → Prop := fun c => match c with
  | 0 => pQl_wrong
  | _ => fun _ _ _ _ => True
def iCl_isCounted : List Int → zE → Nat → List Int → zE → Prop := fun xs η0 c => match c with
  | _ => fun _ _ => True
def zVl_isCounted : List zIv := []
def zDl_isCounted : List (List zK) := [[(nat_lit 7, nat_lit 2, [(nat_lit 0, (.ofNat (nat_lit 1)))]), (nat_lit 5, nat_lit 0, [(nat_lit 0, (.ofNat (nat_lit 0))), (nat_lit 0, (.ofNat (nat_lit 44))), (nat_lit 3, (.ofNat (nat_lit 0)))]), (nat_lit 0, nat_lit 1, [(nat_lit 2, (.ofNat (nat_lit 0))), (nat_lit 0, (.ofNat (nat_lit 1)))]), (nat_lit 4, nat_lit 0, [(nat_lit 0, (.ofNat (nat_lit 0))), (nat_lit 0, (.ofNat (nat_lit 44)))]), (nat_lit 6, nat_lit 1, [(nat_lit 1, (.ofNat (nat_lit 0))), (nat_lit 0, (.ofNat (nat_lit 64)))]), (nat_lit 4, nat_lit 0, [(nat_lit 0, (.ofNat (nat_lit 0))), (nat_lit 0, (.ofNat (nat_lit 44)))])],
  [(nat_lit 7, nat_lit 2, [(nat_lit 2, (.ofNat (nat_lit 0)))]), (nat_lit 8, nat_lit 0, [(nat_lit 0, (.ofNat (nat_lit 2)))]), (nat_lit 6, nat_lit 0, [(nat_lit 1, (.ofNat (nat_lit 0))), (nat_lit 0, (.ofNat (nat_lit 64)))]), (nat_lit 4, nat_lit 0, [(nat_lit 0, (.ofNat (nat_lit 0))), (nat_lit 0, (.ofNat (nat_lit 44)))])]]
def zEl_isCounted : List (List zK) := [[(nat_lit 11, nat_lit 0, [(nat_lit 0, (.ofNat (nat_lit 1)))]), (nat_lit 5, nat_lit 0, [(nat_lit 0, (.ofNat (nat_lit 0))), (nat_lit 0, (.ofNat (nat_lit 44))), (nat_lit 3, (.ofNat (nat_lit 0)))]), (nat_lit 0, nat_lit 1, [(nat_lit 2, (.ofNat (nat_lit 0))), (nat_lit 0, (.ofNat (nat_lit 1)))]), (nat_lit 4, nat_lit 0, [(nat_lit 0, (.ofNat (nat_lit 0))), (nat_lit 0, (.ofNat (nat_lit 44)))]), (nat_lit 6, nat_lit 1, [(nat_lit 1, (.ofNat (nat_lit 0))), (nat_lit 0, (.ofNat (nat_lit 64)))]), (nat_lit 4, nat_lit 0, [(nat_lit 0, (.ofNat (nat_lit 0))), (nat_lit 0, (.ofNat (nat_lit 44)))])],
  [(nat_lit 13, nat_lit 0, [(nat_lit 0, (.ofNat (nat_lit 2)))]), (nat_lit 6, nat_lit 0, [(nat_lit 1, (.ofNat (nat_lit 0))), (nat_lit 0, (.ofNat (nat_lit 64)))]), (nat_lit 4, nat_lit 0, [(nat_lit 0, (.ofNat (nat_lit 0))), (nat_lit 0, (.ofNat (nat_lit 44)))])],
  [(nat_lit 11, nat_lit 0, [(nat_lit 2, (.ofNat (nat_lit 0)))]), (nat_lit 8, nat_lit 0, [(nat_lit 0, (.ofNat (nat_lit 2)))]), (nat_lit 6, nat_lit 0, [(nat_lit 1, (.ofNat (nat_lit 0))), (nat_lit 0, (.ofNat (nat_lit 64)))]), (nat_lit 4, nat_lit 0, [(nat_lit 0, (.ofNat (nat_lit 0))), (nat_lit 0, (.ofNat (nat_lit 44)))])]]
def zFl_isCounted : List (List zK) := []
set_option maxHeartbeats 8000000 in
theorem zl_isCounted {ro : Nat → List Int32} : zMet pr_P pr_K pr_df ro (sm_X0 1 6) 1 144 tm_l [(.inr (.inr (.inl (nat_lit 0))))] 2 [(nat_lit 0, nat_lit 0, nat_lit 1), (nat_lit 0, nat_lit 3, nat_lit 2), (nat_lit 0, nat_lit 20, nat_lit 3), (nat_lit 0, nat_lit 21, nat_lit 4), (nat_lit 0, nat_lit 22, nat_lit 5), (nat_lit 0, nat_lit 23, nat_lit 6), (nat_lit 0, nat_lit 24, nat_lit 7), (nat_lit 0, nat_lit 25, nat_lit 8), (nat_lit 0, nat_lit 26, nat_lit 9), (nat_lit 0, nat_lit 27, nat_lit 10), (nat_lit 0, nat_lit 28, nat_lit 11), (nat_lit 0, nat_lit 29, nat_lit 12), (nat_lit 0, nat_lit 30, nat_lit 13), (nat_lit 0, nat_lit 31, nat_lit 14), (nat_lit 0, nat_lit 32, nat_lit 15), (nat_lit 0, nat_lit 33, nat_lit 16), (nat_lit 0, nat_lit 34, nat_lit 17), (nat_lit 0, nat_lit 35, nat_lit 18), (nat_lit 0, nat_lit 36, nat_lit 19), (nat_lit 0, nat_lit 37, nat_lit 20), (nat_lit 0, nat_lit 38, nat_lit 21), (nat_lit 0, nat_lit 39, nat_lit 22), (nat_lit 0, nat_lit 40, nat_lit 23), (nat_lit 0, nat_lit 47, nat_lit 24), (nat_lit 0, nat_lit 48, nat_lit 25), (nat_lit 0, nat_lit 50, nat_lit 26), (nat_lit 0, nat_lit 51, nat_lit 27), (nat_lit 0, nat_lit 52, nat_lit 28), (nat_lit 0, nat_lit 53, nat_lit 29), (nat_lit 0, nat_lit 54, nat_lit 30), (nat_lit 0, nat_lit 55, nat_lit 31), (nat_lit 0, nat_lit 56, nat_lit 32), (nat_lit 0, nat_lit 57, nat_lit 33), (nat_lit 0, nat_lit 58, nat_lit 34), (nat_lit 0, nat_lit 59, nat_lit 35), (nat_lit 0, nat_lit 72, nat_lit 36), (nat_lit 0, nat_lit 73, nat_lit 37), (nat_lit 0, nat_lit 76, nat_lit 38), (nat_lit 0, nat_lit 77, nat_lit 39), (nat_lit 0, nat_lit 79, nat_lit 40), (nat_lit 0, nat_lit 81, nat_lit 41), (nat_lit 0, nat_lit 82, nat_lit 42)] [] (fun xs η => sP wl_l zTr zPl_isCounted xs η ∧ pPl_isCounted xs η) (fun xs η y η' => sQ wl_l zTr zOl_isCounted zMl_isCounted xs η y η' ∧ pQl_isCounted xs η y η') :=
  zmet_alt (zmea_gen (mi := (nat_lit 0, nat_lit 1, nat_lit 8, nat_lit 1, nat_lit 2, tX8_isCounted)) (cd := [(nat_lit 118, nat_lit 0, nat_lit 0, [(.inr (.inr (.inl (nat_lit 0)))), (.inl (nat_lit 1, (.ofNat (nat_lit 0))))], nat_lit 2, [(nat_lit 0, nat_lit 0, nat_lit 1), (nat_lit 0, nat_lit 3, nat_lit 2), (nat_lit 0, nat_lit 20, nat_lit 3), (nat_lit 0, nat_lit 21, nat_lit 4), (nat_lit 0, nat_lit 22, nat_lit 5), (nat_lit 0, nat_lit 23, nat_lit 6), (nat_lit 0, nat_lit 24, nat_lit 7), (nat_lit 0, nat_lit 25, nat_lit 8), (nat_lit 0, nat_lit 26, nat_lit 9), (nat_lit 0, nat_lit 27, nat_lit 10), (nat_lit 0, nat_lit 28, nat_lit 11), (nat_lit 0, nat_lit 29, nat_lit 12), (nat_lit 0, nat_lit 30, nat_lit 13), (nat_lit 0, nat_lit 31, nat_lit 14), (nat_lit 0, nat_lit 32, nat_lit 15), (nat_lit 0, nat_lit 33, nat_lit 16), (nat_lit 0, nat_lit 34, nat_lit 17), (nat_lit 0, nat_lit 35, nat_lit 18), (nat_lit 0, nat_lit 36, nat_lit 19), (nat_lit 0, nat_lit 37, nat_lit 20), (nat_lit 0, nat_lit 38, nat_lit 21), (nat_lit 0, nat_lit 39, nat_lit 22), (nat_lit 0, nat_lit 40, nat_lit 23), (nat_lit 0, nat_lit 47, nat_lit 24), (nat_lit 0, nat_lit 48, nat_lit 25), (nat_lit 0, nat_lit 50, nat_lit 26), (nat_lit 0, nat_lit 51, nat_lit 27), (nat_lit 0, nat_lit 52, nat_lit 28), (nat_lit 0, nat_lit 53, nat_lit 29), (nat_lit 0, nat_lit 54, nat_lit 30), (nat_lit 0, nat_lit 55, nat_lit 31), (nat_lit 0, nat_lit 56, nat_lit 32), (nat_lit 0, nat_lit 57, nat_lit 33), (nat_lit 0, nat_lit 58, nat_lit 34), (nat_lit 0, nat_lit 59, nat_lit 35), (nat_lit 0, nat_lit 72, nat_lit 36), (nat_lit 0, nat_lit 73, nat_lit 37), (nat_lit 0, nat_lit 76, nat_lit 38), (nat_lit 0, nat_lit 77, nat_lit 39), (nat_lit 0, nat_lit 79, nat_lit 40), (nat_lit 0, nat_lit 81, nat_lit 41), (nat_lit 0, nat_lit 82, nat_lit 42)], [])]) (cu := []) (cs := [(nat_lit 0, zPl_wrong, zOl_wrong, zMl_wrong)]) (iv := zVl_isCounted) (po := [zOl_isCounted]) (pr := zPl_isCounted) (mods := zMl_isCounted) (D7 := zDl_isCounted) (D0 := zEl_isCounted) (Dm := zFl_isCounted) (f0 := 16) pCl_isCounted qCl_isCounted iCl_isCounted pPl_isCounted (fun xs η _ y η' => pQl_isCounted xs η y η') zX_low pr_mtR rfl (List.forall_mem_cons.mpr ⟨zl_wrong, fun _ h => nomatch h⟩) (by decide +kernel) (by decide +kernel) (by decide +kernel)
    (by
      intro xs η hr hl hp hpp
      match xs, hl, hp, hpp with
      | [], _, hp, hpp =>
        refine List.forall_mem_cons.mpr ⟨?_, List.forall_mem_cons.mpr ⟨?_, List.forall_mem_cons.mpr ⟨?_, fun _ h => nomatch h⟩⟩⟩
        · show ∀ x1 : Int, x1 = η 0 (Int.toNat 44) → zok 0 x1 → (¬ x1 = 64) → ∀ x2 : Int, x2 = η 0 (Int.toNat 44) → zok 0 x2 → ∀ x3 : Int, x3 = zd 0 1 x2 1 → ∀ η1 : zE, η1 = zup η 0 (Int.toNat 44) x3 → (fun (_ : Nat) (y : Int) (η' : zE) => pQl_isCounted [] η y η') 0 1 η1
          obtain ⟨j1, j2, j3, j4⟩ := hpp.2
          intro x1 e1 r1 c1 x2 e2 r2 x3 e3 η1 eη1
          replace e3 := zEq_i e3
          have w0_0_44 : (0 : Int) ≤ η 0 44 ∧ η 0 44 ≤ 64 := wf_ok (a := 44) (b := 44) (z := (0, 64)) hp.1 (by decide +kernel) (Nat.le_refl _) (Nat.le_refl _)
          replace e1 : x1 = η 0 44 := e1
          replace r1 : -2147483648 ≤ x1 ∧ x1 ≤ 2147483647 := r1
          replace e2 : x2 = η 0 44 := e2
          replace r2 : -2147483648 ≤ x2 ∧ x2 ≤ 2147483647 := r2
          first
          | replace e3 : x3 = x2 + 1 := zd_a2 (zEq_o e3) (by clear e3; exact ⟨by omega, by omega⟩)
          | clear e3
          have c0_0_44 : η 0 44 = η 0 44 := rfl
          have fm1 : zFm zMl_isCounted η η1 := by rw [eη1]; exact zFm_up zFm_rf rfl
          have fmE : zFm zMl_isCounted η η1 := fm1
          have fr22_0 : ∀ j, η 22 j = η 22 j := fun _ => rfl
          have v1 : ∀ j, η1 22 j = η 22 j := fun j => by rw [eη1]; exact zup_ne (fun e _ => absurd e (by decide))
          have fr22_1 : ∀ j, η1 22 j = η 22 j := v1
          have fr22 : ∀ j, η1 22 j = η 22 j := v1
          have v3 : zEq (η1 0 41) (η 0 41) := by rw [eη1]; exact (zup_ne (fun _ e => absurd e (by decide))).trans rfl
          have f0_41 : η1 0 41 = η 0 41 := v3
          have w0_0_43 : (0 : Int) ≤ η 0 43 ∧ η 0 43 ≤ 8 := wf_ok (a := 43) (b := 43) (z := (0, 8)) hp.1 (by decide +kernel) (Nat.le_refl _) (Nat.le_refl _)
          have v5 : zEq (η1 0 43) (η 0 43) := by rw [eη1]; exact (zup_ne (fun _ e => absurd e (by decide))).trans rfl
          have f0_43 : η1 0 43 = η 0 43 := v5
          have v7 : zEq (η1 0 42) (η 0 42) := by rw [eη1]; exact (zup_ne (fun _ e => absurd e (by decide))).trans rfl
          have f0_42 : η1 0 42 = η 0 42 := v7
          have v9 : zEq (η1 0 45) (η 0 45) := by rw [eη1]; exact (zup_ne (fun _ e => absurd e (by decide))).trans rfl
          have f0_45 : η1 0 45 = η 0 45 := v9
          have w0_0_19 : (0 : Int) ≤ η 0 19 ∧ η 0 19 ≤ 64 := wf_ok (a := 19) (b := 19) (z := (0, 64)) hp.1 (by decide +kernel) (Nat.le_refl _) (Nat.le_refl _)
          have v11 : zEq (η1 0 19) (η 0 19) := by rw [eη1]; exact (zup_ne (fun _ e => absurd e (by decide))).trans rfl
          have f0_19 : η1 0 19 = η 0 19 := v11
          have v12 : zEq (η1 0 44) (x3) := by rw [eη1]; exact zup_eq
          have f0_44 : η1 0 44 = x3 := v12
          have cw := cz_below (η := η) (η' := η1) (η 0 41).toNat (fun j _ => fr22 j)
          have HG := hpp.1
          exact ⟨fun _ => h_w (zGk_fm2 g0k_l HG fmE (by decide +kernel)) f0_41 f0_43 f0_42 f0_45 f0_19 f0_44 ⟨by omega, by apply Int.le_antisymm <;> omega, by apply Int.le_antisymm <;> omega, by apply Int.le_antisymm <;> omega⟩, fun w => absurd w (by decide)⟩
        · show ∀ x1 : Int, x1 = η 0 (Int.toNat 44) → zok 0 x1 → (x1 = 64) → ((gC2 wl_l [(nat_lit 0, zPl_wrong, zOl_wrong, zMl_wrong)] pCl_isCounted qCl_isCounted) 0).1 [2] η
          intro x1 e1 r1 c1
          exact hpp
        · show ∀ x1 : Int, x1 = η 0 (Int.toNat 44) → zok 0 x1 → (x1 = 64) → ∀ (x2 : Int) (η1 : zE), ((gC2 wl_l [(nat_lit 0, zPl_wrong, zOl_wrong, zMl_wrong)] pCl_isCounted qCl_isCounted) 0).2 [2] η x2 η1 → (fun (_ : Nat) (y : Int) (η' : zE) => pQl_isCounted [] η y η') 0 x2 η1
          intro x1 e1 r1 c1 x2 η1 h2
          have k2 : sQ wl_l zTr zOl_wrong zMl_wrong [2] η x2 η1 ∧ pQl_wrong [2] η x2 η1 := h2
          have w0_0_44 : (0 : Int) ≤ η 0 44 ∧ η 0 44 ≤ 64 := wf_ok (a := 44) (b := 44) (z := (0, 64)) hp.1 (by decide +kernel) (Nat.le_refl _) (Nat.le_refl _)
          replace e1 : x1 = η 0 44 := e1
          replace r1 : -2147483648 ≤ x1 ∧ x1 ≤ 2147483647 := r1
          have c0_0_41 : η 0 41 = η 0 41 := rfl
          have w0_0_43 : (0 : Int) ≤ η 0 43 ∧ η 0 43 ≤ 8 := wf_ok (a := 43) (b := 43) (z := (0, 8)) hp.1 (by decide +kernel) (Nat.le_refl _) (Nat.le_refl _)
          have c0_0_43 : η 0 43 = η 0 43 := rfl
          have c0_0_42 : η 0 42 = η 0 42 := rfl
          have c0_0_45 : η 0 45 = η 0 45 := rfl
          have w0_0_19 : (0 : Int) ≤ η 0 19 ∧ η 0 19 ≤ 64 := wf_ok (a := 19) (b := 19) (z := (0, 64)) hp.1 (by decide +kernel) (Nat.le_refl _) (Nat.le_refl _)
          have c0_0_19 : η 0 19 = η 0 19 := rfl
          have c0_0_44 : η 0 44 = η 0 44 := rfl
          have bx2 : (0 : Int) ≤ x2 ∧ x2 ≤ 0 := k2.1.2.1
          have fm1 : zFm zMl_isCounted η η1 := zFm_tr2 zFm_rf k2.1.2.2.2.1 (by decide +kernel)
          have fmE : zFm zMl_isCounted η η1 := fm1
          have fr22_0 : ∀ j, η 22 j = η 22 j := fun _ => rfl
          have v6 : ∀ j, η1 22 j = η 22 j := fun j => k2.1.2.2.2.1 22 _ (zinr_not (by decide +kernel))
          have fr22_1 : ∀ j, η1 22 j = η 22 j := v6
          have fr22 : ∀ j, η1 22 j = η 22 j := v6
          have v7 : zEq (η1 0 41) (η 0 41) := (k2.1.2.2.2.1 0 41 (by decide +kernel)).trans rfl
          have f0_41 : η1 0 41 = η 0 41 := v7
          have v8 : zEq (η1 0 43) (η 0 43) := (k2.1.2.2.2.1 0 43 (by decide +kernel)).trans rfl
          have f0_43 : η1 0 43 = η 0 43 := v8
          have v9 : zEq (η1 0 42) (η 0 42) := (k2.1.2.2.2.1 0 42 (by decide +kernel)).trans rfl
          have f0_42 : η1 0 42 = η 0 42 := v9
          have v10 : zEq (η1 0 45) (η 0 45) := (k2.1.2.2.2.1 0 45 (by decide +kernel)).trans rfl
          have f0_45 : η1 0 45 = η 0 45 := v10
          have v11 : zEq (η1 0 19) (η 0 19) := (k2.1.2.2.2.1 0 19 (by decide +kernel)).trans rfl
          have f0_19 : η1 0 19 = η 0 19 := v11
          have v12 : zEq (η1 0 44) (η 0 44) := (k2.1.2.2.2.1 0 44 (by decide +kernel)).trans rfl
          have f0_44 : η1 0 44 = η 0 44 := v12
          exact ⟨fun w => absurd (show x2 = 0 by omega) w, fun _ => k2.2⟩
      )
    (fun _ _ _ _ _ _ _ h => nomatch h)
    (fun _ h => nomatch h))
