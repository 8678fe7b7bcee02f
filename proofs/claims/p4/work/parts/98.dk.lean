def zPl_waitsFor : zPq := ([((.ofNat (nat_lit 3)), (.ofNat (nat_lit 14)))], [])
def zOl_waitsFor : zPo := (((.ofNat (nat_lit 0)), (.ofNat (nat_lit 0))), [], [])
def zMl_waitsFor : List zCe := [(nat_lit 0, nat_lit 42), (nat_lit 22, nat_lit 0)]
def pPl_waitsFor : List Int → zE → Prop := fun _ η => H_l 1 0 0 η
def pQl_waitsFor : List Int → zE → Int → zE → Prop := fun _ _ _ η' => H_l 0 0 (-1) η'
def pCl_waitsFor : Nat → List Int → zE → Prop := fun c => match c with
  | _ => fun _ _ => True
def qCl_waitsFor : Nat → List Int → zE → Int → zE → Prop := fun c => match c with
  | _ => fun _ _ _ _ => True
def iCl_waitsFor : List Int → zE → Nat → List Int → zE → Prop := fun xs η0 c => match c with
  | _ => fun _ _ => True
def zVl_waitsFor : List zIv := []
def zDl_waitsFor : List (List zK) := []
def zEl_waitsFor : List (List zK) := []
def zFl_waitsFor : List (List zK) := [[(nat_lit 7, nat_lit 0, [(nat_lit 2, (.ofNat (nat_lit 0))), (nat_lit 0, (.ofNat (nat_lit 96)))]), (nat_lit 4, nat_lit 0, [(nat_lit 0, (.ofNat (nat_lit 0))), (nat_lit 0, (.ofNat (nat_lit 41)))])],
  [(nat_lit 11, nat_lit 0, [(nat_lit 0, (.ofNat (nat_lit 0)))]), (nat_lit 5, nat_lit 0, [(nat_lit 0, (.ofNat (nat_lit 0))), (nat_lit 0, (.ofNat (nat_lit 41))), (nat_lit 4, (.ofNat (nat_lit 0)))]), (nat_lit 0, nat_lit 1, [(nat_lit 3, (.ofNat (nat_lit 0))), (nat_lit 0, (.ofNat (nat_lit 1)))]), (nat_lit 4, nat_lit 0, [(nat_lit 0, (.ofNat (nat_lit 0))), (nat_lit 0, (.ofNat (nat_lit 41)))]), (nat_lit 5, nat_lit 0, [(nat_lit 22, (.ofNat (nat_lit 0))), (nat_lit 2, (.ofNat (nat_lit 0))), (nat_lit 1, (.ofNat (nat_lit 0)))]), (nat_lit 4, nat_lit 0, [(nat_lit 0, (.ofNat (nat_lit 0))), (nat_lit 0, (.ofNat (nat_lit 41)))])]]
set_option maxHeartbeats 8000000 in
theorem zl_waitsFor {ro : Nat → List Int32} : zMet pr_P pr_K pr_df ro (sm_X0 1 6) 0 145 tm_l [(.inr (.inr (.inl (nat_lit 0)))), (.inl (nat_lit 1, (.ofNat (nat_lit 0))))] 0 [(nat_lit 0, nat_lit 0, nat_lit 1), (nat_lit 0, nat_lit 3, nat_lit 2), (nat_lit 0, nat_lit 20, nat_lit 3), (nat_lit 0, nat_lit 21, nat_lit 4), (nat_lit 0, nat_lit 22, nat_lit 5), (nat_lit 0, nat_lit 23, nat_lit 6), (nat_lit 0, nat_lit 24, nat_lit 7), (nat_lit 0, nat_lit 25, nat_lit 8), (nat_lit 0, nat_lit 26, nat_lit 9), (nat_lit 0, nat_lit 27, nat_lit 10), (nat_lit 0, nat_lit 28, nat_lit 11), (nat_lit 0, nat_lit 29, nat_lit 12), (nat_lit 0, nat_lit 30, nat_lit 13), (nat_lit 0, nat_lit 31, nat_lit 14), (nat_lit 0, nat_lit 32, nat_lit 15), (nat_lit 0, nat_lit 33, nat_lit 16), (nat_lit 0, nat_lit 34, nat_lit 17), (nat_lit 0, nat_lit 35, nat_lit 18), (nat_lit 0, nat_lit 36, nat_lit 19), (nat_lit 0, nat_lit 37, nat_lit 20), (nat_lit 0, nat_lit 38, nat_lit 21), (nat_lit 0, nat_lit 39, nat_lit 22), (nat_lit 0, nat_lit 40, nat_lit 23), (nat_lit 0, nat_lit 47, nat_lit 24), (nat_lit 0, nat_lit 48, nat_lit 25), (nat_lit 0, nat_lit 50, nat_lit 26), (nat_lit 0, nat_lit 51, nat_lit 27), (nat_lit 0, nat_lit 52, nat_lit 28), (nat_lit 0, nat_lit 53, nat_lit 29), (nat_lit 0, nat_lit 54, nat_lit 30), (nat_lit 0, nat_lit 55, nat_lit 31), (nat_lit 0, nat_lit 56, nat_lit 32), (nat_lit 0, nat_lit 57, nat_lit 33), (nat_lit 0, nat_lit 58, nat_lit 34), (nat_lit 0, nat_lit 59, nat_lit 35), (nat_lit 0, nat_lit 72, nat_lit 36), (nat_lit 0, nat_lit 73, nat_lit 37), (nat_lit 0, nat_lit 76, nat_lit 38), (nat_lit 0, nat_lit 77, nat_lit 39), (nat_lit 0, nat_lit 79, nat_lit 40), (nat_lit 0, nat_lit 81, nat_lit 41), (nat_lit 0, nat_lit 82, nat_lit 42)] [] (fun xs η => sP wl_l zTr zPl_waitsFor xs η ∧ pPl_waitsFor xs η) (fun xs η y η' => sQ wl_l zTr zOl_waitsFor zMl_waitsFor xs η y η' ∧ pQl_waitsFor xs η y η') :=
  zmet_alt (zmea_gen (mi := (nat_lit 1, nat_lit 1, nat_lit 8, nat_lit 2, nat_lit 0, tX8_waitsFor)) (cd := []) (cu := []) (cs := []) (iv := zVl_waitsFor) (po := [zOl_waitsFor]) (pr := zPl_waitsFor) (mods := zMl_waitsFor) (D7 := zDl_waitsFor) (D0 := zEl_waitsFor) (Dm := zFl_waitsFor) (f0 := 17) pCl_waitsFor qCl_waitsFor iCl_waitsFor pPl_waitsFor (fun xs η _ y η' => pQl_waitsFor xs η y η') zX_low pr_mtR rfl (fun _ h => nomatch h) (by decide +kernel) (by decide +kernel) (by decide +kernel)
    (fun _ _ _ _ _ _ _ h => nomatch h)
    (by
      intro xs η hr hl hp hpp
      match xs, hl, hp, hpp with
      | [x1], _, hp, hpp =>
        refine List.forall_mem_cons.mpr ⟨?_, List.forall_mem_cons.mpr ⟨?_, fun _ h => nomatch h⟩⟩
        · show ∀ x2 : Int, x2 = η 0 (Int.toNat 41) → zok 0 x2 → (0 : Int) ≤ x2 ∧ (x2 : Int) < 96
          obtain ⟨j1, j2, j3, j4⟩ := hpp.2
          have cn := cz_n (η := η) (η 0 41).toNat
          have bd43 : (0 : Int) ≤ η 0 43 ∧ η 0 43 ≤ 8 := wf_ok (a := 43) (b := 43) (z := (0, 8)) hp.1 (by decide +kernel) (Nat.le_refl _) (Nat.le_refl _)
          have bd44 : (0 : Int) ≤ η 0 44 ∧ η 0 44 ≤ 64 := wf_ok (a := 44) (b := 44) (z := (0, 64)) hp.1 (by decide +kernel) (Nat.le_refl _) (Nat.le_refl _)
          have bd19 : (0 : Int) ≤ η 0 19 ∧ η 0 19 ≤ 64 := wf_ok (a := 19) (b := 19) (z := (0, 64)) hp.1 (by decide +kernel) (Nat.le_refl _) (Nat.le_refl _)
          intro x2 e2 r2
          have bx1 : (3 : Int) ≤ x1 ∧ x1 ≤ 14 := hp.2.1.1
          replace e2 : x2 = η 0 41 := e2
          replace r2 : -2147483648 ≤ x2 ∧ x2 ≤ 2147483647 := r2
          have fmE : zFm zMl_waitsFor η η := zFm_rf
          have fr22_0 : ∀ j, η 22 j = η 22 j := fun _ => rfl
          have fr22 : ∀ j, η 22 j = η 22 j := fun _ => rfl
          have f0_41 : η 0 41 = η 0 41 := rfl
          have w0_0_43 : (0 : Int) ≤ η 0 43 ∧ η 0 43 ≤ 8 := wf_ok (a := 43) (b := 43) (z := (0, 8)) hp.1 (by decide +kernel) (Nat.le_refl _) (Nat.le_refl _)
          have f0_43 : η 0 43 = η 0 43 := rfl
          have f0_42 : η 0 42 = η 0 42 := rfl
          have f0_45 : η 0 45 = η 0 45 := rfl
          have w0_0_19 : (0 : Int) ≤ η 0 19 ∧ η 0 19 ≤ 64 := wf_ok (a := 19) (b := 19) (z := (0, 64)) hp.1 (by decide +kernel) (Nat.le_refl _) (Nat.le_refl _)
          have f0_19 : η 0 19 = η 0 19 := rfl
          have w0_0_44 : (0 : Int) ≤ η 0 44 ∧ η 0 44 ≤ 64 := wf_ok (a := 44) (b := 44) (z := (0, 64)) hp.1 (by decide +kernel) (Nat.le_refl _) (Nat.le_refl _)
          have f0_44 : η 0 44 = η 0 44 := rfl
          exact ⟨by omega, by omega⟩
        · show ∀ x2 : Int, x2 = η 0 (Int.toNat 41) → zok 0 x2 → ∀ η1 : zE, η1 = zup η 22 (Int.toNat x2) x1 → ∀ x3 : Int, x3 = η1 0 (Int.toNat 41) → zok 0 x3 → ∀ x4 : Int, x4 = zd 0 1 x3 1 → ∀ η2 : zE, η2 = zup η1 0 (Int.toNat 41) x4 → (fun j y η1 => zsQ wl_l zTr [zOl_waitsFor] zMl_waitsFor [x1] η j y η1 ∧ pQl_waitsFor [x1] η y η1) 0 0 η2
          obtain ⟨j1, j2, j3, j4⟩ := hpp.2
          have cn := cz_n (η := η) (η 0 41).toNat
          have bd43 : (0 : Int) ≤ η 0 43 ∧ η 0 43 ≤ 8 := wf_ok (a := 43) (b := 43) (z := (0, 8)) hp.1 (by decide +kernel) (Nat.le_refl _) (Nat.le_refl _)
          have bd44 : (0 : Int) ≤ η 0 44 ∧ η 0 44 ≤ 64 := wf_ok (a := 44) (b := 44) (z := (0, 64)) hp.1 (by decide +kernel) (Nat.le_refl _) (Nat.le_refl _)
          have bd19 : (0 : Int) ≤ η 0 19 ∧ η 0 19 ≤ 64 := wf_ok (a := 19) (b := 19) (z := (0, 64)) hp.1 (by decide +kernel) (Nat.le_refl _) (Nat.le_refl _)
          intro x2 e2 r2 η1 eη1 x3 e3 r3 x4 e4 η2 eη2
          replace e4 := zEq_i e4
          have bx1 : (3 : Int) ≤ x1 ∧ x1 ≤ 14 := hp.2.1.1
          replace e2 : x2 = η 0 41 := e2
          replace r2 : -2147483648 ≤ x2 ∧ x2 ≤ 2147483647 := r2
          have wb1 : wB wl_l zTr η1 := by rw [eη1]; exact wk_ok (a := 0) (b := 95) (z := (0, 14)) zTr_k (GR := []) hp.1 (by decide +kernel) (by omega) (by omega) (show (0 : Int) ≤ x1 by omega) (show x1 ≤ (14 : Int) by omega)
          have v1 : zEq (η1 0 41) (η 0 41) := by rw [eη1]; exact (zup_ne (fun e _ => absurd e (by decide))).trans rfl
          replace e3 : x3 = η 0 41 := e3.trans v1
          replace r3 : -2147483648 ≤ x3 ∧ x3 ≤ 2147483647 := r3
          first
          | replace e4 : x4 = x3 + 1 := zd_a2 (zEq_o e4) (by clear e4; exact ⟨by omega, by omega⟩)
          | clear e4
          have c1_0_41 : η1 0 41 = η 0 41 := v1
          have wb2 : wB wl_l zTr η2 := by rw [eη2]; exact wk_ok (a := 41) (b := 41) (z := ((-2147483648), 2147483647)) zTr_k (GR := []) wb1 (by decide +kernel) (by decide) (by decide) (show ((-2147483648) : Int) ≤ x4 by omega) (show x4 ≤ (2147483647 : Int) by omega)
          have fm1 : zFm zMl_waitsFor η η1 := by rw [eη1]; exact zFm_up zFm_rf (zin2_of (q := (22, 0)) (by decide) rfl (Or.inl rfl))
          have fm2 : zFm zMl_waitsFor η η2 := by rw [eη2]; exact zFm_up fm1 rfl
          have fmE : zFm zMl_waitsFor η η2 := fm2
          have fr22_0 : ∀ j, η 22 j = η 22 j := fun _ => rfl
          have fr22_1 : ∀ j, η1 22 j = η1 22 j := fun _ => rfl
          have v3 : ∀ j, η2 22 j = η1 22 j := fun j => by rw [eη2]; exact zup_ne (fun e _ => absurd e (by decide))
          have fr22_2 : ∀ j, η2 22 j = η1 22 j := v3
          have fr22 : ∀ j, η2 22 j = η1 22 j := v3
          have v4 : zEq (η2 0 41) (x4) := by rw [eη2]; exact zup_eq
          have f0_41 : η2 0 41 = x4 := v4
          have w0_0_43 : (0 : Int) ≤ η 0 43 ∧ η 0 43 ≤ 8 := wf_ok (a := 43) (b := 43) (z := (0, 8)) hp.1 (by decide +kernel) (Nat.le_refl _) (Nat.le_refl _)
          have v6 : zEq (η1 0 43) (η 0 43) := by rw [eη1]; exact (zup_ne (fun e _ => absurd e (by decide))).trans rfl
          have v7 : zEq (η2 0 43) (η 0 43) := by rw [eη2]; exact (zup_ne (fun _ e => absurd e (by decide))).trans v6
          have f0_43 : η2 0 43 = η 0 43 := v7
          have v9 : zEq (η1 0 42) (η 0 42) := by rw [eη1]; exact (zup_ne (fun e _ => absurd e (by decide))).trans rfl
          have v10 : zEq (η2 0 42) (η 0 42) := by rw [eη2]; exact (zup_ne (fun _ e => absurd e (by decide))).trans v9
          have f0_42 : η2 0 42 = η 0 42 := v10
          have v12 : zEq (η1 0 45) (η 0 45) := by rw [eη1]; exact (zup_ne (fun e _ => absurd e (by decide))).trans rfl
          have v13 : zEq (η2 0 45) (η 0 45) := by rw [eη2]; exact (zup_ne (fun _ e => absurd e (by decide))).trans v12
          have f0_45 : η2 0 45 = η 0 45 := v13
          have w0_0_19 : (0 : Int) ≤ η 0 19 ∧ η 0 19 ≤ 64 := wf_ok (a := 19) (b := 19) (z := (0, 64)) hp.1 (by decide +kernel) (Nat.le_refl _) (Nat.le_refl _)
          have v15 : zEq (η1 0 19) (η 0 19) := by rw [eη1]; exact (zup_ne (fun e _ => absurd e (by decide))).trans rfl
          have v16 : zEq (η2 0 19) (η 0 19) := by rw [eη2]; exact (zup_ne (fun _ e => absurd e (by decide))).trans v15
          have f0_19 : η2 0 19 = η 0 19 := v16
          have w0_0_44 : (0 : Int) ≤ η 0 44 ∧ η 0 44 ≤ 64 := wf_ok (a := 44) (b := 44) (z := (0, 64)) hp.1 (by decide +kernel) (Nat.le_refl _) (Nat.le_refl _)
          have v18 : zEq (η1 0 44) (η 0 44) := by rw [eη1]; exact (zup_ne (fun e _ => absurd e (by decide))).trans rfl
          have v19 : zEq (η2 0 44) (η 0 44) := by rw [eη2]; exact (zup_ne (fun _ e => absurd e (by decide))).trans v18
          have f0_44 : η2 0 44 = η 0 44 := v19
          have wbE : wB wl_l zTr η2 := wb2
          
          rw [e2] at eη1
          have cp := cz_push3 (η := η) (w := η 0 41) (x := x1) j1 bx1.1
          rw [← eη1, show η 0 41 + 1 = x4 by omega] at cp
          have cq := cz_zup (η := η1) (r := 0) (j := Int.toNat 41) (x := x4) (by decide) x4.toNat
          rw [← eη2] at cq
          have HG := hpp.1
          exact ⟨⟨wbE, ⟨by decide, by decide⟩, (fun f hf => nomatch hf), fmE, fun _ _ w => nomatch w⟩, h_w (zGk_fm2 g0k_l HG fmE (by decide +kernel)) f0_41 f0_43 f0_42 f0_45 f0_19 f0_44 ⟨by omega, by apply Int.le_antisymm <;> omega, by apply Int.le_antisymm <;> omega, by apply Int.le_antisymm <;> omega⟩⟩
      )
    (fun _ h => nomatch h))
