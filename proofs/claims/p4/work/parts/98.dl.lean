def zPl_dropHeld : zPq := ([], [])
def zOl_dropHeld : zPo := (((.ofNat (nat_lit 0)), (.ofNat (nat_lit 63))), [], [])
def zMl_dropHeld : List zCe := [(nat_lit 0, nat_lit 43)]
def pPl_dropHeld : List Int → zE → Prop := fun _ η => (∃ f, H_l 1 0 f η) ∧ 1 ≤ η 0 42 ∧ η 0 42 ≤ 96
def pQl_dropHeld : List Int → zE → Int → zE → Prop := fun _ η _ η' => (∀ f, H_l 1 0 f η → H_l 1 0 (f - 1) η') ∧ η' 0 42 = η 0 42 - 1
def pCl_dropHeld : Nat → List Int → zE → Prop := fun c => match c with
  | _ => fun _ _ => True
def qCl_dropHeld : Nat → List Int → zE → Int → zE → Prop := fun c => match c with
  | _ => fun _ _ _ _ => True
def iCl_dropHeld : List Int → zE → Nat → List Int → zE → Prop := fun xs η0 c => match c with
  | _ => fun _ _ => True
def zVl_dropHeld : List zIv := []
def zDl_dropHeld : List (List zK) := []
def zEl_dropHeld : List (List zK) := []
def zFl_dropHeld : List (List zK) := [[(nat_lit 7, nat_lit 0, [(nat_lit 3, (.ofNat (nat_lit 0))), (nat_lit 0, (.ofNat (nat_lit 96)))]), (nat_lit 4, nat_lit 0, [(nat_lit 0, (.ofNat (nat_lit 0))), (nat_lit 0, (.ofNat (nat_lit 42)))]), (nat_lit 5, nat_lit 0, [(nat_lit 0, (.ofNat (nat_lit 0))), (nat_lit 0, (.ofNat (nat_lit 42))), (nat_lit 2, (.ofNat (nat_lit 0)))]), (nat_lit 0, nat_lit 2, [(nat_lit 1, (.ofNat (nat_lit 0))), (nat_lit 0, (.ofNat (nat_lit 1)))]), (nat_lit 4, nat_lit 0, [(nat_lit 0, (.ofNat (nat_lit 0))), (nat_lit 0, (.ofNat (nat_lit 42)))])],
  [(nat_lit 11, nat_lit 0, [(nat_lit 4, (.ofNat (nat_lit 0)))]), (nat_lit 4, nat_lit 0, [(nat_lit 23, (.ofNat (nat_lit 0))), (nat_lit 3, (.ofNat (nat_lit 0)))]), (nat_lit 4, nat_lit 0, [(nat_lit 0, (.ofNat (nat_lit 0))), (nat_lit 0, (.ofNat (nat_lit 42)))]), (nat_lit 5, nat_lit 0, [(nat_lit 0, (.ofNat (nat_lit 0))), (nat_lit 0, (.ofNat (nat_lit 42))), (nat_lit 2, (.ofNat (nat_lit 0)))]), (nat_lit 0, nat_lit 2, [(nat_lit 1, (.ofNat (nat_lit 0))), (nat_lit 0, (.ofNat (nat_lit 1)))]), (nat_lit 4, nat_lit 0, [(nat_lit 0, (.ofNat (nat_lit 0))), (nat_lit 0, (.ofNat (nat_lit 42)))])]]
set_option maxHeartbeats 8000000 in
theorem zl_dropHeld {ro : Nat → List Int32} : zMet pr_P pr_K pr_df ro (sm_X0 1 6) 0 142 tm_l [(.inr (.inr (.inl (nat_lit 0))))] 1 [(nat_lit 0, nat_lit 0, nat_lit 1), (nat_lit 0, nat_lit 3, nat_lit 2), (nat_lit 0, nat_lit 20, nat_lit 3), (nat_lit 0, nat_lit 21, nat_lit 4), (nat_lit 0, nat_lit 22, nat_lit 5), (nat_lit 0, nat_lit 23, nat_lit 6), (nat_lit 0, nat_lit 24, nat_lit 7), (nat_lit 0, nat_lit 25, nat_lit 8), (nat_lit 0, nat_lit 26, nat_lit 9), (nat_lit 0, nat_lit 27, nat_lit 10), (nat_lit 0, nat_lit 28, nat_lit 11), (nat_lit 0, nat_lit 29, nat_lit 12), (nat_lit 0, nat_lit 30, nat_lit 13), (nat_lit 0, nat_lit 31, nat_lit 14), (nat_lit 0, nat_lit 32, nat_lit 15), (nat_lit 0, nat_lit 33, nat_lit 16), (nat_lit 0, nat_lit 34, nat_lit 17), (nat_lit 0, nat_lit 35, nat_lit 18), (nat_lit 0, nat_lit 36, nat_lit 19), (nat_lit 0, nat_lit 37, nat_lit 20), (nat_lit 0, nat_lit 38, nat_lit 21), (nat_lit 0, nat_lit 39, nat_lit 22), (nat_lit 0, nat_lit 40, nat_lit 23), (nat_lit 0, nat_lit 47, nat_lit 24), (nat_lit 0, nat_lit 48, nat_lit 25), (nat_lit 0, nat_lit 50, nat_lit 26), (nat_lit 0, nat_lit 51, nat_lit 27), (nat_lit 0, nat_lit 52, nat_lit 28), (nat_lit 0, nat_lit 53, nat_lit 29), (nat_lit 0, nat_lit 54, nat_lit 30), (nat_lit 0, nat_lit 55, nat_lit 31), (nat_lit 0, nat_lit 56, nat_lit 32), (nat_lit 0, nat_lit 57, nat_lit 33), (nat_lit 0, nat_lit 58, nat_lit 34), (nat_lit 0, nat_lit 59, nat_lit 35), (nat_lit 0, nat_lit 72, nat_lit 36), (nat_lit 0, nat_lit 73, nat_lit 37), (nat_lit 0, nat_lit 76, nat_lit 38), (nat_lit 0, nat_lit 77, nat_lit 39), (nat_lit 0, nat_lit 79, nat_lit 40), (nat_lit 0, nat_lit 81, nat_lit 41), (nat_lit 0, nat_lit 82, nat_lit 42)] [] (fun xs η => sP wl_l zTr zPl_dropHeld xs η ∧ pPl_dropHeld xs η) (fun xs η y η' => sQ wl_l zTr zOl_dropHeld zMl_dropHeld xs η y η' ∧ pQl_dropHeld xs η y η') :=
  zmet_alt (zmea_gen (mi := (nat_lit 0, nat_lit 1, nat_lit 8, nat_lit 1, nat_lit 1, tX8_dropHeld)) (cd := []) (cu := []) (cs := []) (iv := zVl_dropHeld) (po := [zOl_dropHeld]) (pr := zPl_dropHeld) (mods := zMl_dropHeld) (D7 := zDl_dropHeld) (D0 := zEl_dropHeld) (Dm := zFl_dropHeld) (f0 := 16) pCl_dropHeld qCl_dropHeld iCl_dropHeld pPl_dropHeld (fun xs η _ y η' => pQl_dropHeld xs η y η') zX_low pr_mtR rfl (fun _ h => nomatch h) (by decide +kernel) (by decide +kernel) (by decide +kernel)
    (fun _ _ _ _ _ _ _ h => nomatch h)
    (by
      intro xs η hr hl hp hpp
      match xs, hl, hp, hpp with
      | [], _, hp, hpp =>
        refine List.forall_mem_cons.mpr ⟨?_, List.forall_mem_cons.mpr ⟨?_, fun _ h => nomatch h⟩⟩
        · show ∀ x1 : Int, x1 = η 0 (Int.toNat 42) → zok 0 x1 → ∀ x2 : Int, x2 = zd 0 2 x1 1 → ∀ η1 : zE, η1 = zup η 0 (Int.toNat 42) x2 → ∀ x3 : Int, x3 = η1 0 (Int.toNat 42) → zok 0 x3 → (0 : Int) ≤ x3 ∧ (x3 : Int) < 96
          have a1 : 1 ≤ η 0 42 := hpp.2.1
          have a2 : η 0 42 ≤ 96 := hpp.2.2
          intro x1 e1 r1 x2 e2 η1 eη1 x3 e3 r3
          replace e2 := zEq_i e2
          replace e1 : x1 = η 0 42 := e1
          replace r1 : -2147483648 ≤ x1 ∧ x1 ≤ 2147483647 := r1
          first
          | replace e2 : x2 = x1 - 1 := zd_s2 (zEq_o e2) (by clear e2; exact ⟨by omega, by omega⟩)
          | clear e2
          have c0_0_42 : η 0 42 = η 0 42 := rfl
          have v1 : zEq (η1 0 42) (x2) := by rw [eη1]; exact zup_eq
          replace e3 : x3 = x2 := e3.trans v1
          replace r3 : -2147483648 ≤ x3 ∧ x3 ≤ 2147483647 := r3
          have fm1 : zFm zMl_dropHeld η η1 := by rw [eη1]; exact zFm_up zFm_rf rfl
          have fmE : zFm zMl_dropHeld η η1 := fm1
          have fr22_0 : ∀ j, η 22 j = η 22 j := fun _ => rfl
          have v2 : ∀ j, η1 22 j = η 22 j := fun j => by rw [eη1]; exact zup_ne (fun e _ => absurd e (by decide))
          have fr22_1 : ∀ j, η1 22 j = η 22 j := v2
          have fr22 : ∀ j, η1 22 j = η 22 j := v2
          have v4 : zEq (η1 0 41) (η 0 41) := by rw [eη1]; exact (zup_ne (fun _ e => absurd e (by decide))).trans rfl
          have f0_41 : η1 0 41 = η 0 41 := v4
          have w0_0_43 : (0 : Int) ≤ η 0 43 ∧ η 0 43 ≤ 8 := wf_ok (a := 43) (b := 43) (z := (0, 8)) hp.1 (by decide +kernel) (Nat.le_refl _) (Nat.le_refl _)
          have v6 : zEq (η1 0 43) (η 0 43) := by rw [eη1]; exact (zup_ne (fun _ e => absurd e (by decide))).trans rfl
          have f0_43 : η1 0 43 = η 0 43 := v6
          have f0_42 : η1 0 42 = x2 := v1
          have v8 : zEq (η1 0 45) (η 0 45) := by rw [eη1]; exact (zup_ne (fun _ e => absurd e (by decide))).trans rfl
          have f0_45 : η1 0 45 = η 0 45 := v8
          have w0_0_19 : (0 : Int) ≤ η 0 19 ∧ η 0 19 ≤ 64 := wf_ok (a := 19) (b := 19) (z := (0, 64)) hp.1 (by decide +kernel) (Nat.le_refl _) (Nat.le_refl _)
          have v10 : zEq (η1 0 19) (η 0 19) := by rw [eη1]; exact (zup_ne (fun _ e => absurd e (by decide))).trans rfl
          have f0_19 : η1 0 19 = η 0 19 := v10
          have w0_0_44 : (0 : Int) ≤ η 0 44 ∧ η 0 44 ≤ 64 := wf_ok (a := 44) (b := 44) (z := (0, 64)) hp.1 (by decide +kernel) (Nat.le_refl _) (Nat.le_refl _)
          have v12 : zEq (η1 0 44) (η 0 44) := by rw [eη1]; exact (zup_ne (fun _ e => absurd e (by decide))).trans rfl
          have f0_44 : η1 0 44 = η 0 44 := v12
          exact ⟨by omega, by omega⟩
        · show ∀ x1 : Int, x1 = η 0 (Int.toNat 42) → zok 0 x1 → ∀ x2 : Int, x2 = zd 0 2 x1 1 → ∀ η1 : zE, η1 = zup η 0 (Int.toNat 42) x2 → ∀ x3 : Int, x3 = η1 0 (Int.toNat 42) → zok 0 x3 → ∀ x4 : Int, x4 = η1 23 (Int.toNat x3) → zok 0 x4 → (fun j y η1 => zsQ wl_l zTr [zOl_dropHeld] zMl_dropHeld [] η j y η1 ∧ pQl_dropHeld [] η y η1) 0 x4 η1
          have a1 : 1 ≤ η 0 42 := hpp.2.1
          have a2 : η 0 42 ≤ 96 := hpp.2.2
          intro x1 e1 r1 x2 e2 η1 eη1 x3 e3 r3 x4 e4 r4
          replace e2 := zEq_i e2
          replace e1 : x1 = η 0 42 := e1
          replace r1 : -2147483648 ≤ x1 ∧ x1 ≤ 2147483647 := r1
          first
          | replace e2 : x2 = x1 - 1 := zd_s2 (zEq_o e2) (by clear e2; exact ⟨by omega, by omega⟩)
          | clear e2
          have c0_0_42 : η 0 42 = η 0 42 := rfl
          have wb1 : wB wl_l zTr η1 := by rw [eη1]; exact wk_ok (a := 42) (b := 42) (z := ((-2147483648), 2147483647)) zTr_k (GR := []) hp.1 (by decide +kernel) (by decide) (by decide) (show ((-2147483648) : Int) ≤ x2 by omega) (show x2 ≤ (2147483647 : Int) by omega)
          have v1 : zEq (η1 0 42) (x2) := by rw [eη1]; exact zup_eq
          replace e3 : x3 = x2 := e3.trans v1
          replace r3 : -2147483648 ≤ x3 ∧ x3 ≤ 2147483647 := r3
          have v3 : zEq (η1 23 (Int.toNat x3)) (η 23 (Int.toNat x3)) := by rw [eη1]; exact (zup_ne (fun e _ => absurd e (by decide))).trans rfl
          replace e4 : x4 = η 23 (Int.toNat x3) := e4.trans v3
          replace r4 : -2147483648 ≤ x4 ∧ x4 ≤ 2147483647 := r4
          try have rb4 : (0 : Int) ≤ η 23 (Int.toNat x3) ∧ η 23 (Int.toNat x3) ≤ 63 := wf_ok (a := 0) (b := 95) (z := (0, 63)) hp.1 (by decide +kernel) (Nat.zero_le _) (by omega)
          have fm1 : zFm zMl_dropHeld η η1 := by rw [eη1]; exact zFm_up zFm_rf rfl
          have fmE : zFm zMl_dropHeld η η1 := fm1
          have fr22_0 : ∀ j, η 22 j = η 22 j := fun _ => rfl
          have v4 : ∀ j, η1 22 j = η 22 j := fun j => by rw [eη1]; exact zup_ne (fun e _ => absurd e (by decide))
          have fr22_1 : ∀ j, η1 22 j = η 22 j := v4
          have fr22 : ∀ j, η1 22 j = η 22 j := v4
          have v6 : zEq (η1 0 41) (η 0 41) := by rw [eη1]; exact (zup_ne (fun _ e => absurd e (by decide))).trans rfl
          have f0_41 : η1 0 41 = η 0 41 := v6
          have w0_0_43 : (0 : Int) ≤ η 0 43 ∧ η 0 43 ≤ 8 := wf_ok (a := 43) (b := 43) (z := (0, 8)) hp.1 (by decide +kernel) (Nat.le_refl _) (Nat.le_refl _)
          have v8 : zEq (η1 0 43) (η 0 43) := by rw [eη1]; exact (zup_ne (fun _ e => absurd e (by decide))).trans rfl
          have f0_43 : η1 0 43 = η 0 43 := v8
          have f0_42 : η1 0 42 = x2 := v1
          have v10 : zEq (η1 0 45) (η 0 45) := by rw [eη1]; exact (zup_ne (fun _ e => absurd e (by decide))).trans rfl
          have f0_45 : η1 0 45 = η 0 45 := v10
          have w0_0_19 : (0 : Int) ≤ η 0 19 ∧ η 0 19 ≤ 64 := wf_ok (a := 19) (b := 19) (z := (0, 64)) hp.1 (by decide +kernel) (Nat.le_refl _) (Nat.le_refl _)
          have v12 : zEq (η1 0 19) (η 0 19) := by rw [eη1]; exact (zup_ne (fun _ e => absurd e (by decide))).trans rfl
          have f0_19 : η1 0 19 = η 0 19 := v12
          have w0_0_44 : (0 : Int) ≤ η 0 44 ∧ η 0 44 ≤ 64 := wf_ok (a := 44) (b := 44) (z := (0, 64)) hp.1 (by decide +kernel) (Nat.le_refl _) (Nat.le_refl _)
          have v14 : zEq (η1 0 44) (η 0 44) := by rw [eη1]; exact (zup_ne (fun _ e => absurd e (by decide))).trans rfl
          have f0_44 : η1 0 44 = η 0 44 := v14
          have wbE : wB wl_l zTr η1 := wb1
          
          have cw := cz_below (η := η) (η' := η1) (η 0 41).toNat (fun j _ => fr22 j)
          exact ⟨⟨wbE, ⟨show (0 : Int) ≤ x4 by omega, show x4 ≤ 63 by omega⟩, (fun f hf => nomatch hf), fmE, fun _ _ w => nomatch w⟩, fun f H => by
            obtain ⟨j1, j2, j3, j4⟩ := H.2
            have HG := H.1
            exact h_w (zGk_fm2 g0k_l HG fmE (by decide +kernel)) f0_41 f0_43 f0_42 f0_45 f0_19 f0_44 ⟨by omega, by apply Int.le_antisymm <;> omega, by apply Int.le_antisymm <;> omega, by apply Int.le_antisymm <;> omega⟩, show η1 0 42 = η 0 42 - 1 by omega⟩
      )
    (fun _ h => nomatch h))
