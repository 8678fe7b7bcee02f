def tm_ke : zTm := tm_k
def wl_ke : wL := wl_k
def gr_ke : List zCe := gr_k
def G_ke : zE → Prop := G_k
theorem gk_ke : zGk G_ke gr_ke := gk_k
def zPke_wrong : zPq := ([((.ofNat (nat_lit 1)), (.ofNat (nat_lit 3)))], [])
def zOke_wrong : zPo := (((.ofNat (nat_lit 0)), (.ofNat (nat_lit 0))), [], [])
def zMke_wrong : List zCe := [(nat_lit 0, nat_lit 5), (nat_lit 0, nat_lit 6)]
def pPke_wrong : List Int → zE → Prop := (fun _ η => G_ke η)
def oQke_wrong : List Int → zE → Int → zE → Prop := (fun _ _ _ η' => G_ke η')
def fQke_wrong : List Int → zE → Int → zE → Prop := fun xs η y η' => y = 0 ∧ η' = (yq_wr (xs.getD 0 0) η)
def pQke_wrong : List Int → zE → Int → zE → Prop := fun xs η y η' => oQke_wrong xs η y η' ∧ fQke_wrong xs η y η'
def pCke_wrong : Nat → List Int → zE → Prop := fun c => match c with
  | _ => fun _ _ => True
def qCke_wrong : Nat → List Int → zE → Int → zE → Prop := fun c => match c with
  | _ => fun _ _ _ _ => True
def iCke_wrong : List Int → zE → Nat → List Int → zE → Prop := fun xs η0 c => match c with
  | _ => fun _ _ => True
def zVke_wrong : List zIv := []
def zDke_wrong : List (List zK) := [[(nat_lit 7, nat_lit 2, [(nat_lit 0, (.ofNat (nat_lit 0)))]), (nat_lit 5, nat_lit 0, [(nat_lit 0, (.ofNat (nat_lit 0))), (nat_lit 0, (.ofNat (nat_lit 5))), (nat_lit 2, (.ofNat (nat_lit 0)))]), (nat_lit 4, nat_lit 0, [(nat_lit 0, (.ofNat (nat_lit 0))), (nat_lit 0, (.ofNat (nat_lit 10)))]), (nat_lit 5, nat_lit 0, [(nat_lit 0, (.ofNat (nat_lit 0))), (nat_lit 0, (.ofNat (nat_lit 4))), (nat_lit 1, (.ofNat (nat_lit 0)))])]]
def zEke_wrong : List (List zK) := [[(nat_lit 11, nat_lit 0, [(nat_lit 0, (.ofNat (nat_lit 0)))]), (nat_lit 5, nat_lit 0, [(nat_lit 0, (.ofNat (nat_lit 0))), (nat_lit 0, (.ofNat (nat_lit 5))), (nat_lit 2, (.ofNat (nat_lit 0)))]), (nat_lit 4, nat_lit 0, [(nat_lit 0, (.ofNat (nat_lit 0))), (nat_lit 0, (.ofNat (nat_lit 10)))]), (nat_lit 5, nat_lit 0, [(nat_lit 0, (.ofNat (nat_lit 0))), (nat_lit 0, (.ofNat (nat_lit 4))), (nat_lit 1, (.ofNat (nat_lit 0)))])]]
def zFke_wrong : List (List zK) := []
set_option maxHeartbeats 8000000 in
theorem zke_wrong {ro : Nat → List Int32} : zMet pr_P pr_K pr_df ro (sm_X0 1 6) 0 118 tm_ke [(.inr (.inr (.inl (nat_lit 0)))), (.inl (nat_lit 1, (.ofNat (nat_lit 0))))] 2 [(nat_lit 0, nat_lit 0, nat_lit 1), (nat_lit 0, nat_lit 3, nat_lit 2), (nat_lit 0, nat_lit 20, nat_lit 3), (nat_lit 0, nat_lit 21, nat_lit 4), (nat_lit 0, nat_lit 22, nat_lit 5), (nat_lit 0, nat_lit 23, nat_lit 6), (nat_lit 0, nat_lit 24, nat_lit 7), (nat_lit 0, nat_lit 25, nat_lit 8), (nat_lit 0, nat_lit 26, nat_lit 9), (nat_lit 0, nat_lit 27, nat_lit 10), (nat_lit 0, nat_lit 28, nat_lit 11), (nat_lit 0, nat_lit 29, nat_lit 12), (nat_lit 0, nat_lit 30, nat_lit 13), (nat_lit 0, nat_lit 31, nat_lit 14), (nat_lit 0, nat_lit 32, nat_lit 15), (nat_lit 0, nat_lit 33, nat_lit 16), (nat_lit 0, nat_lit 34, nat_lit 17), (nat_lit 0, nat_lit 35, nat_lit 18), (nat_lit 0, nat_lit 36, nat_lit 19), (nat_lit 0, nat_lit 37, nat_lit 20), (nat_lit 0, nat_lit 38, nat_lit 21), (nat_lit 0, nat_lit 39, nat_lit 22), (nat_lit 0, nat_lit 40, nat_lit 23), (nat_lit 0, nat_lit 47, nat_lit 24), (nat_lit 0, nat_lit 48, nat_lit 25), (nat_lit 0, nat_lit 50, nat_lit 26), (nat_lit 0, nat_lit 51, nat_lit 27), (nat_lit 0, nat_lit 52, nat_lit 28), (nat_lit 0, nat_lit 53, nat_lit 29), (nat_lit 0, nat_lit 54, nat_lit 30), (nat_lit 0, nat_lit 55, nat_lit 31), (nat_lit 0, nat_lit 56, nat_lit 32), (nat_lit 0, nat_lit 57, nat_lit 33), (nat_lit 0, nat_lit 58, nat_lit 34), (nat_lit 0, nat_lit 59, nat_lit 35), (nat_lit 0, nat_lit 72, nat_lit 36), (nat_lit 0, nat_lit 73, nat_lit 37), (nat_lit 0, nat_lit 76, nat_lit 38), (nat_lit 0, nat_lit 77, nat_lit 39), (nat_lit 0, nat_lit 79, nat_lit 40), (nat_lit 0, nat_lit 81, nat_lit 41), (nat_lit 0, nat_lit 82, nat_lit 42)] [] (fun xs η => sP wl_ke zTr zPke_wrong xs η ∧ pPke_wrong xs η) (fun xs η y η' => sQ wl_ke zTr zOke_wrong zMke_wrong xs η y η' ∧ pQke_wrong xs η y η') :=
  zmet_alt (zmea_gen (mi := (nat_lit 1, nat_lit 1, nat_lit 8, nat_lit 2, nat_lit 2, tX8_wrong)) (cd := []) (cu := []) (cs := []) (iv := zVke_wrong) (po := [zOke_wrong]) (pr := zPke_wrong) (mods := zMke_wrong) (D7 := zDke_wrong) (D0 := zEke_wrong) (Dm := zFke_wrong) (f0 := 13) pCke_wrong qCke_wrong iCke_wrong pPke_wrong (fun xs η _ y η' => pQke_wrong xs η y η') zX_low pr_mtR rfl (fun _ h => nomatch h) (by decide +kernel) (by decide +kernel) (by decide +kernel)
    (by
      intro xs η hr hl hp hpp
      match xs, hl, hp, hpp with
      | [x1], _, hp, hpp =>
        refine List.forall_mem_cons.mpr ⟨?_, fun _ h => nomatch h⟩
        · show ∀ η1 : zE, η1 = zup η 0 (Int.toNat 4) x1 → ∀ x2 : Int, x2 = η1 0 (Int.toNat 10) → zok 0 x2 → ∀ η2 : zE, η2 = zup η1 0 (Int.toNat 5) x2 → (fun (_ : Nat) (y : Int) (η' : zE) => pQke_wrong [x1] η y η') 0 0 η2
          intro η1 eη1 x2 e2 r2 η2 eη2
          refine yj_a ?_ ?_
          · have g1 : G_ke η1 := by rw [eη1]; exact zGk_upc gk_ke hpp (by decide +kernel)
            have g2 : G_ke η2 := by rw [eη2]; exact zGk_upc gk_ke g1 (by decide +kernel)
            exact g2
          · have eη1 : η1 = zup η 0 4 x1 := eη1
            have e2 : x2 = η1 0 10 := e2
            clear r2
            have eη2 : η2 = zup η1 0 5 x2 := eη2
            show 0 = 0 ∧ η2 = (yq_wr x1 η)
            subst eη1
            subst e2
            subst eη2
            exact ⟨rfl, rfl⟩
      )
    (fun _ _ _ _ _ _ _ h => nomatch h)
    (fun _ h => nomatch h))
def zPke_isSmall : zPq := ([((.ofNat (nat_lit 0)), (.ofNat (nat_lit 700)))], [])
def zOke_isSmall : zPo := (((.ofNat (nat_lit 0)), (.ofNat (nat_lit 1))), [], [((nat_lit 1, (.ofNat (nat_lit 0))), (nat_lit 0, (.ofNat (nat_lit 699))))])
def zMke_isSmall : List zCe := []
def pPke_isSmall : List Int → zE → Prop := (fun _ η => G_ke η)
def oQke_isSmall : List Int → zE → Int → zE → Prop := fun xs η y η' => G_k η' ∧ η' = η ∧ (¬ y = 0 → xs.getD 0 0 < η 0 6 ∧ 97 ≤ η 1 (Int.toNat (xs.getD 0 0)) ∧ η 1 (Int.toNat (xs.getD 0 0)) ≤ 122) ∧ (y = 0 → ¬ (xs.getD 0 0 < η 0 6 ∧ 97 ≤ η 1 (Int.toNat (xs.getD 0 0)) ∧ η 1 (Int.toNat (xs.getD 0 0)) ≤ 122))
def fQke_isSmall : List Int → zE → Int → zE → Prop := fun xs η y η' => y = (if (xs.getD 0 0) < η 0 6 ∧ 97 ≤ η 1 (Int.toNat (xs.getD 0 0)) ∧ η 1 (Int.toNat (xs.getD 0 0)) ≤ 122 then 1 else 0) ∧ η' = η
def pQke_isSmall : List Int → zE → Int → zE → Prop := fun xs η y η' => oQke_isSmall xs η y η' ∧ fQke_isSmall xs η y η'
def pCke_isSmall : Nat → List Int → zE → Prop := fun c => match c with
  | _ => fun _ _ => True
def qCke_isSmall : Nat → List Int → zE → Int → zE → Prop := fun c => match c with
  | _ => fun _ _ _ _ => True
def iCke_isSmall : List Int → zE → Nat → List Int → zE → Prop := fun xs η0 c => match c with
  | _ => fun _ _ => True
def zVke_isSmall : List zIv := []
def zDke_isSmall : List (List zK) := [[(nat_lit 7, nat_lit 2, [(nat_lit 0, (.ofNat (nat_lit 0)))]), (nat_lit 6, nat_lit 3, [(nat_lit 1, (.ofNat (nat_lit 0))), (nat_lit 2, (.ofNat (nat_lit 0)))]), (nat_lit 4, nat_lit 0, [(nat_lit 0, (.ofNat (nat_lit 0))), (nat_lit 0, (.ofNat (nat_lit 6)))])],
  [(nat_lit 7, nat_lit 0, [(nat_lit 1, (.ofNat (nat_lit 0))), (nat_lit 0, (.ofNat (nat_lit 700)))]), (nat_lit 6, nat_lit 2, [(nat_lit 1, (.ofNat (nat_lit 0))), (nat_lit 2, (.ofNat (nat_lit 0)))]), (nat_lit 4, nat_lit 0, [(nat_lit 0, (.ofNat (nat_lit 0))), (nat_lit 0, (.ofNat (nat_lit 6)))])],
  [(nat_lit 7, nat_lit 2, [(nat_lit 0, (.ofNat (nat_lit 0)))]), (nat_lit 6, nat_lit 2, [(nat_lit 3, (.ofNat (nat_lit 0))), (nat_lit 0, (.ofNat (nat_lit 97)))]), (nat_lit 4, nat_lit 0, [(nat_lit 1, (.ofNat (nat_lit 0))), (nat_lit 1, (.ofNat (nat_lit 0)))]), (nat_lit 6, nat_lit 2, [(nat_lit 1, (.ofNat (nat_lit 0))), (nat_lit 2, (.ofNat (nat_lit 0)))]), (nat_lit 4, nat_lit 0, [(nat_lit 0, (.ofNat (nat_lit 0))), (nat_lit 0, (.ofNat (nat_lit 6)))])],
  [(nat_lit 7, nat_lit 0, [(nat_lit 1, (.ofNat (nat_lit 0))), (nat_lit 0, (.ofNat (nat_lit 700)))]), (nat_lit 6, nat_lit 3, [(nat_lit 3, (.ofNat (nat_lit 0))), (nat_lit 0, (.ofNat (nat_lit 97)))]), (nat_lit 4, nat_lit 0, [(nat_lit 1, (.ofNat (nat_lit 0))), (nat_lit 1, (.ofNat (nat_lit 0)))]), (nat_lit 6, nat_lit 2, [(nat_lit 1, (.ofNat (nat_lit 0))), (nat_lit 2, (.ofNat (nat_lit 0)))]), (nat_lit 4, nat_lit 0, [(nat_lit 0, (.ofNat (nat_lit 0))), (nat_lit 0, (.ofNat (nat_lit 6)))])],
  [(nat_lit 7, nat_lit 2, [(nat_lit 0, (.ofNat (nat_lit 0)))]), (nat_lit 6, nat_lit 4, [(nat_lit 4, (.ofNat (nat_lit 0))), (nat_lit 0, (.ofNat (nat_lit 122)))]), (nat_lit 4, nat_lit 0, [(nat_lit 1, (.ofNat (nat_lit 0))), (nat_lit 1, (.ofNat (nat_lit 0)))]), (nat_lit 6, nat_lit 3, [(nat_lit 3, (.ofNat (nat_lit 0))), (nat_lit 0, (.ofNat (nat_lit 97)))]), (nat_lit 4, nat_lit 0, [(nat_lit 1, (.ofNat (nat_lit 0))), (nat_lit 1, (.ofNat (nat_lit 0)))]), (nat_lit 6, nat_lit 2, [(nat_lit 1, (.ofNat (nat_lit 0))), (nat_lit 2, (.ofNat (nat_lit 0)))]), (nat_lit 4, nat_lit 0, [(nat_lit 0, (.ofNat (nat_lit 0))), (nat_lit 0, (.ofNat (nat_lit 6)))])],
  [(nat_lit 7, nat_lit 2, [(nat_lit 0, (.ofNat (nat_lit 1)))]), (nat_lit 6, nat_lit 5, [(nat_lit 4, (.ofNat (nat_lit 0))), (nat_lit 0, (.ofNat (nat_lit 122)))]), (nat_lit 4, nat_lit 0, [(nat_lit 1, (.ofNat (nat_lit 0))), (nat_lit 1, (.ofNat (nat_lit 0)))]), (nat_lit 6, nat_lit 3, [(nat_lit 3, (.ofNat (nat_lit 0))), (nat_lit 0, (.ofNat (nat_lit 97)))]), (nat_lit 4, nat_lit 0, [(nat_lit 1, (.ofNat (nat_lit 0))), (nat_lit 1, (.ofNat (nat_lit 0)))]), (nat_lit 6, nat_lit 2, [(nat_lit 1, (.ofNat (nat_lit 0))), (nat_lit 2, (.ofNat (nat_lit 0)))]), (nat_lit 4, nat_lit 0, [(nat_lit 0, (.ofNat (nat_lit 0))), (nat_lit 0, (.ofNat (nat_lit 6)))])]]
def zEke_isSmall : List (List zK) := [[(nat_lit 11, nat_lit 0, [(nat_lit 0, (.ofNat (nat_lit 0)))]), (nat_lit 6, nat_lit 3, [(nat_lit 1, (.ofNat (nat_lit 0))), (nat_lit 2, (.ofNat (nat_lit 0)))]), (nat_lit 4, nat_lit 0, [(nat_lit 0, (.ofNat (nat_lit 0))), (nat_lit 0, (.ofNat (nat_lit 6)))])],
  [(nat_lit 11, nat_lit 0, [(nat_lit 0, (.ofNat (nat_lit 0)))]), (nat_lit 6, nat_lit 2, [(nat_lit 3, (.ofNat (nat_lit 0))), (nat_lit 0, (.ofNat (nat_lit 97)))]), (nat_lit 4, nat_lit 0, [(nat_lit 1, (.ofNat (nat_lit 0))), (nat_lit 1, (.ofNat (nat_lit 0)))]), (nat_lit 6, nat_lit 2, [(nat_lit 1, (.ofNat (nat_lit 0))), (nat_lit 2, (.ofNat (nat_lit 0)))]), (nat_lit 4, nat_lit 0, [(nat_lit 0, (.ofNat (nat_lit 0))), (nat_lit 0, (.ofNat (nat_lit 6)))])],
  [(nat_lit 11, nat_lit 0, [(nat_lit 0, (.ofNat (nat_lit 0)))]), (nat_lit 6, nat_lit 4, [(nat_lit 4, (.ofNat (nat_lit 0))), (nat_lit 0, (.ofNat (nat_lit 122)))]), (nat_lit 4, nat_lit 0, [(nat_lit 1, (.ofNat (nat_lit 0))), (nat_lit 1, (.ofNat (nat_lit 0)))]), (nat_lit 6, nat_lit 3, [(nat_lit 3, (.ofNat (nat_lit 0))), (nat_lit 0, (.ofNat (nat_lit 97)))]), (nat_lit 4, nat_lit 0, [(nat_lit 1, (.ofNat (nat_lit 0))), (nat_lit 1, (.ofNat (nat_lit 0)))]), (nat_lit 6, nat_lit 2, [(nat_lit 1, (.ofNat (nat_lit 0))), (nat_lit 2, (.ofNat (nat_lit 0)))]), (nat_lit 4, nat_lit 0, [(nat_lit 0, (.ofNat (nat_lit 0))), (nat_lit 0, (.ofNat (nat_lit 6)))])],
  [(nat_lit 11, nat_lit 0, [(nat_lit 0, (.ofNat (nat_lit 1)))]), (nat_lit 6, nat_lit 5, [(nat_lit 4, (.ofNat (nat_lit 0))), (nat_lit 0, (.ofNat (nat_lit 122)))]), (nat_lit 4, nat_lit 0, [(nat_lit 1, (.ofNat (nat_lit 0))), (nat_lit 1, (.ofNat (nat_lit 0)))]), (nat_lit 6, nat_lit 3, [(nat_lit 3, (.ofNat (nat_lit 0))), (nat_lit 0, (.ofNat (nat_lit 97)))]), (nat_lit 4, nat_lit 0, [(nat_lit 1, (.ofNat (nat_lit 0))), (nat_lit 1, (.ofNat (nat_lit 0)))]), (nat_lit 6, nat_lit 2, [(nat_lit 1, (.ofNat (nat_lit 0))), (nat_lit 2, (.ofNat (nat_lit 0)))]), (nat_lit 4, nat_lit 0, [(nat_lit 0, (.ofNat (nat_lit 0))), (nat_lit 0, (.ofNat (nat_lit 6)))])]]
def zFke_isSmall : List (List zK) := []
set_option maxHeartbeats 8000000 in
theorem zke_isSmall {ro : Nat → List Int32} : zMet pr_P pr_K pr_df ro (sm_X0 1 6) 0 120 tm_ke [(.inr (.inr (.inl (nat_lit 0)))), (.inl (nat_lit 1, (.ofNat (nat_lit 0))))] 2 [(nat_lit 0, nat_lit 0, nat_lit 1), (nat_lit 0, nat_lit 3, nat_lit 2), (nat_lit 0, nat_lit 20, nat_lit 3), (nat_lit 0, nat_lit 21, nat_lit 4), (nat_lit 0, nat_lit 22, nat_lit 5), (nat_lit 0, nat_lit 23, nat_lit 6), (nat_lit 0, nat_lit 24, nat_lit 7), (nat_lit 0, nat_lit 25, nat_lit 8), (nat_lit 0, nat_lit 26, nat_lit 9), (nat_lit 0, nat_lit 27, nat_lit 10), (nat_lit 0, nat_lit 28, nat_lit 11), (nat_lit 0, nat_lit 29, nat_lit 12), (nat_lit 0, nat_lit 30, nat_lit 13), (nat_lit 0, nat_lit 31, nat_lit 14), (nat_lit 0, nat_lit 32, nat_lit 15), (nat_lit 0, nat_lit 33, nat_lit 16), (nat_lit 0, nat_lit 34, nat_lit 17), (nat_lit 0, nat_lit 35, nat_lit 18), (nat_lit 0, nat_lit 36, nat_lit 19), (nat_lit 0, nat_lit 37, nat_lit 20), (nat_lit 0, nat_lit 38, nat_lit 21), (nat_lit 0, nat_lit 39, nat_lit 22), (nat_lit 0, nat_lit 40, nat_lit 23), (nat_lit 0, nat_lit 47, nat_lit 24), (nat_lit 0, nat_lit 48, nat_lit 25), (nat_lit 0, nat_lit 50, nat_lit 26), (nat_lit 0, nat_lit 51, nat_lit 27), (nat_lit 0, nat_lit 52, nat_lit 28), (nat_lit 0, nat_lit 53, nat_lit 29), (nat_lit 0, nat_lit 54, nat_lit 30), (nat_lit 0, nat_lit 55, nat_lit 31), (nat_lit 0, nat_lit 56, nat_lit 32), (nat_lit 0, nat_lit 57, nat_lit 33), (nat_lit 0, nat_lit 58, nat_lit 34), (nat_lit 0, nat_lit 59, nat_lit 35), (nat_lit 0, nat_lit 72, nat_lit 36), (nat_lit 0, nat_lit 73, nat_lit 37), (nat_lit 0, nat_lit 76, nat_lit 38), (nat_lit 0, nat_lit 77, nat_lit 39), (nat_lit 0, nat_lit 79, nat_lit 40), (nat_lit 0, nat_lit 81, nat_lit 41), (nat_lit 0, nat_lit 82, nat_lit 42)] [] (fun xs η => sP wl_ke zTr zPke_isSmall xs η ∧ pPke_isSmall xs η) (fun xs η y η' => sQ wl_ke zTr zOke_isSmall zMke_isSmall xs η y η' ∧ pQke_isSmall xs η y η') :=
  zmet_alt (zmea_gen (mi := (nat_lit 1, nat_lit 1, nat_lit 8, nat_lit 2, nat_lit 2, tX8_isSmall)) (cd := []) (cu := []) (cs := []) (iv := zVke_isSmall) (po := [zOke_isSmall]) (pr := zPke_isSmall) (mods := zMke_isSmall) (D7 := zDke_isSmall) (D0 := zEke_isSmall) (Dm := zFke_isSmall) (f0 := 23) pCke_isSmall qCke_isSmall iCke_isSmall pPke_isSmall (fun xs η _ y η' => pQke_isSmall xs η y η') zX_low pr_mtR rfl (fun _ h => nomatch h) (by decide +kernel) (by decide +kernel) (by decide +kernel)
    (by
      intro xs η hr hl hp hpp
      match xs, hl, hp, hpp with
      | [x1], _, hp, hpp =>
        refine List.forall_mem_cons.mpr ⟨?_, List.forall_mem_cons.mpr ⟨?_, List.forall_mem_cons.mpr ⟨?_, List.forall_mem_cons.mpr ⟨?_, fun _ h => nomatch h⟩⟩⟩⟩
        · show ∀ x2 : Int, x2 = η 0 (Int.toNat 6) → zok 0 x2 → (x2 ≤ x1) → (fun (_ : Nat) (y : Int) (η' : zE) => pQke_isSmall [x1] η y η') 0 0 η
          intro x2 e2 r2 c1
          refine yj_a ?_ ?_
          · have bx1 : (0 : Int) ≤ x1 ∧ x1 ≤ 700 := hp.2.1.1
            have w0_0_6 : (0 : Int) ≤ η 0 6 ∧ η 0 6 ≤ 700 := wf_ok (a := 6) (b := 6) (z := (0, 700)) hp.1 (by decide +kernel) (Nat.le_refl _) (Nat.le_refl _)
            replace e2 : x2 = η 0 6 := e2
            replace r2 : -2147483648 ≤ x2 ∧ x2 ≤ 2147483647 := r2
            refine ⟨hpp, rfl, fun w => ?_, fun w => ?_⟩
            · first
              | exact absurd rfl w
              | exact ⟨show x1 < η 0 6 by omega, show 97 ≤ η 1 (Int.toNat x1) by omega, show η 1 (Int.toNat x1) ≤ 122 by omega⟩
            · first
              | exact absurd w (by decide)
              | (intro h
                 have h1 : x1 < η 0 6 := h.1
                 have h2 : 97 ≤ η 1 (Int.toNat x1) := h.2.1
                 have h3 : η 1 (Int.toNat x1) ≤ 122 := h.2.2
                 omega)
          · have e2 : x2 = η 0 6 := e2
            clear r2
            show 0 = (if x1 < η 0 6 ∧ 97 ≤ η 1 (Int.toNat x1) ∧ η 1 (Int.toNat x1) ≤ 122 then 1 else 0) ∧ η = η
            subst e2
            refine ⟨?_, rfl⟩
            split <;> first | (exfalso; omega) | rfl
        · show ∀ x2 : Int, x2 = η 0 (Int.toNat 6) → zok 0 x2 → (x1 < x2) → ∀ x3 : Int, x3 = η 1 (Int.toNat x1) → zok 0 x3 → (x3 < 97) → (fun (_ : Nat) (y : Int) (η' : zE) => pQke_isSmall [x1] η y η') 0 0 η
          intro x2 e2 r2 c1 x3 e3 r3 c2
          refine yj_a ?_ ?_
          · have bx1 : (0 : Int) ≤ x1 ∧ x1 ≤ 700 := hp.2.1.1
            have w0_0_6 : (0 : Int) ≤ η 0 6 ∧ η 0 6 ≤ 700 := wf_ok (a := 6) (b := 6) (z := (0, 700)) hp.1 (by decide +kernel) (Nat.le_refl _) (Nat.le_refl _)
            replace e2 : x2 = η 0 6 := e2
            replace r2 : -2147483648 ≤ x2 ∧ x2 ≤ 2147483647 := r2
            replace e3 : x3 = η 1 (Int.toNat x1) := e3
            replace r3 : -2147483648 ≤ x3 ∧ x3 ≤ 2147483647 := r3
            refine ⟨hpp, rfl, fun w => ?_, fun w => ?_⟩
            · first
              | exact absurd rfl w
              | exact ⟨show x1 < η 0 6 by omega, show 97 ≤ η 1 (Int.toNat x1) by omega, show η 1 (Int.toNat x1) ≤ 122 by omega⟩
            · first
              | exact absurd w (by decide)
              | (intro h
                 have h1 : x1 < η 0 6 := h.1
                 have h2 : 97 ≤ η 1 (Int.toNat x1) := h.2.1
                 have h3 : η 1 (Int.toNat x1) ≤ 122 := h.2.2
                 omega)
          · have e2 : x2 = η 0 6 := e2
            clear r2
            have e3 : x3 = η 1 (Int.toNat x1) := e3
            clear r3
            show 0 = (if x1 < η 0 6 ∧ 97 ≤ η 1 (Int.toNat x1) ∧ η 1 (Int.toNat x1) ≤ 122 then 1 else 0) ∧ η = η
            subst e2
            subst e3
            refine ⟨?_, rfl⟩
            split <;> first | (exfalso; omega) | rfl
        · show ∀ x2 : Int, x2 = η 0 (Int.toNat 6) → zok 0 x2 → (x1 < x2) → ∀ x3 : Int, x3 = η 1 (Int.toNat x1) → zok 0 x3 → (97 ≤ x3) → ∀ x4 : Int, x4 = η 1 (Int.toNat x1) → zok 0 x4 → (122 < x4) → (fun (_ : Nat) (y : Int) (η' : zE) => pQke_isSmall [x1] η y η') 0 0 η
          intro x2 e2 r2 c1 x3 e3 r3 c2 x4 e4 r4 c3
          refine yj_a ?_ ?_
          · have bx1 : (0 : Int) ≤ x1 ∧ x1 ≤ 700 := hp.2.1.1
            have w0_0_6 : (0 : Int) ≤ η 0 6 ∧ η 0 6 ≤ 700 := wf_ok (a := 6) (b := 6) (z := (0, 700)) hp.1 (by decide +kernel) (Nat.le_refl _) (Nat.le_refl _)
            replace e2 : x2 = η 0 6 := e2
            replace r2 : -2147483648 ≤ x2 ∧ x2 ≤ 2147483647 := r2
            replace e3 : x3 = η 1 (Int.toNat x1) := e3
            replace r3 : -2147483648 ≤ x3 ∧ x3 ≤ 2147483647 := r3
            replace e4 : x4 = η 1 (Int.toNat x1) := e4
            replace r4 : -2147483648 ≤ x4 ∧ x4 ≤ 2147483647 := r4
            refine ⟨hpp, rfl, fun w => ?_, fun w => ?_⟩
            · first
              | exact absurd rfl w
              | exact ⟨show x1 < η 0 6 by omega, show 97 ≤ η 1 (Int.toNat x1) by omega, show η 1 (Int.toNat x1) ≤ 122 by omega⟩
            · first
              | exact absurd w (by decide)
              | (intro h
                 have h1 : x1 < η 0 6 := h.1
                 have h2 : 97 ≤ η 1 (Int.toNat x1) := h.2.1
                 have h3 : η 1 (Int.toNat x1) ≤ 122 := h.2.2
                 omega)
          · have e2 : x2 = η 0 6 := e2
            clear r2
            have e3 : x3 = η 1 (Int.toNat x1) := e3
            clear r3
            have e4 : x4 = η 1 (Int.toNat x1) := e4
            clear r4
            show 0 = (if x1 < η 0 6 ∧ 97 ≤ η 1 (Int.toNat x1) ∧ η 1 (Int.toNat x1) ≤ 122 then 1 else 0) ∧ η = η
            subst e2
            subst e3
            subst e4
            refine ⟨?_, rfl⟩
            split <;> first | (exfalso; omega) | rfl
        · show ∀ x2 : Int, x2 = η 0 (Int.toNat 6) → zok 0 x2 → (x1 < x2) → ∀ x3 : Int, x3 = η 1 (Int.toNat x1) → zok 0 x3 → (97 ≤ x3) → ∀ x4 : Int, x4 = η 1 (Int.toNat x1) → zok 0 x4 → (x4 ≤ 122) → (fun (_ : Nat) (y : Int) (η' : zE) => pQke_isSmall [x1] η y η') 0 1 η
          intro x2 e2 r2 c1 x3 e3 r3 c2 x4 e4 r4 c3
          refine yj_a ?_ ?_
          · have bx1 : (0 : Int) ≤ x1 ∧ x1 ≤ 700 := hp.2.1.1
            have w0_0_6 : (0 : Int) ≤ η 0 6 ∧ η 0 6 ≤ 700 := wf_ok (a := 6) (b := 6) (z := (0, 700)) hp.1 (by decide +kernel) (Nat.le_refl _) (Nat.le_refl _)
            replace e2 : x2 = η 0 6 := e2
            replace r2 : -2147483648 ≤ x2 ∧ x2 ≤ 2147483647 := r2
            replace e3 : x3 = η 1 (Int.toNat x1) := e3
            replace r3 : -2147483648 ≤ x3 ∧ x3 ≤ 2147483647 := r3
            replace e4 : x4 = η 1 (Int.toNat x1) := e4
            replace r4 : -2147483648 ≤ x4 ∧ x4 ≤ 2147483647 := r4
            refine ⟨hpp, rfl, fun w => ?_, fun w => ?_⟩
            · first
              | exact absurd rfl w
              | exact ⟨show x1 < η 0 6 by omega, show 97 ≤ η 1 (Int.toNat x1) by omega, show η 1 (Int.toNat x1) ≤ 122 by omega⟩
            · first
              | exact absurd w (by decide)
              | (intro h
                 have h1 : x1 < η 0 6 := h.1
                 have h2 : 97 ≤ η 1 (Int.toNat x1) := h.2.1
                 have h3 : η 1 (Int.toNat x1) ≤ 122 := h.2.2
                 omega)
          · have e2 : x2 = η 0 6 := e2
            clear r2
            have e3 : x3 = η 1 (Int.toNat x1) := e3
            clear r3
            have e4 : x4 = η 1 (Int.toNat x1) := e4
            clear r4
            show 1 = (if x1 < η 0 6 ∧ 97 ≤ η 1 (Int.toNat x1) ∧ η 1 (Int.toNat x1) ≤ 122 then 1 else 0) ∧ η = η
            subst e2
            subst e3
            subst e4
            refine ⟨?_, rfl⟩
            split <;> first | (exfalso; omega) | rfl
      )
    (fun _ _ _ _ _ _ _ h => nomatch h)
    (fun _ h => nomatch h))
def zPke_isDigit : zPq := ([((.ofNat (nat_lit 0)), (.ofNat (nat_lit 700)))], [])
def zOke_isDigit : zPo := (((.ofNat (nat_lit 0)), (.ofNat (nat_lit 1))), [], [((nat_lit 1, (.ofNat (nat_lit 0))), (nat_lit 0, (.ofNat (nat_lit 699))))])
def zMke_isDigit : List zCe := []
def pPke_isDigit : List Int → zE → Prop := (fun _ η => G_ke η)
def oQke_isDigit : List Int → zE → Int → zE → Prop := fun xs η y η' => G_k η' ∧ η' = η ∧ (¬ y = 0 → xs.getD 0 0 < η 0 6 ∧ 48 ≤ η 1 (Int.toNat (xs.getD 0 0)) ∧ η 1 (Int.toNat (xs.getD 0 0)) ≤ 57) ∧ (y = 0 → ¬ (xs.getD 0 0 < η 0 6 ∧ 48 ≤ η 1 (Int.toNat (xs.getD 0 0)) ∧ η 1 (Int.toNat (xs.getD 0 0)) ≤ 57))
def fQke_isDigit : List Int → zE → Int → zE → Prop := fun xs η y η' => y = (if (xs.getD 0 0) < η 0 6 ∧ 48 ≤ η 1 (Int.toNat (xs.getD 0 0)) ∧ η 1 (Int.toNat (xs.getD 0 0)) ≤ 57 then 1 else 0) ∧ η' = η
def pQke_isDigit : List Int → zE → Int → zE → Prop := fun xs η y η' => oQke_isDigit xs η y η' ∧ fQke_isDigit xs η y η'
def pCke_isDigit : Nat → List Int → zE → Prop := fun c => match c with
  | _ => fun _ _ => True
def qCke_isDigit : Nat → List Int → zE → Int → zE → Prop := fun c => match c with
  | _ => fun _ _ _ _ => True
def iCke_isDigit : List Int → zE → Nat → List Int → zE → Prop := fun xs η0 c => match c with
  | _ => fun _ _ => True
def zVke_isDigit : List zIv := []
def zDke_isDigit : List (List zK) := [[(nat_lit 7, nat_lit 2, [(nat_lit 0, (.ofNat (nat_lit 0)))]), (nat_lit 6, nat_lit 3, [(nat_lit 1, (.ofNat (nat_lit 0))), (nat_lit 2, (.ofNat (nat_lit 0)))]), (nat_lit 4, nat_lit 0, [(nat_lit 0, (.ofNat (nat_lit 0))), (nat_lit 0, (.ofNat (nat_lit 6)))])],
  [(nat_lit 7, nat_lit 0, [(nat_lit 1, (.ofNat (nat_lit 0))), (nat_lit 0, (.ofNat (nat_lit 700)))]), (nat_lit 6, nat_lit 2, [(nat_lit 1, (.ofNat (nat_lit 0))), (nat_lit 2, (.ofNat (nat_lit 0)))]), (nat_lit 4, nat_lit 0, [(nat_lit 0, (.ofNat (nat_lit 0))), (nat_lit 0, (.ofNat (nat_lit 6)))])],
  [(nat_lit 7, nat_lit 2, [(nat_lit 0, (.ofNat (nat_lit 0)))]), (nat_lit 6, nat_lit 2, [(nat_lit 3, (.ofNat (nat_lit 0))), (nat_lit 0, (.ofNat (nat_lit 48)))]), (nat_lit 4, nat_lit 0, [(nat_lit 1, (.ofNat (nat_lit 0))), (nat_lit 1, (.ofNat (nat_lit 0)))]), (nat_lit 6, nat_lit 2, [(nat_lit 1, (.ofNat (nat_lit 0))), (nat_lit 2, (.ofNat (nat_lit 0)))]), (nat_lit 4, nat_lit 0, [(nat_lit 0, (.ofNat (nat_lit 0))), (nat_lit 0, (.ofNat (nat_lit 6)))])],
  [(nat_lit 7, nat_lit 0, [(nat_lit 1, (.ofNat (nat_lit 0))), (nat_lit 0, (.ofNat (nat_lit 700)))]), (nat_lit 6, nat_lit 3, [(nat_lit 3, (.ofNat (nat_lit 0))), (nat_lit 0, (.ofNat (nat_lit 48)))]), (nat_lit 4, nat_lit 0, [(nat_lit 1, (.ofNat (nat_lit 0))), (nat_lit 1, (.ofNat (nat_lit 0)))]), (nat_lit 6, nat_lit 2, [(nat_lit 1, (.ofNat (nat_lit 0))), (nat_lit 2, (.ofNat (nat_lit 0)))]), (nat_lit 4, nat_lit 0, [(nat_lit 0, (.ofNat (nat_lit 0))), (nat_lit 0, (.ofNat (nat_lit 6)))])],
  [(nat_lit 7, nat_lit 2, [(nat_lit 0, (.ofNat (nat_lit 0)))]), (nat_lit 6, nat_lit 4, [(nat_lit 4, (.ofNat (nat_lit 0))), (nat_lit 0, (.ofNat (nat_lit 57)))]), (nat_lit 4, nat_lit 0, [(nat_lit 1, (.ofNat (nat_lit 0))), (nat_lit 1, (.ofNat (nat_lit 0)))]), (nat_lit 6, nat_lit 3, [(nat_lit 3, (.ofNat (nat_lit 0))), (nat_lit 0, (.ofNat (nat_lit 48)))]), (nat_lit 4, nat_lit 0, [(nat_lit 1, (.ofNat (nat_lit 0))), (nat_lit 1, (.ofNat (nat_lit 0)))]), (nat_lit 6, nat_lit 2, [(nat_lit 1, (.ofNat (nat_lit 0))), (nat_lit 2, (.ofNat (nat_lit 0)))]), (nat_lit 4, nat_lit 0, [(nat_lit 0, (.ofNat (nat_lit 0))), (nat_lit 0, (.ofNat (nat_lit 6)))])],
  [(nat_lit 7, nat_lit 2, [(nat_lit 0, (.ofNat (nat_lit 1)))]), (nat_lit 6, nat_lit 5, [(nat_lit 4, (.ofNat (nat_lit 0))), (nat_lit 0, (.ofNat (nat_lit 57)))]), (nat_lit 4, nat_lit 0, [(nat_lit 1, (.ofNat (nat_lit 0))), (nat_lit 1, (.ofNat (nat_lit 0)))]), (nat_lit 6, nat_lit 3, [(nat_lit 3, (.ofNat (nat_lit 0))), (nat_lit 0, (.ofNat (nat_lit 48)))]), (nat_lit 4, nat_lit 0, [(nat_lit 1, (.ofNat (nat_lit 0))), (nat_lit 1, (.ofNat (nat_lit 0)))]), (nat_lit 6, nat_lit 2, [(nat_lit 1, (.ofNat (nat_lit 0))), (nat_lit 2, (.ofNat (nat_lit 0)))]), (nat_lit 4, nat_lit 0, [(nat_lit 0, (.ofNat (nat_lit 0))), (nat_lit 0, (.ofNat (nat_lit 6)))])]]
def zEke_isDigit : List (List zK) := [[(nat_lit 11, nat_lit 0, [(nat_lit 0, (.ofNat (nat_lit 0)))]), (nat_lit 6, nat_lit 3, [(nat_lit 1, (.ofNat (nat_lit 0))), (nat_lit 2, (.ofNat (nat_lit 0)))]), (nat_lit 4, nat_lit 0, [(nat_lit 0, (.ofNat (nat_lit 0))), (nat_lit 0, (.ofNat (nat_lit 6)))])],
  [(nat_lit 11, nat_lit 0, [(nat_lit 0, (.ofNat (nat_lit 0)))]), (nat_lit 6, nat_lit 2, [(nat_lit 3, (.ofNat (nat_lit 0))), (nat_lit 0, (.ofNat (nat_lit 48)))]), (nat_lit 4, nat_lit 0, [(nat_lit 1, (.ofNat (nat_lit 0))), (nat_lit 1, (.ofNat (nat_lit 0)))]), (nat_lit 6, nat_lit 2, [(nat_lit 1, (.ofNat (nat_lit 0))), (nat_lit 2, (.ofNat (nat_lit 0)))]), (nat_lit 4, nat_lit 0, [(nat_lit 0, (.ofNat (nat_lit 0))), (nat_lit 0, (.ofNat (nat_lit 6)))])],
  [(nat_lit 11, nat_lit 0, [(nat_lit 0, (.ofNat (nat_lit 0)))]), (nat_lit 6, nat_lit 4, [(nat_lit 4, (.ofNat (nat_lit 0))), (nat_lit 0, (.ofNat (nat_lit 57)))]), (nat_lit 4, nat_lit 0, [(nat_lit 1, (.ofNat (nat_lit 0))), (nat_lit 1, (.ofNat (nat_lit 0)))]), (nat_lit 6, nat_lit 3, [(nat_lit 3, (.ofNat (nat_lit 0))), (nat_lit 0, (.ofNat (nat_lit 48)))]), (nat_lit 4, nat_lit 0, [(nat_lit 1, (.ofNat (nat_lit 0))), (nat_lit 1, (.ofNat (nat_lit 0)))]), (nat_lit 6, nat_lit 2, [(nat_lit 1, (.ofNat (nat_lit 0))), (nat_lit 2, (.ofNat (nat_lit 0)))]), (nat_lit 4, nat_lit 0, [(nat_lit 0, (.ofNat (nat_lit 0))), (nat_lit 0, (.ofNat (nat_lit 6)))])],
  [(nat_lit 11, nat_lit 0, [(nat_lit 0, (.ofNat (nat_lit 1)))]), (nat_lit 6, nat_lit 5, [(nat_lit 4, (.ofNat (nat_lit 0))), (nat_lit 0, (.ofNat (nat_lit 57)))]), (nat_lit 4, nat_lit 0, [(nat_lit 1, (.ofNat (nat_lit 0))), (nat_lit 1, (.ofNat (nat_lit 0)))]), (nat_lit 6, nat_lit 3, [(nat_lit 3, (.ofNat (nat_lit 0))), (nat_lit 0, (.ofNat (nat_lit 48)))]), (nat_lit 4, nat_lit 0, [(nat_lit 1, (.ofNat (nat_lit 0))), (nat_lit 1, (.ofNat (nat_lit 0)))]), (nat_lit 6, nat_lit 2, [(nat_lit 1, (.ofNat (nat_lit 0))), (nat_lit 2, (.ofNat (nat_lit 0)))]), (nat_lit 4, nat_lit 0, [(nat_lit 0, (.ofNat (nat_lit 0))), (nat_lit 0, (.ofNat (nat_lit 6)))])]]
def zFke_isDigit : List (List zK) := []
set_option maxHeartbeats 8000000 in
theorem zke_isDigit {ro : Nat → List Int32} : zMet pr_P pr_K pr_df ro (sm_X0 1 6) 0 121 tm_ke [(.inr (.inr (.inl (nat_lit 0)))), (.inl (nat_lit 1, (.ofNat (nat_lit 0))))] 2 [(nat_lit 0, nat_lit 0, nat_lit 1), (nat_lit 0, nat_lit 3, nat_lit 2), (nat_lit 0, nat_lit 20, nat_lit 3), (nat_lit 0, nat_lit 21, nat_lit 4), (nat_lit 0, nat_lit 22, nat_lit 5), (nat_lit 0, nat_lit 23, nat_lit 6), (nat_lit 0, nat_lit 24, nat_lit 7), (nat_lit 0, nat_lit 25, nat_lit 8), (nat_lit 0, nat_lit 26, nat_lit 9), (nat_lit 0, nat_lit 27, nat_lit 10), (nat_lit 0, nat_lit 28, nat_lit 11), (nat_lit 0, nat_lit 29, nat_lit 12), (nat_lit 0, nat_lit 30, nat_lit 13), (nat_lit 0, nat_lit 31, nat_lit 14), (nat_lit 0, nat_lit 32, nat_lit 15), (nat_lit 0, nat_lit 33, nat_lit 16), (nat_lit 0, nat_lit 34, nat_lit 17), (nat_lit 0, nat_lit 35, nat_lit 18), (nat_lit 0, nat_lit 36, nat_lit 19), (nat_lit 0, nat_lit 37, nat_lit 20), (nat_lit 0, nat_lit 38, nat_lit 21), (nat_lit 0, nat_lit 39, nat_lit 22), (nat_lit 0, nat_lit 40, nat_lit 23), (nat_lit 0, nat_lit 47, nat_lit 24), (nat_lit 0, nat_lit 48, nat_lit 25), (nat_lit 0, nat_lit 50, nat_lit 26), (nat_lit 0, nat_lit 51, nat_lit 27), (nat_lit 0, nat_lit 52, nat_lit 28), (nat_lit 0, nat_lit 53, nat_lit 29), (nat_lit 0, nat_lit 54, nat_lit 30), (nat_lit 0, nat_lit 55, nat_lit 31), (nat_lit 0, nat_lit 56, nat_lit 32), (nat_lit 0, nat_lit 57, nat_lit 33), (nat_lit 0, nat_lit 58, nat_lit 34), (nat_lit 0, nat_lit 59, nat_lit 35), (nat_lit 0, nat_lit 72, nat_lit 36), (nat_lit 0, nat_lit 73, nat_lit 37), (nat_lit 0, nat_lit 76, nat_lit 38), (nat_lit 0, nat_lit 77, nat_lit 39), (nat_lit 0, nat_lit 79, nat_lit 40), (nat_lit 0, nat_lit 81, nat_lit 41), (nat_lit 0, nat_lit 82, nat_lit 42)] [] (fun xs η => sP wl_ke zTr zPke_isDigit xs η ∧ pPke_isDigit xs η) (fun xs η y η' => sQ wl_ke zTr zOke_isDigit zMke_isDigit xs η y η' ∧ pQke_isDigit xs η y η') :=
  zmet_alt (zmea_gen (mi := (nat_lit 1, nat_lit 1, nat_lit 8, nat_lit 2, nat_lit 2, tX8_isDigit)) (cd := []) (cu := []) (cs := []) (iv := zVke_isDigit) (po := [zOke_isDigit]) (pr := zPke_isDigit) (mods := zMke_isDigit) (D7 := zDke_isDigit) (D0 := zEke_isDigit) (Dm := zFke_isDigit) (f0 := 23) pCke_isDigit qCke_isDigit iCke_isDigit pPke_isDigit (fun xs η _ y η' => pQke_isDigit xs η y η') zX_low pr_mtR rfl (fun _ h => nomatch h) (by decide +kernel) (by decide +kernel) (by decide +kernel)
    (by
      intro xs η hr hl hp hpp
      match xs, hl, hp, hpp with
      | [x1], _, hp, hpp =>
        refine List.forall_mem_cons.mpr ⟨?_, List.forall_mem_cons.mpr ⟨?_, List.forall_mem_cons.mpr ⟨?_, List.forall_mem_cons.mpr ⟨?_, fun _ h => nomatch h⟩⟩⟩⟩
        · show ∀ x2 : Int, x2 = η 0 (Int.toNat 6) → zok 0 x2 → (x2 ≤ x1) → (fun (_ : Nat) (y : Int) (η' : zE) => pQke_isDigit [x1] η y η') 0 0 η
          intro x2 e2 r2 c1
          refine yj_a ?_ ?_
          · have bx1 : (0 : Int) ≤ x1 ∧ x1 ≤ 700 := hp.2.1.1
            have w0_0_6 : (0 : Int) ≤ η 0 6 ∧ η 0 6 ≤ 700 := wf_ok (a := 6) (b := 6) (z := (0, 700)) hp.1 (by decide +kernel) (Nat.le_refl _) (Nat.le_refl _)
            replace e2 : x2 = η 0 6 := e2
            replace r2 : -2147483648 ≤ x2 ∧ x2 ≤ 2147483647 := r2
            refine ⟨hpp, rfl, fun w => ?_, fun w => ?_⟩
            · first
              | exact absurd rfl w
              | exact ⟨show x1 < η 0 6 by omega, show 48 ≤ η 1 (Int.toNat x1) by omega, show η 1 (Int.toNat x1) ≤ 57 by omega⟩
            · first
              | exact absurd w (by decide)
              | (intro h
                 have h1 : x1 < η 0 6 := h.1
                 have h2 : 48 ≤ η 1 (Int.toNat x1) := h.2.1
                 have h3 : η 1 (Int.toNat x1) ≤ 57 := h.2.2
                 omega)
          · have e2 : x2 = η 0 6 := e2
            clear r2
            show 0 = (if x1 < η 0 6 ∧ 48 ≤ η 1 (Int.toNat x1) ∧ η 1 (Int.toNat x1) ≤ 57 then 1 else 0) ∧ η = η
            subst e2
            refine ⟨?_, rfl⟩
            split <;> first | (exfalso; omega) | rfl
        · show ∀ x2 : Int, x2 = η 0 (Int.toNat 6) → zok 0 x2 → (x1 < x2) → ∀ x3 : Int, x3 = η 1 (Int.toNat x1) → zok 0 x3 → (x3 < 48) → (fun (_ : Nat) (y : Int) (η' : zE) => pQke_isDigit [x1] η y η') 0 0 η
          intro x2 e2 r2 c1 x3 e3 r3 c2
          refine yj_a ?_ ?_
          · have bx1 : (0 : Int) ≤ x1 ∧ x1 ≤ 700 := hp.2.1.1
            have w0_0_6 : (0 : Int) ≤ η 0 6 ∧ η 0 6 ≤ 700 := wf_ok (a := 6) (b := 6) (z := (0, 700)) hp.1 (by decide +kernel) (Nat.le_refl _) (Nat.le_refl _)
            replace e2 : x2 = η 0 6 := e2
            replace r2 : -2147483648 ≤ x2 ∧ x2 ≤ 2147483647 := r2
            replace e3 : x3 = η 1 (Int.toNat x1) := e3
            replace r3 : -2147483648 ≤ x3 ∧ x3 ≤ 2147483647 := r3
            refine ⟨hpp, rfl, fun w => ?_, fun w => ?_⟩
            · first
              | exact absurd rfl w
              | exact ⟨show x1 < η 0 6 by omega, show 48 ≤ η 1 (Int.toNat x1) by omega, show η 1 (Int.toNat x1) ≤ 57 by omega⟩
            · first
              | exact absurd w (by decide)
              | (intro h
                 have h1 : x1 < η 0 6 := h.1
                 have h2 : 48 ≤ η 1 (Int.toNat x1) := h.2.1
                 have h3 : η 1 (Int.toNat x1) ≤ 57 := h.2.2
                 omega)
          · have e2 : x2 = η 0 6 := e2
            clear r2
            have e3 : x3 = η 1 (Int.toNat x1) := e3
            clear r3
            show 0 = (if x1 < η 0 6 ∧ 48 ≤ η 1 (Int.toNat x1) ∧ η 1 (Int.toNat x1) ≤ 57 then 1 else 0) ∧ η = η
            subst e2
            subst e3
            refine ⟨?_, rfl⟩
            split <;> first | (exfalso; omega) | rfl
        · show ∀ x2 : Int, x2 = η 0 (Int.toNat 6) → zok 0 x2 → (x1 < x2) → ∀ x3 : Int, x3 = η 1 (Int.toNat x1) → zok 0 x3 → (48 ≤ x3) → ∀ x4 : Int, x4 = η 1 (Int.toNat x1) → zok 0 x4 → (57 < x4) → (fun (_ : Nat) (y : Int) (η' : zE) => pQke_isDigit [x1] η y η') 0 0 η
          intro x2 e2 r2 c1 x3 e3 r3 c2 x4 e4 r4 c3
          refine yj_a ?_ ?_
          · have bx1 : (0 : Int) ≤ x1 ∧ x1 ≤ 700 := hp.2.1.1
            have w0_0_6 : (0 : Int) ≤ η 0 6 ∧ η 0 6 ≤ 700 := wf_ok (a := 6) (b := 6) (z := (0, 700)) hp.1 (by decide +kernel) (Nat.le_refl _) (Nat.le_refl _)
            replace e2 : x2 = η 0 6 := e2
            replace r2 : -2147483648 ≤ x2 ∧ x2 ≤ 2147483647 := r2
            replace e3 : x3 = η 1 (Int.toNat x1) := e3
            replace r3 : -2147483648 ≤ x3 ∧ x3 ≤ 2147483647 := r3
            replace e4 : x4 = η 1 (Int.toNat x1) := e4
            replace r4 : -2147483648 ≤ x4 ∧ x4 ≤ 2147483647 := r4
            refine ⟨hpp, rfl, fun w => ?_, fun w => ?_⟩
            · first
              | exact absurd rfl w
              | exact ⟨show x1 < η 0 6 by omega, show 48 ≤ η 1 (Int.toNat x1) by omega, show η 1 (Int.toNat x1) ≤ 57 by omega⟩
            · first
              | exact absurd w (by decide)
              | (intro h
                 have h1 : x1 < η 0 6 := h.1
                 have h2 : 48 ≤ η 1 (Int.toNat x1) := h.2.1
                 have h3 : η 1 (Int.toNat x1) ≤ 57 := h.2.2
                 omega)
          · have e2 : x2 = η 0 6 := e2
            clear r2
            have e3 : x3 = η 1 (Int.toNat x1) := e3
            clear r3
            have e4 : x4 = η 1 (Int.toNat x1) := e4
            clear r4
            show 0 = (if x1 < η 0 6 ∧ 48 ≤ η 1 (Int.toNat x1) ∧ η 1 (Int.toNat x1) ≤ 57 then 1 else 0) ∧ η = η
            subst e2
            subst e3
            subst e4
            refine ⟨?_, rfl⟩
            split <;> first | (exfalso; omega) | rfl
        · show ∀ x2 : Int, x2 = η 0 (Int.toNat 6) → zok 0 x2 → (x1 < x2) → ∀ x3 : Int, x3 = η 1 (Int.toNat x1) → zok 0 x3 → (48 ≤ x3) → ∀ x4 : Int, x4 = η 1 (Int.toNat x1) → zok 0 x4 → (x4 ≤ 57) → (fun (_ : Nat) (y : Int) (η' : zE) => pQke_isDigit [x1] η y η') 0 1 η
          intro x2 e2 r2 c1 x3 e3 r3 c2 x4 e4 r4 c3
          refine yj_a ?_ ?_
          · have bx1 : (0 : Int) ≤ x1 ∧ x1 ≤ 700 := hp.2.1.1
            have w0_0_6 : (0 : Int) ≤ η 0 6 ∧ η 0 6 ≤ 700 := wf_ok (a := 6) (b := 6) (z := (0, 700)) hp.1 (by decide +kernel) (Nat.le_refl _) (Nat.le_refl _)
            replace e2 : x2 = η 0 6 := e2
            replace r2 : -2147483648 ≤ x2 ∧ x2 ≤ 2147483647 := r2
            replace e3 : x3 = η 1 (Int.toNat x1) := e3
            replace r3 : -2147483648 ≤ x3 ∧ x3 ≤ 2147483647 := r3
            replace e4 : x4 = η 1 (Int.toNat x1) := e4
            replace r4 : -2147483648 ≤ x4 ∧ x4 ≤ 2147483647 := r4
            refine ⟨hpp, rfl, fun w => ?_, fun w => ?_⟩
            · first
              | exact absurd rfl w
              | exact ⟨show x1 < η 0 6 by omega, show 48 ≤ η 1 (Int.toNat x1) by omega, show η 1 (Int.toNat x1) ≤ 57 by omega⟩
            · first
              | exact absurd w (by decide)
              | (intro h
                 have h1 : x1 < η 0 6 := h.1
                 have h2 : 48 ≤ η 1 (Int.toNat x1) := h.2.1
                 have h3 : η 1 (Int.toNat x1) ≤ 57 := h.2.2
                 omega)
          · have e2 : x2 = η 0 6 := e2
            clear r2
            have e3 : x3 = η 1 (Int.toNat x1) := e3
            clear r3
            have e4 : x4 = η 1 (Int.toNat x1) := e4
            clear r4
            show 1 = (if x1 < η 0 6 ∧ 48 ≤ η 1 (Int.toNat x1) ∧ η 1 (Int.toNat x1) ≤ 57 then 1 else 0) ∧ η = η
            subst e2
            subst e3
            subst e4
            refine ⟨?_, rfl⟩
            split <;> first | (exfalso; omega) | rfl
      )
    (fun _ _ _ _ _ _ _ h => nomatch h)
    (fun _ h => nomatch h))
def zPke_packed : zPq := ([((.ofNat (nat_lit 0)), (.ofNat (nat_lit 700))), ((.ofNat (nat_lit 0)), (.ofNat (nat_lit 700)))], [])
def zOke_packed : zPo := (((.negSucc (nat_lit 2147483647)), (.ofNat (nat_lit 2147483647))), [], [])
def zMke_packed : List zCe := []
def pPke_packed : List Int → zE → Prop := (fun _ η => G_ke η)
def oQke_packed : List Int → zE → Int → zE → Prop := (fun _ _ _ η' => G_ke η')
def fQke_packed : List Int → zE → Int → zE → Prop := fun xs η y η' => yq_let (η 1) (Int.toNat (xs.getD 0 0)) (Int.toNat ((xs.getD 1 0) - (xs.getD 0 0))) → y = yq_pk (η 1) (Int.toNat (xs.getD 0 0)) (Int.toNat ((xs.getD 1 0) - (xs.getD 0 0))) 6 ∧ η' = η
def pQke_packed : List Int → zE → Int → zE → Prop := fun xs η y η' => oQke_packed xs η y η' ∧ fQke_packed xs η y η'
def pCke_packed : Nat → List Int → zE → Prop := fun c => match c with
  | _ => fun _ _ => True
def qCke_packed : Nat → List Int → zE → Int → zE → Prop := fun c => match c with
  | _ => fun _ _ _ _ => True
def iCke_packed : List Int → zE → Nat → List Int → zE → Prop := fun xs η0 c => match c with
  | 0 => fun ys η => (G_ke η) ∧ (yq_pI (xs.getD 0 0) (xs.getD 1 0) η0 (ys.getD 0 0) (ys.getD 1 0) (ys.getD 2 0) (ys.getD 3 0) η)
  | _ => fun _ _ => True
def zVke_packed : List zIv := [(nat_lit 0, ([((.ofNat (nat_lit 0)), (.ofNat (nat_lit 700))), ((.ofNat (nat_lit 0)), (.ofNat (nat_lit 700))), ((.negSucc (nat_lit 2147483647)), (.ofNat (nat_lit 2147483647))), ((.ofNat (nat_lit 0)), (.ofNat (nat_lit 710)))], []), ((.ofNat (nat_lit 710)), [((.negSucc (nat_lit 0)), nat_lit 0, nat_lit 3, nat_lit 0)]))]
def zUke_packed : List zCu := [(nat_lit 5, nat_lit 0, [(nat_lit 0, (.inr (.inr (.inl (nat_lit 0))))), (nat_lit 1, (.inl (nat_lit 1, (.ofNat (nat_lit 0))))), (nat_lit 2, (.inl (nat_lit 2, (.ofNat (nat_lit 0))))), (nat_lit 3, (.inl (nat_lit 3, (.ofNat (nat_lit 0))))), (nat_lit 4, (.inl (nat_lit 4, (.ofNat (nat_lit 0)))))], [])]
def zDke_packed : List (List zK) := []
def zEke_packed : List (List zK) := [[(nat_lit 12, nat_lit 0, [(nat_lit 1, (.ofNat (nat_lit 0))), (nat_lit 2, (.ofNat (nat_lit 0))), (nat_lit 0, (.ofNat (nat_lit 0))), (nat_lit 1, (.ofNat (nat_lit 0)))])]]
def zFke_packed : List (List zK) := []
def zDke_packed_0 : List (List zK) := [[(nat_lit 7, nat_lit 0, [(nat_lit 4, (.ofNat (nat_lit 0))), (nat_lit 0, (.ofNat (nat_lit 700)))]), (nat_lit 6, nat_lit 2, [(nat_lit 4, (.ofNat (nat_lit 0))), (nat_lit 2, (.ofNat (nat_lit 0)))]), (nat_lit 0, nat_lit 6, [(nat_lit 3, (.ofNat (nat_lit 0))), (nat_lit 0, (.ofNat (nat_lit 5)))]), (nat_lit 6, nat_lit 2, [(nat_lit 4, (.ofNat (nat_lit 0))), (nat_lit 5, (.ofNat (nat_lit 0)))]), (nat_lit 0, nat_lit 1, [(nat_lit 1, (.ofNat (nat_lit 0))), (nat_lit 0, (.ofNat (nat_lit 6)))])]]
def zEke_packed_0 : List (List zK) := [[(nat_lit 11, nat_lit 0, [(nat_lit 3, (.ofNat (nat_lit 0)))]), (nat_lit 6, nat_lit 3, [(nat_lit 4, (.ofNat (nat_lit 0))), (nat_lit 5, (.ofNat (nat_lit 0)))]), (nat_lit 0, nat_lit 1, [(nat_lit 1, (.ofNat (nat_lit 0))), (nat_lit 0, (.ofNat (nat_lit 6)))])],
  [(nat_lit 10, nat_lit 0, [(nat_lit 1, (.ofNat (nat_lit 0))), (nat_lit 2, (.ofNat (nat_lit 0))), (nat_lit 7, (.ofNat (nat_lit 0))), (nat_lit 8, (.ofNat (nat_lit 0)))]), (nat_lit 0, nat_lit 1, [(nat_lit 4, (.ofNat (nat_lit 0))), (nat_lit 0, (.ofNat (nat_lit 1)))]), (nat_lit 0, nat_lit 5, [(nat_lit 6, (.ofNat (nat_lit 0))), (nat_lit 0, (.ofNat (nat_lit 0)))]), (nat_lit 6, nat_lit 3, [(nat_lit 4, (.ofNat (nat_lit 0))), (nat_lit 2, (.ofNat (nat_lit 0)))]), (nat_lit 0, nat_lit 6, [(nat_lit 3, (.ofNat (nat_lit 0))), (nat_lit 0, (.ofNat (nat_lit 5)))]), (nat_lit 6, nat_lit 2, [(nat_lit 4, (.ofNat (nat_lit 0))), (nat_lit 5, (.ofNat (nat_lit 0)))]), (nat_lit 0, nat_lit 1, [(nat_lit 1, (.ofNat (nat_lit 0))), (nat_lit 0, (.ofNat (nat_lit 6)))])],
  [(nat_lit 10, nat_lit 0, [(nat_lit 1, (.ofNat (nat_lit 0))), (nat_lit 2, (.ofNat (nat_lit 0))), (nat_lit 9, (.ofNat (nat_lit 0))), (nat_lit 10, (.ofNat (nat_lit 0)))]), (nat_lit 0, nat_lit 1, [(nat_lit 4, (.ofNat (nat_lit 0))), (nat_lit 0, (.ofNat (nat_lit 1)))]), (nat_lit 0, nat_lit 5, [(nat_lit 6, (.ofNat (nat_lit 0))), (nat_lit 8, (.ofNat (nat_lit 0)))]), (nat_lit 0, nat_lit 2, [(nat_lit 7, (.ofNat (nat_lit 0))), (nat_lit 0, (.ofNat (nat_lit 96)))]), (nat_lit 4, nat_lit 0, [(nat_lit 1, (.ofNat (nat_lit 0))), (nat_lit 4, (.ofNat (nat_lit 0)))]), (nat_lit 6, nat_lit 2, [(nat_lit 4, (.ofNat (nat_lit 0))), (nat_lit 2, (.ofNat (nat_lit 0)))]), (nat_lit 0, nat_lit 6, [(nat_lit 3, (.ofNat (nat_lit 0))), (nat_lit 0, (.ofNat (nat_lit 5)))]), (nat_lit 6, nat_lit 2, [(nat_lit 4, (.ofNat (nat_lit 0))), (nat_lit 5, (.ofNat (nat_lit 0)))]), (nat_lit 0, nat_lit 1, [(nat_lit 1, (.ofNat (nat_lit 0))), (nat_lit 0, (.ofNat (nat_lit 6)))])]]
def zFke_packed_0 : List (List zK) := []
set_option maxHeartbeats 8000000 in
theorem zke_packed {ro : Nat → List Int32} : zMet pr_P pr_K pr_df ro (sm_X0 1 6) 0 124 tm_ke [(.inr (.inr (.inl (nat_lit 0)))), (.inl (nat_lit 1, (.ofNat (nat_lit 0)))), (.inl (nat_lit 2, (.ofNat (nat_lit 0))))] 1 [(nat_lit 0, nat_lit 0, nat_lit 1), (nat_lit 0, nat_lit 3, nat_lit 2), (nat_lit 0, nat_lit 20, nat_lit 3), (nat_lit 0, nat_lit 21, nat_lit 4), (nat_lit 0, nat_lit 22, nat_lit 5), (nat_lit 0, nat_lit 23, nat_lit 6), (nat_lit 0, nat_lit 24, nat_lit 7), (nat_lit 0, nat_lit 25, nat_lit 8), (nat_lit 0, nat_lit 26, nat_lit 9), (nat_lit 0, nat_lit 27, nat_lit 10), (nat_lit 0, nat_lit 28, nat_lit 11), (nat_lit 0, nat_lit 29, nat_lit 12), (nat_lit 0, nat_lit 30, nat_lit 13), (nat_lit 0, nat_lit 31, nat_lit 14), (nat_lit 0, nat_lit 32, nat_lit 15), (nat_lit 0, nat_lit 33, nat_lit 16), (nat_lit 0, nat_lit 34, nat_lit 17), (nat_lit 0, nat_lit 35, nat_lit 18), (nat_lit 0, nat_lit 36, nat_lit 19), (nat_lit 0, nat_lit 37, nat_lit 20), (nat_lit 0, nat_lit 38, nat_lit 21), (nat_lit 0, nat_lit 39, nat_lit 22), (nat_lit 0, nat_lit 40, nat_lit 23), (nat_lit 0, nat_lit 47, nat_lit 24), (nat_lit 0, nat_lit 48, nat_lit 25), (nat_lit 0, nat_lit 50, nat_lit 26), (nat_lit 0, nat_lit 51, nat_lit 27), (nat_lit 0, nat_lit 52, nat_lit 28), (nat_lit 0, nat_lit 53, nat_lit 29), (nat_lit 0, nat_lit 54, nat_lit 30), (nat_lit 0, nat_lit 55, nat_lit 31), (nat_lit 0, nat_lit 56, nat_lit 32), (nat_lit 0, nat_lit 57, nat_lit 33), (nat_lit 0, nat_lit 58, nat_lit 34), (nat_lit 0, nat_lit 59, nat_lit 35), (nat_lit 0, nat_lit 72, nat_lit 36), (nat_lit 0, nat_lit 73, nat_lit 37), (nat_lit 0, nat_lit 76, nat_lit 38), (nat_lit 0, nat_lit 77, nat_lit 39), (nat_lit 0, nat_lit 79, nat_lit 40), (nat_lit 0, nat_lit 81, nat_lit 41), (nat_lit 0, nat_lit 82, nat_lit 42)] [] (fun xs η => sP wl_ke zTr zPke_packed xs η ∧ pPke_packed xs η) (fun xs η y η' => sQ wl_ke zTr zOke_packed zMke_packed xs η y η' ∧ pQke_packed xs η y η') :=
  zmet_alt (zmea_gen (mi := (nat_lit 2, nat_lit 1, nat_lit 8, nat_lit 5, nat_lit 1, tX8_packed)) (cd := []) (cu := zUke_packed) (cs := []) (iv := zVke_packed) (po := [zOke_packed]) (pr := zPke_packed) (mods := zMke_packed) (D7 := zDke_packed) (D0 := zEke_packed) (Dm := zFke_packed) (f0 := 9) pCke_packed qCke_packed iCke_packed pPke_packed (fun xs η _ y η' => pQke_packed xs η y η') zX_low pr_mtR rfl (fun _ h => nomatch h) (by decide +kernel) (by decide +kernel) (by decide +kernel)
    (by
      intro xs η hr hl hp hpp
      match xs, hl, hp, hpp with
      | [x1, x2], _, hp, hpp =>
        refine List.forall_mem_cons.mpr ⟨?_, fun _ h => nomatch h⟩
        · show (iCke_packed [x1, x2] η) 0 [x1, x2, 0, x1] η
          refine yj_a ?_ ?_
          · exact hpp
          · show yq_pI x1 x2 η x1 x2 0 x1 η
            exact ⟨rfl, rfl, rfl, Int.le_refl _, by omega, fun _ => by rw [Int.sub_self]; rfl⟩
      )
    (fun _ _ _ _ _ _ _ h => nomatch h)
    (List.forall_mem_cons.mpr ⟨⟨zDke_packed_0, zEke_packed_0, zFke_packed_0, 27, by decide +kernel, (by
      intro xs η0 hlx hp hpp ys η hr hl hI hig
      match ys, hl, hI, hig with
      | [x1, x2, x3, x4], _, hI, hig =>
        refine ⟨?_, ?_⟩
        · refine List.forall_mem_cons.mpr ⟨?_, List.forall_mem_cons.mpr ⟨?_, List.forall_mem_cons.mpr ⟨?_, fun _ h => nomatch h⟩⟩⟩
          · show ∀ x5 : Int, x5 = zd 0 1 x1 6 → (x5 ≤ x4) → (fun (_ : Nat) (y : Int) (η' : zE) => pQke_packed xs η0 y η') 0 x3 η
            have fig := hig.2
            have hig := hig.1
            intro x5 e5 c1
            refine yj_a ?_ ?_
            · exact hig
            · have fig : yq_pI (xs.getD 0 0) (xs.getD 1 0) η0 x1 x2 x3 x4 η := fig
              have b1 : (0 : Int) ≤ x1 ∧ x1 ≤ 700 := hI.1.2.1.1
              have b4 : (0 : Int) ≤ x4 ∧ x4 ≤ 710 := hI.1.2.1.2.2.2.1
              rw [zd_a ⟨by omega, by omega⟩] at e5
              show yq_let (η0 1) (xs.getD 0 0).toNat (xs.getD 1 0 - xs.getD 0 0).toNat → x3 = yq_pk (η0 1) (xs.getD 0 0).toNat (xs.getD 1 0 - xs.getD 0 0).toNat 6 ∧ η = η0
              obtain ⟨h1, h2, h3, h4, h5, h6⟩ := fig
              intro w
              rw [← h1, ← h2] at w ⊢
              have := h6 w
              rw [show (x4 - x1).toNat = 6 by omega] at this
              exact ⟨this, h3⟩
          · show ∀ x5 : Int, x5 = zd 0 1 x1 6 → (x4 < x5) → ∀ x6 : Int, x6 = zd 0 6 x3 5 → (x2 ≤ x4) → ∀ x7 : Int, x7 = zd 0 5 x6 0 → ∀ x8 : Int, x8 = zd 0 1 x4 1 → (iCke_packed xs η0) 0 [x1, x2, x7, x8] η ∧ (fun (_ : Nat) (_ : List Int) (_ : zE) => (0 : Nat)) 0 [x1, x2, x7, x8] η < 1
            have fig := hig.2
            have hig := hig.1
            intro x5 e5 c1 x6 e6 c2 x7 e7 x8 e8
            refine yj_c ?_ ?_
            · exact ⟨hig, Nat.zero_lt_one⟩
            · have fig : yq_pI (xs.getD 0 0) (xs.getD 1 0) η0 x1 x2 x3 x4 η := fig
              have b1 : (0 : Int) ≤ x1 ∧ x1 ≤ 700 := hI.1.2.1.1
              have b4 : (0 : Int) ≤ x4 ∧ x4 ≤ 710 := hI.1.2.1.2.2.2.1
              rw [zd_a ⟨by omega, by omega⟩] at e5
              rw [zd_a ⟨by omega, by omega⟩] at e8
              show yq_pI (xs.getD 0 0) (xs.getD 1 0) η0 x1 x2 x7 x8 η
              rw [e8]
              refine qpI_s fig b1.1 (by omega) (fun d hd _ => ?_)
              rw [if_neg (by omega)] at hd
              rw [hd, e7, e6]
          · show ∀ x5 : Int, x5 = zd 0 1 x1 6 → (x4 < x5) → ∀ x6 : Int, x6 = zd 0 6 x3 5 → (x4 < x2) → ∀ x7 : Int, x7 = η 1 (Int.toNat x4) → zok 0 x7 → ∀ x8 : Int, x8 = zd 0 2 x7 96 → ∀ x9 : Int, x9 = zd 0 5 x6 x8 → ∀ x10 : Int, x10 = zd 0 1 x4 1 → (iCke_packed xs η0) 0 [x1, x2, x9, x10] η ∧ (fun (_ : Nat) (_ : List Int) (_ : zE) => (0 : Nat)) 0 [x1, x2, x9, x10] η < 1
            have fig := hig.2
            have hig := hig.1
            intro x5 e5 c1 x6 e6 c2 x7 e7 r7 x8 e8 x9 e9 x10 e10
            refine yj_c ?_ ?_
            · exact ⟨hig, Nat.zero_lt_one⟩
            · have fig : yq_pI (xs.getD 0 0) (xs.getD 1 0) η0 x1 x2 x3 x4 η := fig
              have b1 : (0 : Int) ≤ x1 ∧ x1 ≤ 700 := hI.1.2.1.1
              have b4 : (0 : Int) ≤ x4 ∧ x4 ≤ 710 := hI.1.2.1.2.2.2.1
              rw [zd_a ⟨by omega, by omega⟩] at e5
              have e7 : x7 = η 1 (Int.toNat x4) := e7
              have r7 : -2147483648 ≤ x7 ∧ x7 ≤ 2147483647 := r7
              rw [zd_a ⟨by omega, by omega⟩] at e10
              show yq_pI (xs.getD 0 0) (xs.getD 1 0) η0 x1 x2 x9 x10 η
              rw [e10]
              refine qpI_s fig b1.1 (by omega) (fun d hd hl => ?_)
              have hl := hl (by assumption)
              rw [← fig.2.2.1, ← e7] at hl
              rw [if_pos (by assumption), ← fig.2.2.1, ← e7] at hd
              rw [hd, e9, e6, e8, zd_s ⟨by omega, by omega⟩]
        · exact fun _ h => nomatch h
      )⟩, (fun _ h => nomatch h)⟩))
def zPke_wordAt : zPq := ([((.ofNat (nat_lit 0)), (.ofNat (nat_lit 700))), ((.ofNat (nat_lit 0)), (.ofNat (nat_lit 700)))], [])
def zOke_wordAt : zPo := (((.negSucc (nat_lit 0)), (.ofNat (nat_lit 20))), [], [])
def zMke_wordAt : List zCe := []
def pPke_wordAt : List Int → zE → Prop := (fun _ η => G_ke η)
def oQke_wordAt : List Int → zE → Int → zE → Prop := fun _ _ y η' => G_k η' ∧ y ≤ 19
def fQke_wordAt : List Int → zE → Int → zE → Prop := fun xs η y η' => y = (yq_wa (η 1) (Int.toNat (xs.getD 0 0)) (Int.toNat ((xs.getD 1 0) - (xs.getD 0 0))) 20) ∧ η' = η
def pQke_wordAt : List Int → zE → Int → zE → Prop := fun xs η y η' => oQke_wordAt xs η y η' ∧ fQke_wordAt xs η y η'
def pCke_wordAt : Nat → List Int → zE → Prop := fun c => match c with
  | _ => fun _ _ => True
def qCke_wordAt : Nat → List Int → zE → Int → zE → Prop := fun c => match c with
  | _ => fun _ _ _ _ => True
def iCke_wordAt : List Int → zE → Nat → List Int → zE → Prop := fun xs η0 c => match c with
  | 0 => fun ys η => (G_k η ∧ ∃ k0 : Nat, k0 ≤ 20 ∧ ys.getD 2 0 = k0 ∧ ys.getD 3 0 = (sw_k.getD k0 0 : Int)) ∧ (yq_wI (xs.getD 0 0) (xs.getD 1 0) η0 (ys.getD 0 0) (ys.getD 1 0) (ys.getD 2 0) η)
  | 1 => fun ys η => (G_k η ∧ ∃ k0 : Nat, k0 < 20 ∧ ys.getD 2 0 = k0 ∧ ys.getD 3 0 = (sw_k.getD k0 0 : Int) ∧ 0 ≤ ys.getD 4 0 ∧ (sw_k.getD k0 0 : Int) + ys.getD 4 0 + 1 ≤ sw_k.getD (k0 + 1) 0) ∧ (yq_wI (xs.getD 0 0) (xs.getD 1 0) η0 (ys.getD 0 0) (ys.getD 1 0) (ys.getD 2 0) η)
  | 2 => fun ys η => (G_k η ∧ ∃ k0 : Nat, k0 < 20 ∧ ys.getD 2 0 = k0 ∧ ys.getD 3 0 = (sw_k.getD k0 0 : Int) ∧ (sw_k.getD k0 0 : Int) + ys.getD 4 0 + 1 = sw_k.getD (k0 + 1) 0 ∧ (¬ ys.getD 5 0 = 0 → ys.getD 4 0 = ys.getD 1 0 - ys.getD 0 0)) ∧ (yq_wX (xs.getD 0 0) (xs.getD 1 0) η0 (ys.getD 0 0) (ys.getD 1 0) (ys.getD 2 0) (ys.getD 4 0) (ys.getD 5 0) (ys.getD 6 0) η)
  | _ => fun _ _ => True
def zVke_wordAt : List zIv := [(nat_lit 0, ([((.ofNat (nat_lit 0)), (.ofNat (nat_lit 700))), ((.ofNat (nat_lit 0)), (.ofNat (nat_lit 700))), ((.ofNat (nat_lit 0)), (.ofNat (nat_lit 20))), ((.ofNat (nat_lit 0)), (.ofNat (nat_lit 104)))], []), ((.ofNat (nat_lit 100000)), [((.negSucc (nat_lit 999)), nat_lit 0, nat_lit 2, nat_lit 0)])), (nat_lit 1, ([((.ofNat (nat_lit 0)), (.ofNat (nat_lit 700))), ((.ofNat (nat_lit 0)), (.ofNat (nat_lit 700))), ((.ofNat (nat_lit 0)), (.ofNat (nat_lit 20))), ((.ofNat (nat_lit 0)), (.ofNat (nat_lit 103))), ((.ofNat (nat_lit 0)), (.ofNat (nat_lit 6)))], []), ((.ofNat (nat_lit 99900)), [((.negSucc (nat_lit 999)), nat_lit 0, nat_lit 2, nat_lit 0), ((.negSucc (nat_lit 0)), nat_lit 0, nat_lit 4, nat_lit 0)])), (nat_lit 2, ([((.ofNat (nat_lit 0)), (.ofNat (nat_lit 700))), ((.ofNat (nat_lit 0)), (.ofNat (nat_lit 700))), ((.ofNat (nat_lit 0)), (.ofNat (nat_lit 20))), ((.ofNat (nat_lit 0)), (.ofNat (nat_lit 103))), ((.ofNat (nat_lit 0)), (.ofNat (nat_lit 6))), ((.ofNat (nat_lit 0)), (.ofNat (nat_lit 1))), ((.ofNat (nat_lit 0)), (.ofNat (nat_lit 6)))], []), ((.ofNat (nat_lit 99500)), [((.negSucc (nat_lit 999)), nat_lit 0, nat_lit 2, nat_lit 0), ((.negSucc (nat_lit 0)), nat_lit 0, nat_lit 6, nat_lit 0)]))]
def zUke_wordAt : List zCu := [(nat_lit 5, nat_lit 0, [(nat_lit 0, (.inr (.inr (.inl (nat_lit 0))))), (nat_lit 1, (.inl (nat_lit 1, (.ofNat (nat_lit 0))))), (nat_lit 2, (.inl (nat_lit 2, (.ofNat (nat_lit 0))))), (nat_lit 3, (.inl (nat_lit 3, (.ofNat (nat_lit 0))))), (nat_lit 4, (.inl (nat_lit 4, (.ofNat (nat_lit 0)))))], []), (nat_lit 18, nat_lit 1, [(nat_lit 0, (.inr (.inr (.inl (nat_lit 0))))), (nat_lit 1, (.inl (nat_lit 1, (.ofNat (nat_lit 0))))), (nat_lit 2, (.inl (nat_lit 2, (.ofNat (nat_lit 0))))), (nat_lit 3, (.inl (nat_lit 3, (.ofNat (nat_lit 0))))), (nat_lit 4, (.inl (nat_lit 4, (.ofNat (nat_lit 0))))), (nat_lit 5, (.inl (nat_lit 5, (.ofNat (nat_lit 0)))))], []), (nat_lit 57, nat_lit 2, [(nat_lit 0, (.inr (.inr (.inl (nat_lit 0))))), (nat_lit 1, (.inl (nat_lit 1, (.ofNat (nat_lit 0))))), (nat_lit 2, (.inl (nat_lit 2, (.ofNat (nat_lit 0))))), (nat_lit 3, (.inl (nat_lit 3, (.ofNat (nat_lit 0))))), (nat_lit 4, (.inl (nat_lit 4, (.ofNat (nat_lit 0))))), (nat_lit 5, (.inl (nat_lit 5, (.ofNat (nat_lit 0))))), (nat_lit 6, (.inl (nat_lit 6, (.ofNat (nat_lit 0))))), (nat_lit 7, (.inl (nat_lit 7, (.ofNat (nat_lit 0)))))], [])]
def zDke_wordAt : List (List zK) := []
def zEke_wordAt : List (List zK) := [[(nat_lit 12, nat_lit 0, [(nat_lit 1, (.ofNat (nat_lit 0))), (nat_lit 2, (.ofNat (nat_lit 0))), (nat_lit 0, (.ofNat (nat_lit 0))), (nat_lit 0, (.ofNat (nat_lit 0)))])]]
def zFke_wordAt : List (List zK) := []
def zDke_wordAt_0 : List (List zK) := []
def zEke_wordAt_0 : List (List zK) := [[(nat_lit 11, nat_lit 0, [(nat_lit 0, (.negSucc (nat_lit 0)))]), (nat_lit 6, nat_lit 3, [(nat_lit 4, (.ofNat (nat_lit 0))), (nat_lit 0, (.ofNat (nat_lit 104)))])],
  [(nat_lit 10, nat_lit 1, [(nat_lit 1, (.ofNat (nat_lit 0))), (nat_lit 2, (.ofNat (nat_lit 0))), (nat_lit 3, (.ofNat (nat_lit 0))), (nat_lit 4, (.ofNat (nat_lit 0))), (nat_lit 0, (.ofNat (nat_lit 0)))]), (nat_lit 6, nat_lit 2, [(nat_lit 4, (.ofNat (nat_lit 0))), (nat_lit 0, (.ofNat (nat_lit 104)))])]]
def zFke_wordAt_0 : List (List zK) := []
def zDke_wordAt_1 : List (List zK) := []
def zEke_wordAt_1 : List (List zK) := [[(nat_lit 10, nat_lit 2, [(nat_lit 1, (.ofNat (nat_lit 0))), (nat_lit 2, (.ofNat (nat_lit 0))), (nat_lit 3, (.ofNat (nat_lit 0))), (nat_lit 4, (.ofNat (nat_lit 0))), (nat_lit 5, (.ofNat (nat_lit 0))), (nat_lit 0, (.ofNat (nat_lit 0))), (nat_lit 0, (.ofNat (nat_lit 0)))]), (nat_lit 6, nat_lit 1, [(nat_lit 5, (.ofNat (nat_lit 0))), (nat_lit 8, (.ofNat (nat_lit 0)))]), (nat_lit 0, nat_lit 2, [(nat_lit 2, (.ofNat (nat_lit 0))), (nat_lit 1, (.ofNat (nat_lit 0)))]), (nat_lit 6, nat_lit 0, [(nat_lit 7, (.ofNat (nat_lit 0))), (nat_lit 0, (.ofNat (nat_lit 32)))]), (nat_lit 4, nat_lit 0, [(nat_lit 2, (.ofNat (nat_lit 0))), (nat_lit 6, (.ofNat (nat_lit 0)))]), (nat_lit 0, nat_lit 1, [(nat_lit 4, (.ofNat (nat_lit 0))), (nat_lit 5, (.ofNat (nat_lit 0)))])],
  [(nat_lit 10, nat_lit 2, [(nat_lit 1, (.ofNat (nat_lit 0))), (nat_lit 2, (.ofNat (nat_lit 0))), (nat_lit 3, (.ofNat (nat_lit 0))), (nat_lit 4, (.ofNat (nat_lit 0))), (nat_lit 5, (.ofNat (nat_lit 0))), (nat_lit 0, (.ofNat (nat_lit 1))), (nat_lit 0, (.ofNat (nat_lit 0)))]), (nat_lit 6, nat_lit 0, [(nat_lit 5, (.ofNat (nat_lit 0))), (nat_lit 8, (.ofNat (nat_lit 0)))]), (nat_lit 0, nat_lit 2, [(nat_lit 2, (.ofNat (nat_lit 0))), (nat_lit 1, (.ofNat (nat_lit 0)))]), (nat_lit 6, nat_lit 0, [(nat_lit 7, (.ofNat (nat_lit 0))), (nat_lit 0, (.ofNat (nat_lit 32)))]), (nat_lit 4, nat_lit 0, [(nat_lit 2, (.ofNat (nat_lit 0))), (nat_lit 6, (.ofNat (nat_lit 0)))]), (nat_lit 0, nat_lit 1, [(nat_lit 4, (.ofNat (nat_lit 0))), (nat_lit 5, (.ofNat (nat_lit 0)))])]]
def zFke_wordAt_1 : List (List zK) := [[(nat_lit 7, nat_lit 0, [(nat_lit 6, (.ofNat (nat_lit 0))), (nat_lit 0, (.ofNat (nat_lit 104)))]), (nat_lit 0, nat_lit 1, [(nat_lit 4, (.ofNat (nat_lit 0))), (nat_lit 5, (.ofNat (nat_lit 0)))])],
  [(nat_lit 10, nat_lit 1, [(nat_lit 1, (.ofNat (nat_lit 0))), (nat_lit 2, (.ofNat (nat_lit 0))), (nat_lit 3, (.ofNat (nat_lit 0))), (nat_lit 4, (.ofNat (nat_lit 0))), (nat_lit 8, (.ofNat (nat_lit 0)))]), (nat_lit 0, nat_lit 1, [(nat_lit 5, (.ofNat (nat_lit 0))), (nat_lit 0, (.ofNat (nat_lit 1)))]), (nat_lit 6, nat_lit 1, [(nat_lit 7, (.ofNat (nat_lit 0))), (nat_lit 0, (.ofNat (nat_lit 32)))]), (nat_lit 4, nat_lit 0, [(nat_lit 2, (.ofNat (nat_lit 0))), (nat_lit 6, (.ofNat (nat_lit 0)))]), (nat_lit 0, nat_lit 1, [(nat_lit 4, (.ofNat (nat_lit 0))), (nat_lit 5, (.ofNat (nat_lit 0)))])]]
def zDke_wordAt_2 : List (List zK) := [[(nat_lit 7, nat_lit 3, []), (nat_lit 6, nat_lit 1, [(nat_lit 6, (.ofNat (nat_lit 0))), (nat_lit 0, (.ofNat (nat_lit 0)))]), (nat_lit 6, nat_lit 0, [(nat_lit 6, (.ofNat (nat_lit 0))), (nat_lit 0, (.ofNat (nat_lit 0)))]), (nat_lit 6, nat_lit 2, [(nat_lit 7, (.ofNat (nat_lit 0))), (nat_lit 5, (.ofNat (nat_lit 0)))])]]
def zEke_wordAt_2 : List (List zK) := [[(nat_lit 11, nat_lit 0, [(nat_lit 3, (.ofNat (nat_lit 0)))]), (nat_lit 6, nat_lit 1, [(nat_lit 6, (.ofNat (nat_lit 0))), (nat_lit 0, (.ofNat (nat_lit 0)))]), (nat_lit 6, nat_lit 3, [(nat_lit 7, (.ofNat (nat_lit 0))), (nat_lit 5, (.ofNat (nat_lit 0)))])],
  [(nat_lit 10, nat_lit 2, [(nat_lit 1, (.ofNat (nat_lit 0))), (nat_lit 2, (.ofNat (nat_lit 0))), (nat_lit 3, (.ofNat (nat_lit 0))), (nat_lit 4, (.ofNat (nat_lit 0))), (nat_lit 5, (.ofNat (nat_lit 0))), (nat_lit 0, (.ofNat (nat_lit 0))), (nat_lit 12, (.ofNat (nat_lit 0)))]), (nat_lit 0, nat_lit 1, [(nat_lit 7, (.ofNat (nat_lit 0))), (nat_lit 0, (.ofNat (nat_lit 1)))]), (nat_lit 6, nat_lit 1, [(nat_lit 9, (.ofNat (nat_lit 0))), (nat_lit 11, (.ofNat (nat_lit 0)))]), (nat_lit 4, nat_lit 0, [(nat_lit 1, (.ofNat (nat_lit 0))), (nat_lit 10, (.ofNat (nat_lit 0)))]), (nat_lit 0, nat_lit 1, [(nat_lit 1, (.ofNat (nat_lit 0))), (nat_lit 7, (.ofNat (nat_lit 0)))]), (nat_lit 4, nat_lit 0, [(nat_lit 2, (.ofNat (nat_lit 0))), (nat_lit 8, (.ofNat (nat_lit 0)))]), (nat_lit 0, nat_lit 1, [(nat_lit 4, (.ofNat (nat_lit 0))), (nat_lit 7, (.ofNat (nat_lit 0)))]), (nat_lit 6, nat_lit 1, [(nat_lit 6, (.ofNat (nat_lit 0))), (nat_lit 0, (.ofNat (nat_lit 0)))]), (nat_lit 6, nat_lit 2, [(nat_lit 7, (.ofNat (nat_lit 0))), (nat_lit 5, (.ofNat (nat_lit 0)))])],
  [(nat_lit 10, nat_lit 2, [(nat_lit 1, (.ofNat (nat_lit 0))), (nat_lit 2, (.ofNat (nat_lit 0))), (nat_lit 3, (.ofNat (nat_lit 0))), (nat_lit 4, (.ofNat (nat_lit 0))), (nat_lit 5, (.ofNat (nat_lit 0))), (nat_lit 0, (.ofNat (nat_lit 1))), (nat_lit 12, (.ofNat (nat_lit 0)))]), (nat_lit 0, nat_lit 1, [(nat_lit 7, (.ofNat (nat_lit 0))), (nat_lit 0, (.ofNat (nat_lit 1)))]), (nat_lit 6, nat_lit 0, [(nat_lit 9, (.ofNat (nat_lit 0))), (nat_lit 11, (.ofNat (nat_lit 0)))]), (nat_lit 4, nat_lit 0, [(nat_lit 1, (.ofNat (nat_lit 0))), (nat_lit 10, (.ofNat (nat_lit 0)))]), (nat_lit 0, nat_lit 1, [(nat_lit 1, (.ofNat (nat_lit 0))), (nat_lit 7, (.ofNat (nat_lit 0)))]), (nat_lit 4, nat_lit 0, [(nat_lit 2, (.ofNat (nat_lit 0))), (nat_lit 8, (.ofNat (nat_lit 0)))]), (nat_lit 0, nat_lit 1, [(nat_lit 4, (.ofNat (nat_lit 0))), (nat_lit 7, (.ofNat (nat_lit 0)))]), (nat_lit 6, nat_lit 1, [(nat_lit 6, (.ofNat (nat_lit 0))), (nat_lit 0, (.ofNat (nat_lit 0)))]), (nat_lit 6, nat_lit 2, [(nat_lit 7, (.ofNat (nat_lit 0))), (nat_lit 5, (.ofNat (nat_lit 0)))])]]
def zFke_wordAt_2 : List (List zK) := [[(nat_lit 10, nat_lit 0, [(nat_lit 1, (.ofNat (nat_lit 0))), (nat_lit 2, (.ofNat (nat_lit 0))), (nat_lit 10, (.ofNat (nat_lit 0))), (nat_lit 9, (.ofNat (nat_lit 0)))]), (nat_lit 0, nat_lit 1, [(nat_lit 3, (.ofNat (nat_lit 0))), (nat_lit 0, (.ofNat (nat_lit 1)))]), (nat_lit 0, nat_lit 1, [(nat_lit 4, (.ofNat (nat_lit 0))), (nat_lit 8, (.ofNat (nat_lit 0)))]), (nat_lit 0, nat_lit 1, [(nat_lit 5, (.ofNat (nat_lit 0))), (nat_lit 0, (.ofNat (nat_lit 1)))]), (nat_lit 6, nat_lit 0, [(nat_lit 6, (.ofNat (nat_lit 0))), (nat_lit 0, (.ofNat (nat_lit 0)))]), (nat_lit 6, nat_lit 3, [(nat_lit 7, (.ofNat (nat_lit 0))), (nat_lit 5, (.ofNat (nat_lit 0)))])],
  [(nat_lit 10, nat_lit 0, [(nat_lit 1, (.ofNat (nat_lit 0))), (nat_lit 2, (.ofNat (nat_lit 0))), (nat_lit 10, (.ofNat (nat_lit 0))), (nat_lit 9, (.ofNat (nat_lit 0)))]), (nat_lit 0, nat_lit 1, [(nat_lit 3, (.ofNat (nat_lit 0))), (nat_lit 0, (.ofNat (nat_lit 1)))]), (nat_lit 0, nat_lit 1, [(nat_lit 4, (.ofNat (nat_lit 0))), (nat_lit 8, (.ofNat (nat_lit 0)))]), (nat_lit 0, nat_lit 1, [(nat_lit 5, (.ofNat (nat_lit 0))), (nat_lit 0, (.ofNat (nat_lit 1)))]), (nat_lit 6, nat_lit 0, [(nat_lit 6, (.ofNat (nat_lit 0))), (nat_lit 0, (.ofNat (nat_lit 0)))]), (nat_lit 6, nat_lit 0, [(nat_lit 6, (.ofNat (nat_lit 0))), (nat_lit 0, (.ofNat (nat_lit 0)))]), (nat_lit 6, nat_lit 2, [(nat_lit 7, (.ofNat (nat_lit 0))), (nat_lit 5, (.ofNat (nat_lit 0)))])],
  [(nat_lit 7, nat_lit 0, [(nat_lit 8, (.ofNat (nat_lit 0))), (nat_lit 0, (.ofNat (nat_lit 104)))]), (nat_lit 0, nat_lit 1, [(nat_lit 4, (.ofNat (nat_lit 0))), (nat_lit 7, (.ofNat (nat_lit 0)))]), (nat_lit 6, nat_lit 1, [(nat_lit 6, (.ofNat (nat_lit 0))), (nat_lit 0, (.ofNat (nat_lit 0)))]), (nat_lit 6, nat_lit 2, [(nat_lit 7, (.ofNat (nat_lit 0))), (nat_lit 5, (.ofNat (nat_lit 0)))])],
  [(nat_lit 7, nat_lit 0, [(nat_lit 10, (.ofNat (nat_lit 0))), (nat_lit 0, (.ofNat (nat_lit 700)))]), (nat_lit 0, nat_lit 1, [(nat_lit 1, (.ofNat (nat_lit 0))), (nat_lit 7, (.ofNat (nat_lit 0)))]), (nat_lit 4, nat_lit 0, [(nat_lit 2, (.ofNat (nat_lit 0))), (nat_lit 8, (.ofNat (nat_lit 0)))]), (nat_lit 0, nat_lit 1, [(nat_lit 4, (.ofNat (nat_lit 0))), (nat_lit 7, (.ofNat (nat_lit 0)))]), (nat_lit 6, nat_lit 1, [(nat_lit 6, (.ofNat (nat_lit 0))), (nat_lit 0, (.ofNat (nat_lit 0)))]), (nat_lit 6, nat_lit 2, [(nat_lit 7, (.ofNat (nat_lit 0))), (nat_lit 5, (.ofNat (nat_lit 0)))])]]
set_option maxHeartbeats 8000000 in
theorem zke_wordAt {ro : Nat → List Int32} : zMet pr_P pr_K pr_df ro (sm_X0 1 6) 0 119 tm_ke [(.inr (.inr (.inl (nat_lit 0)))), (.inl (nat_lit 1, (.ofNat (nat_lit 0)))), (.inl (nat_lit 2, (.ofNat (nat_lit 0))))] 1 [(nat_lit 0, nat_lit 0, nat_lit 1), (nat_lit 0, nat_lit 3, nat_lit 2), (nat_lit 0, nat_lit 20, nat_lit 3), (nat_lit 0, nat_lit 21, nat_lit 4), (nat_lit 0, nat_lit 22, nat_lit 5), (nat_lit 0, nat_lit 23, nat_lit 6), (nat_lit 0, nat_lit 24, nat_lit 7), (nat_lit 0, nat_lit 25, nat_lit 8), (nat_lit 0, nat_lit 26, nat_lit 9), (nat_lit 0, nat_lit 27, nat_lit 10), (nat_lit 0, nat_lit 28, nat_lit 11), (nat_lit 0, nat_lit 29, nat_lit 12), (nat_lit 0, nat_lit 30, nat_lit 13), (nat_lit 0, nat_lit 31, nat_lit 14), (nat_lit 0, nat_lit 32, nat_lit 15), (nat_lit 0, nat_lit 33, nat_lit 16), (nat_lit 0, nat_lit 34, nat_lit 17), (nat_lit 0, nat_lit 35, nat_lit 18), (nat_lit 0, nat_lit 36, nat_lit 19), (nat_lit 0, nat_lit 37, nat_lit 20), (nat_lit 0, nat_lit 38, nat_lit 21), (nat_lit 0, nat_lit 39, nat_lit 22), (nat_lit 0, nat_lit 40, nat_lit 23), (nat_lit 0, nat_lit 47, nat_lit 24), (nat_lit 0, nat_lit 48, nat_lit 25), (nat_lit 0, nat_lit 50, nat_lit 26), (nat_lit 0, nat_lit 51, nat_lit 27), (nat_lit 0, nat_lit 52, nat_lit 28), (nat_lit 0, nat_lit 53, nat_lit 29), (nat_lit 0, nat_lit 54, nat_lit 30), (nat_lit 0, nat_lit 55, nat_lit 31), (nat_lit 0, nat_lit 56, nat_lit 32), (nat_lit 0, nat_lit 57, nat_lit 33), (nat_lit 0, nat_lit 58, nat_lit 34), (nat_lit 0, nat_lit 59, nat_lit 35), (nat_lit 0, nat_lit 72, nat_lit 36), (nat_lit 0, nat_lit 73, nat_lit 37), (nat_lit 0, nat_lit 76, nat_lit 38), (nat_lit 0, nat_lit 77, nat_lit 39), (nat_lit 0, nat_lit 79, nat_lit 40), (nat_lit 0, nat_lit 81, nat_lit 41), (nat_lit 0, nat_lit 82, nat_lit 42)] [] (fun xs η => sP wl_ke zTr zPke_wordAt xs η ∧ pPke_wordAt xs η) (fun xs η y η' => sQ wl_ke zTr zOke_wordAt zMke_wordAt xs η y η' ∧ pQke_wordAt xs η y η') :=
  zmet_alt (zmea_gen (mi := (nat_lit 2, nat_lit 1, nat_lit 8, nat_lit 8, nat_lit 1, tX8_wordAt)) (cd := []) (cu := zUke_wordAt) (cs := []) (iv := zVke_wordAt) (po := [zOke_wordAt]) (pr := zPke_wordAt) (mods := zMke_wordAt) (D7 := zDke_wordAt) (D0 := zEke_wordAt) (Dm := zFke_wordAt) (f0 := 9) pCke_wordAt qCke_wordAt iCke_wordAt pPke_wordAt (fun xs η _ y η' => pQke_wordAt xs η y η') zX_low pr_mtR rfl (fun _ h => nomatch h) (by decide +kernel) (by decide +kernel) (by decide +kernel)
    (by
      intro xs η hr hl hp hpp
      match xs, hl, hp, hpp with
      | [x1, x2], _, hp, hpp =>
        refine List.forall_mem_cons.mpr ⟨?_, fun _ h => nomatch h⟩
        · show (iCke_wordAt [x1, x2] η) 0 [x1, x2, 0, 0] η
          refine yj_a ?_ ?_
          · exact ⟨hpp, 0, by decide, rfl, rfl⟩
          · show yq_wI x1 x2 η x1 x2 0 η
            exact ⟨rfl, rfl, rfl, Int.le_refl _, by decide, rfl⟩
      )
    (fun _ _ _ _ _ _ _ h => nomatch h)
    (List.forall_mem_cons.mpr ⟨⟨zDke_wordAt_0, zEke_wordAt_0, zFke_wordAt_0, 12, by decide +kernel, (by
      intro xs η0 hlx hp hpp ys η hr hl hI hig
      match ys, hl, hI, hig with
      | [x1, x2, x3, x4], _, hI, hig =>
        refine ⟨?_, ?_⟩
        · refine List.forall_mem_cons.mpr ⟨?_, List.forall_mem_cons.mpr ⟨?_, fun _ h => nomatch h⟩⟩
          · show (104 ≤ x4) → (fun (_ : Nat) (y : Int) (η' : zE) => pQke_wordAt xs η0 y η') 0 (-1) η
            have fig := hig.2
            have hig := hig.1
            intro c1
            refine yj_a ?_ ?_
            · exact ⟨hig.1, by decide⟩
            · have fig : yq_wI (xs.getD 0 0) (xs.getD 1 0) η0 x1 x2 x3 η := fig
              obtain ⟨g, k0, a1, a2, a3⟩ := hig
              have a2 : x3 = k0 := a2
              have a3 : x4 = (sw_k.getD k0 0 : Int) := a3
              have k20 : k0 = 20 := by
                by_cases q : k0 < 20
                · have := (sw_1 k0 q).1
                  omega
                · omega
              obtain ⟨h1, h2, h3, h4, h5, h6⟩ := fig
              refine ⟨?_, h3⟩
              show -1 = yq_wa (η0 1) (xs.getD 0 0).toNat (xs.getD 1 0 - xs.getD 0 0).toNat 20
              rw [← h1, ← h2, h6, show 20 - x3.toNat = 0 by omega, yq_wa]
          · show (x4 < 104) → (iCke_wordAt xs η0) 1 [x1, x2, x3, x4, 0] η ∧ (fun (_ : Nat) (_ : List Int) (_ : zE) => (0 : Nat)) 1 [x1, x2, x3, x4, 0] η < 1
            have fig := hig.2
            have hig := hig.1
            intro c1
            refine yj_c ?_ ?_
            · obtain ⟨g, k0, a1, a2, a3⟩ := hig
              have a3 : x4 = (sw_k.getD k0 0 : Int) := a3
              have lt := sw_3 k0 a1 (by omega)
              have s1 := sw_1 k0 lt
              exact ⟨⟨g, k0, lt, a2, a3, Int.le_refl _, show (sw_k.getD k0 0 : Int) + 0 + 1 ≤ (sw_k.getD (k0 + 1) 0 : Nat) by omega⟩, Nat.zero_lt_one⟩
            · exact fig
        · exact fun _ h => nomatch h
      )⟩, (List.forall_mem_cons.mpr ⟨⟨zDke_wordAt_1, zEke_wordAt_1, zFke_wordAt_1, 23, by decide +kernel, (by
      intro xs η0 hlx hp hpp ys η hr hl hI hig
      match ys, hl, hI, hig with
      | [x1, x2, x3, x4, x5], _, hI, hig =>
        refine ⟨?_, ?_⟩
        · refine List.forall_mem_cons.mpr ⟨?_, List.forall_mem_cons.mpr ⟨?_, fun _ h => nomatch h⟩⟩
          · show ∀ x6 : Int, x6 = zd 0 1 x4 x5 → ∀ x7 : Int, x7 = η 2 (Int.toNat x6) → zok 0 x7 → (x7 = 32) → ∀ x8 : Int, x8 = zd 0 2 x2 x1 → (¬ x5 = x8) → (iCke_wordAt xs η0) 2 [x1, x2, x3, x4, x5, 0, 0] η ∧ (fun (_ : Nat) (_ : List Int) (_ : zE) => (0 : Nat)) 2 [x1, x2, x3, x4, x5, 0, 0] η < 1
            have fig := hig.2
            have hig := hig.1
            intro x6 e6 x7 e7 r7 c1 x8 e8 c2
            refine yj_c ?_ ?_
            · obtain ⟨g, k0, lt, a2, a3, a4, a5⟩ := hig
              have a2 : x3 = k0 := a2
              have a3 : x4 = (sw_k.getD k0 0 : Int) := a3
              have a4 : 0 ≤ x5 := a4
              have a5 : (sw_k.getD k0 0 : Int) + x5 + 1 ≤ (sw_k.getD (k0 + 1) 0 : Nat) := a5
              have s1 := sw_1 k0 lt
              have h6 : x6 = x4 + x5 := by rw [e6]; exact zd_a ⟨by omega, by omega⟩
              have u := g.2.2 x6.toNat (by omega)
              have s2 := sw_2 k0 lt x5.toNat (by omega) (by omega)
              have e7 : x7 = η 2 x6.toNat := e7
              rw [show sw_k.getD k0 0 + x5.toNat = x6.toNat by omega, ← u, ← e7] at s2
              have w := s2.mp c1
              exact ⟨⟨g, k0, lt, a2, a3, show (sw_k.getD k0 0 : Int) + x5 + 1 = (sw_k.getD (k0 + 1) 0 : Nat) by omega, fun w => absurd rfl w⟩, Nat.zero_lt_one⟩
            · have fig : yq_wI (xs.getD 0 0) (xs.getD 1 0) η0 x1 x2 x3 η := fig
              obtain ⟨g, k0, lt, a2, a3, a4, a5⟩ := hig
              have a2 : x3 = k0 := a2
              have a3 : x4 = (sw_k.getD k0 0 : Int) := a3
              have a4 : 0 ≤ x5 := a4
              have a5 : (sw_k.getD k0 0 : Int) + x5 + 1 ≤ (sw_k.getD (k0 + 1) 0 : Nat) := a5
              have s1 := sw_1 k0 lt
              have h6 : x6 = x4 + x5 := by rw [e6]; exact zd_a ⟨by omega, by omega⟩
              have u := g.2.2 x6.toNat (by omega)
              have s2 := sw_2 k0 lt x5.toNat (by omega) (by omega)
              have e7 : x7 = η 2 x6.toNat := e7
              rw [show sw_k.getD k0 0 + x5.toNat = x6.toNat by omega, ← u, ← e7] at s2
              have w := s2.mp c1
              have b1 : (0 : Int) ≤ x1 ∧ x1 ≤ 700 := hI.1.2.1.1
              have b2 : (0 : Int) ≤ x2 ∧ x2 ≤ 700 := hI.1.2.1.2.1
              have h8 : x8 = x2 - x1 := by rw [e8]; exact zd_s ⟨by omega, by omega⟩
              have kk : x3.toNat = k0 := by omega
              have hl : ((sw_k.getD x3.toNat 0 : Nat) : Int) + x5 + 1 = (sw_k.getD (x3.toNat + 1) 0 : Nat) := by rw [kk]; omega
              have n1 : ¬ x5 = 0 := fun w => by
                have z : ∀ k, k < 20 → ¬ sw_k.getD k 0 + 1 = sw_k.getD (k + 1) 0 := by decide
                exact z k0 lt (by omega)
              exact qwX_0 fig (by omega) a4 hl (Or.inl ⟨rfl, fun w => c2 (w.trans h8.symm), n1⟩)
          · show ∀ x6 : Int, x6 = zd 0 1 x4 x5 → ∀ x7 : Int, x7 = η 2 (Int.toNat x6) → zok 0 x7 → (x7 = 32) → ∀ x8 : Int, x8 = zd 0 2 x2 x1 → (x5 = x8) → (iCke_wordAt xs η0) 2 [x1, x2, x3, x4, x5, 1, 0] η ∧ (fun (_ : Nat) (_ : List Int) (_ : zE) => (0 : Nat)) 2 [x1, x2, x3, x4, x5, 1, 0] η < 1
            have fig := hig.2
            have hig := hig.1
            intro x6 e6 x7 e7 r7 c1 x8 e8 c2
            refine yj_c ?_ ?_
            · obtain ⟨g, k0, lt, a2, a3, a4, a5⟩ := hig
              have a2 : x3 = k0 := a2
              have a3 : x4 = (sw_k.getD k0 0 : Int) := a3
              have a4 : 0 ≤ x5 := a4
              have a5 : (sw_k.getD k0 0 : Int) + x5 + 1 ≤ (sw_k.getD (k0 + 1) 0 : Nat) := a5
              have s1 := sw_1 k0 lt
              have h6 : x6 = x4 + x5 := by rw [e6]; exact zd_a ⟨by omega, by omega⟩
              have u := g.2.2 x6.toNat (by omega)
              have s2 := sw_2 k0 lt x5.toNat (by omega) (by omega)
              have e7 : x7 = η 2 x6.toNat := e7
              rw [show sw_k.getD k0 0 + x5.toNat = x6.toNat by omega, ← u, ← e7] at s2
              have w := s2.mp c1
              have b1 : (0 : Int) ≤ x1 ∧ x1 ≤ 700 := hI.1.2.1.1
              have b2 : (0 : Int) ≤ x2 ∧ x2 ≤ 700 := hI.1.2.1.2.1
              have h8 : x8 = x2 - x1 := by rw [e8]; exact zd_s ⟨by omega, by omega⟩
              exact ⟨⟨g, k0, lt, a2, a3, show (sw_k.getD k0 0 : Int) + x5 + 1 = (sw_k.getD (k0 + 1) 0 : Nat) by omega, fun _ => show x5 = x2 - x1 by omega⟩, Nat.zero_lt_one⟩
            · have fig : yq_wI (xs.getD 0 0) (xs.getD 1 0) η0 x1 x2 x3 η := fig
              obtain ⟨g, k0, lt, a2, a3, a4, a5⟩ := hig
              have a2 : x3 = k0 := a2
              have a3 : x4 = (sw_k.getD k0 0 : Int) := a3
              have a4 : 0 ≤ x5 := a4
              have a5 : (sw_k.getD k0 0 : Int) + x5 + 1 ≤ (sw_k.getD (k0 + 1) 0 : Nat) := a5
              have s1 := sw_1 k0 lt
              have h6 : x6 = x4 + x5 := by rw [e6]; exact zd_a ⟨by omega, by omega⟩
              have u := g.2.2 x6.toNat (by omega)
              have s2 := sw_2 k0 lt x5.toNat (by omega) (by omega)
              have e7 : x7 = η 2 x6.toNat := e7
              rw [show sw_k.getD k0 0 + x5.toNat = x6.toNat by omega, ← u, ← e7] at s2
              have w := s2.mp c1
              have b1 : (0 : Int) ≤ x1 ∧ x1 ≤ 700 := hI.1.2.1.1
              have b2 : (0 : Int) ≤ x2 ∧ x2 ≤ 700 := hI.1.2.1.2.1
              have h8 : x8 = x2 - x1 := by rw [e8]; exact zd_s ⟨by omega, by omega⟩
              have kk : x3.toNat = k0 := by omega
              have hl : ((sw_k.getD x3.toNat 0 : Nat) : Int) + x5 + 1 = (sw_k.getD (x3.toNat + 1) 0 : Nat) := by rw [kk]; omega
              have n1 : ¬ x5 = 0 := fun w => by
                have z : ∀ k, k < 20 → ¬ sw_k.getD k 0 + 1 = sw_k.getD (k + 1) 0 := by decide
                exact z k0 lt (by omega)
              exact qwX_0 fig (by omega) a4 hl (Or.inr ⟨show ¬ (1 : Int) = 0 by decide, by omega⟩)
        · refine List.forall_mem_cons.mpr ⟨?_, List.forall_mem_cons.mpr ⟨?_, fun _ h => nomatch h⟩⟩
          · show ∀ x6 : Int, x6 = zd 0 1 x4 x5 → (0 : Int) ≤ x6 ∧ (x6 : Int) < 104
            have fig := hig.2
            have hig := hig.1
            intro x6 e6
            obtain ⟨g, k0, lt, a2, a3, a4, a5⟩ := hig
            have a2 : x3 = k0 := a2
            have a3 : x4 = (sw_k.getD k0 0 : Int) := a3
            have a4 : 0 ≤ x5 := a4
            have a5 : (sw_k.getD k0 0 : Int) + x5 + 1 ≤ (sw_k.getD (k0 + 1) 0 : Nat) := a5
            have s1 := sw_1 k0 lt
            have h6 : x6 = x4 + x5 := by rw [e6]; exact zd_a ⟨by omega, by omega⟩
            exact ⟨by omega, by omega⟩
          · show ∀ x6 : Int, x6 = zd 0 1 x4 x5 → ∀ x7 : Int, x7 = η 2 (Int.toNat x6) → zok 0 x7 → (¬ x7 = 32) → ∀ x8 : Int, x8 = zd 0 1 x5 1 → (fun c ys η1 => zsI wl_ke zTr zVke_wordAt zMke_wordAt η0 c ys η1 ∧ iCke_wordAt xs η0 c ys η1) 1 [x1, x2, x3, x4, x8] η ∧ (zsM zVke_wordAt) 1 [x1, x2, x3, x4, x8] η < zsM zVke_wordAt 1 [x1, x2, x3, x4, x5] η
            have fig := hig.2
            have hig := hig.1
            intro x6 e6 x7 e7 r7 c1 x8 e8
            refine yj_d ?_ ?_
            · obtain ⟨g, k0, lt, a2, a3, a4, a5⟩ := hig
              have a2 : x3 = k0 := a2
              have a3 : x4 = (sw_k.getD k0 0 : Int) := a3
              have a4 : 0 ≤ x5 := a4
              have a5 : (sw_k.getD k0 0 : Int) + x5 + 1 ≤ (sw_k.getD (k0 + 1) 0 : Nat) := a5
              have s1 := sw_1 k0 lt
              have h6 : x6 = x4 + x5 := by rw [e6]; exact zd_a ⟨by omega, by omega⟩
              have u := g.2.2 x6.toNat (by omega)
              have s2 := sw_2 k0 lt x5.toNat (by omega) (by omega)
              have e7 : x7 = η 2 x6.toNat := e7
              rw [show sw_k.getD k0 0 + x5.toNat = x6.toNat by omega, ← u, ← e7] at s2
              have w : ¬ sw_k.getD k0 0 + x5.toNat + 1 = sw_k.getD (k0 + 1) 0 := fun q => c1 (s2.mpr (by omega))
              have h8 : x8 = x5 + 1 := by rw [e8]; exact zd_a ⟨by omega, by omega⟩
              clear e6 e8
              refine ⟨⟨⟨⟨hI.1.1, ⟨hI.1.2.1.1, hI.1.2.1.2.1, ⟨show (0 : Int) ≤ x3 by omega, show x3 ≤ 20 by omega⟩, ⟨show (0 : Int) ≤ x4 by omega, show x4 ≤ 103 by omega⟩, ⟨show (0 : Int) ≤ x8 by omega, show x8 ≤ 6 by omega⟩, trivial⟩, fun f hf => nomatch hf⟩, hI.2⟩, g, k0, lt, a2, a3, show (0 : Int) ≤ x8 by omega, show (sw_k.getD k0 0 : Int) + x8 + 1 ≤ (sw_k.getD (k0 + 1) 0 : Nat) by omega⟩, ?_⟩
              show ((99900 : Int) + (-1000 * x3 + (-1 * x8 + 0))).toNat < ((99900 : Int) + (-1000 * x3 + (-1 * x5 + 0))).toNat
              omega
            · exact fig
      )⟩, (List.forall_mem_cons.mpr ⟨⟨zDke_wordAt_2, zEke_wordAt_2, zFke_wordAt_2, 28, by decide +kernel, (by
      intro xs η0 hlx hp hpp ys η hr hl hI hig
      match ys, hl, hI, hig with
      | [x1, x2, x3, x4, x5, x6, x7], _, hI, hig =>
        refine ⟨?_, ?_⟩
        · refine List.forall_mem_cons.mpr ⟨?_, List.forall_mem_cons.mpr ⟨?_, List.forall_mem_cons.mpr ⟨?_, fun _ h => nomatch h⟩⟩⟩
          · show (x5 ≤ x7) → (¬ x6 = 0) → (fun (_ : Nat) (y : Int) (η' : zE) => pQke_wordAt xs η0 y η') 0 x3 η
            have fig := hig.2
            have hig := hig.1
            intro c1 c2
            refine yj_a ?_ ?_
            · obtain ⟨g, k0, lt, a2, a3, a4, a5⟩ := hig
              have a2 : x3 = k0 := a2
              have a3 : x4 = (sw_k.getD k0 0 : Int) := a3
              have a4 : (sw_k.getD k0 0 : Int) + x5 + 1 = (sw_k.getD (k0 + 1) 0 : Nat) := a4
              have a5 : ¬ x6 = 0 → x5 = x2 - x1 := a5
              have s1 := sw_1 k0 lt
              have b1 : (0 : Int) ≤ x1 ∧ x1 ≤ 700 := hI.1.2.1.1
              have b2 : (0 : Int) ≤ x2 ∧ x2 ≤ 700 := hI.1.2.1.2.1
              have b7 : (0 : Int) ≤ x7 ∧ x7 ≤ 6 := hI.1.2.1.2.2.2.2.2.2.1
              exact ⟨g, show x3 ≤ 19 by omega⟩
            · have fig : yq_wX (xs.getD 0 0) (xs.getD 1 0) η0 x1 x2 x3 x5 x6 x7 η := fig
              obtain ⟨g, k0, lt, a2, a3, a4, a5⟩ := hig
              have a2 : x3 = k0 := a2
              have a3 : x4 = (sw_k.getD k0 0 : Int) := a3
              have a4 : (sw_k.getD k0 0 : Int) + x5 + 1 = (sw_k.getD (k0 + 1) 0 : Nat) := a4
              have s1 := sw_1 k0 lt
              have b1 : (0 : Int) ≤ x1 ∧ x1 ≤ 700 := hI.1.2.1.1
              have b2 : (0 : Int) ≤ x2 ∧ x2 ≤ 700 := hI.1.2.1.2.1
              have b7 : (0 : Int) ≤ x7 ∧ x7 ≤ 6 := hI.1.2.1.2.2.2.2.2.2.1
              have kk : x3.toNat = k0 := by omega
              have hl : ((sw_k.getD x3.toNat 0 : Nat) : Int) + x5 + 1 = (sw_k.getD (x3.toNat + 1) 0 : Nat) := by rw [kk]; omega
              exact qwX_y fig (by omega) (by omega) hl
          · show (x7 < x5) → (¬ x6 = 0) → ∀ x8 : Int, x8 = zd 0 1 x4 x7 → ∀ x9 : Int, x9 = η 2 (Int.toNat x8) → zok 0 x9 → ∀ x10 : Int, x10 = zd 0 1 x1 x7 → ∀ x11 : Int, x11 = η 1 (Int.toNat x10) → zok 0 x11 → (¬ x9 = x11) → ∀ x12 : Int, x12 = zd 0 1 x7 1 → (iCke_wordAt xs η0) 2 [x1, x2, x3, x4, x5, 0, x12] η ∧ (fun (_ : Nat) (_ : List Int) (_ : zE) => (0 : Nat)) 2 [x1, x2, x3, x4, x5, 0, x12] η < 1
            have fig := hig.2
            have hig := hig.1
            intro c1 c2 x8 e8 x9 e9 r9 x10 e10 x11 e11 r11 c3 x12 e12
            refine yj_c ?_ ?_
            · obtain ⟨g, k0, lt, a2, a3, a4, a5⟩ := hig
              have a2 : x3 = k0 := a2
              have a3 : x4 = (sw_k.getD k0 0 : Int) := a3
              have a4 : (sw_k.getD k0 0 : Int) + x5 + 1 = (sw_k.getD (k0 + 1) 0 : Nat) := a4
              have a5 : ¬ x6 = 0 → x5 = x2 - x1 := a5
              have s1 := sw_1 k0 lt
              have b1 : (0 : Int) ≤ x1 ∧ x1 ≤ 700 := hI.1.2.1.1
              have b2 : (0 : Int) ≤ x2 ∧ x2 ≤ 700 := hI.1.2.1.2.1
              have b7 : (0 : Int) ≤ x7 ∧ x7 ≤ 6 := hI.1.2.1.2.2.2.2.2.2.1
              exact ⟨⟨g, k0, lt, a2, a3, a4, fun w => absurd rfl w⟩, Nat.zero_lt_one⟩
            · have fig : yq_wX (xs.getD 0 0) (xs.getD 1 0) η0 x1 x2 x3 x5 x6 x7 η := fig
              obtain ⟨g, k0, lt, a2, a3, a4, a5⟩ := hig
              have a2 : x3 = k0 := a2
              have a3 : x4 = (sw_k.getD k0 0 : Int) := a3
              have a4 : (sw_k.getD k0 0 : Int) + x5 + 1 = (sw_k.getD (k0 + 1) 0 : Nat) := a4
              have s1 := sw_1 k0 lt
              have b1 : (0 : Int) ≤ x1 ∧ x1 ≤ 700 := hI.1.2.1.1
              have b2 : (0 : Int) ≤ x2 ∧ x2 ≤ 700 := hI.1.2.1.2.1
              have b7 : (0 : Int) ≤ x7 ∧ x7 ≤ 6 := hI.1.2.1.2.2.2.2.2.2.1
              have kk : x3.toNat = k0 := by omega
              have hl : ((sw_k.getD x3.toNat 0 : Nat) : Int) + x5 + 1 = (sw_k.getD (x3.toNat + 1) 0 : Nat) := by rw [kk]; omega
              have h8 : x8 = x4 + x7 := by rw [e8]; exact zd_a ⟨by omega, by omega⟩
              have h10 : x10 = x1 + x7 := by rw [e10]; exact zd_a ⟨by omega, by omega⟩
              have h12 : x12 = x7 + 1 := by rw [e12]; exact zd_a ⟨by omega, by omega⟩
              have e9 : x9 = η 2 x8.toNat := e9
              have e11 : x11 = η 1 x10.toNat := e11
              have hx : x9 = wd_k.getD (sw_k.getD x3.toNat 0 + x7.toNat) 0 := by
                rw [e9, kk, ← g.2.2 _ (by omega), show sw_k.getD k0 0 + x7.toNat = x8.toNat by omega]
              show yq_wX (xs.getD 0 0) (xs.getD 1 0) η0 x1 x2 x3 x5 0 x12 η
              rw [h12]
              exact qwX_f fig (by omega) (by omega) hx (by rw [← h10, ← e11]; omega) b1.1
          · show (x7 < x5) → (¬ x6 = 0) → ∀ x8 : Int, x8 = zd 0 1 x4 x7 → ∀ x9 : Int, x9 = η 2 (Int.toNat x8) → zok 0 x9 → ∀ x10 : Int, x10 = zd 0 1 x1 x7 → ∀ x11 : Int, x11 = η 1 (Int.toNat x10) → zok 0 x11 → (x9 = x11) → ∀ x12 : Int, x12 = zd 0 1 x7 1 → (iCke_wordAt xs η0) 2 [x1, x2, x3, x4, x5, 1, x12] η ∧ (fun (_ : Nat) (_ : List Int) (_ : zE) => (0 : Nat)) 2 [x1, x2, x3, x4, x5, 1, x12] η < 1
            have fig := hig.2
            have hig := hig.1
            intro c1 c2 x8 e8 x9 e9 r9 x10 e10 x11 e11 r11 c3 x12 e12
            refine yj_c ?_ ?_
            · obtain ⟨g, k0, lt, a2, a3, a4, a5⟩ := hig
              have a2 : x3 = k0 := a2
              have a3 : x4 = (sw_k.getD k0 0 : Int) := a3
              have a4 : (sw_k.getD k0 0 : Int) + x5 + 1 = (sw_k.getD (k0 + 1) 0 : Nat) := a4
              have a5 : ¬ x6 = 0 → x5 = x2 - x1 := a5
              have s1 := sw_1 k0 lt
              have b1 : (0 : Int) ≤ x1 ∧ x1 ≤ 700 := hI.1.2.1.1
              have b2 : (0 : Int) ≤ x2 ∧ x2 ≤ 700 := hI.1.2.1.2.1
              have b7 : (0 : Int) ≤ x7 ∧ x7 ≤ 6 := hI.1.2.1.2.2.2.2.2.2.1
              exact ⟨⟨g, k0, lt, a2, a3, a4, fun _ => a5 c2⟩, Nat.zero_lt_one⟩
            · have fig : yq_wX (xs.getD 0 0) (xs.getD 1 0) η0 x1 x2 x3 x5 x6 x7 η := fig
              obtain ⟨g, k0, lt, a2, a3, a4, a5⟩ := hig
              have a2 : x3 = k0 := a2
              have a3 : x4 = (sw_k.getD k0 0 : Int) := a3
              have a4 : (sw_k.getD k0 0 : Int) + x5 + 1 = (sw_k.getD (k0 + 1) 0 : Nat) := a4
              have s1 := sw_1 k0 lt
              have b1 : (0 : Int) ≤ x1 ∧ x1 ≤ 700 := hI.1.2.1.1
              have b2 : (0 : Int) ≤ x2 ∧ x2 ≤ 700 := hI.1.2.1.2.1
              have b7 : (0 : Int) ≤ x7 ∧ x7 ≤ 6 := hI.1.2.1.2.2.2.2.2.2.1
              have kk : x3.toNat = k0 := by omega
              have hl : ((sw_k.getD x3.toNat 0 : Nat) : Int) + x5 + 1 = (sw_k.getD (x3.toNat + 1) 0 : Nat) := by rw [kk]; omega
              have h8 : x8 = x4 + x7 := by rw [e8]; exact zd_a ⟨by omega, by omega⟩
              have h10 : x10 = x1 + x7 := by rw [e10]; exact zd_a ⟨by omega, by omega⟩
              have h12 : x12 = x7 + 1 := by rw [e12]; exact zd_a ⟨by omega, by omega⟩
              have e9 : x9 = η 2 x8.toNat := e9
              have e11 : x11 = η 1 x10.toNat := e11
              have hx : x9 = wd_k.getD (sw_k.getD x3.toNat 0 + x7.toNat) 0 := by
                rw [e9, kk, ← g.2.2 _ (by omega), show sw_k.getD k0 0 + x7.toNat = x8.toNat by omega]
              show yq_wX (xs.getD 0 0) (xs.getD 1 0) η0 x1 x2 x3 x5 1 x12 η
              rw [h12]
              exact qwX_t fig (by omega) (by decide) (by omega) hx (by rw [← h10, ← e11]; omega) b1.1
        · refine List.forall_mem_cons.mpr ⟨?_, List.forall_mem_cons.mpr ⟨?_, List.forall_mem_cons.mpr ⟨?_, List.forall_mem_cons.mpr ⟨?_, fun _ h => nomatch h⟩⟩⟩⟩
          · show (x5 ≤ x7) → (x6 = 0) → ∀ x8 : Int, x8 = zd 0 1 x5 1 → ∀ x9 : Int, x9 = zd 0 1 x4 x8 → ∀ x10 : Int, x10 = zd 0 1 x3 1 → (fun c ys η1 => zsI wl_ke zTr zVke_wordAt zMke_wordAt η0 c ys η1 ∧ iCke_wordAt xs η0 c ys η1) 0 [x1, x2, x10, x9] η ∧ (zsM zVke_wordAt) 0 [x1, x2, x10, x9] η < zsM zVke_wordAt 2 [x1, x2, x3, x4, x5, x6, x7] η
            have fig := hig.2
            have hig := hig.1
            intro c1 c2 x8 e8 x9 e9 x10 e10
            refine yj_d ?_ ?_
            · obtain ⟨g, k0, lt, a2, a3, a4, a5⟩ := hig
              have a2 : x3 = k0 := a2
              have a3 : x4 = (sw_k.getD k0 0 : Int) := a3
              have a4 : (sw_k.getD k0 0 : Int) + x5 + 1 = (sw_k.getD (k0 + 1) 0 : Nat) := a4
              have a5 : ¬ x6 = 0 → x5 = x2 - x1 := a5
              have s1 := sw_1 k0 lt
              have b1 : (0 : Int) ≤ x1 ∧ x1 ≤ 700 := hI.1.2.1.1
              have b2 : (0 : Int) ≤ x2 ∧ x2 ≤ 700 := hI.1.2.1.2.1
              have b7 : (0 : Int) ≤ x7 ∧ x7 ≤ 6 := hI.1.2.1.2.2.2.2.2.2.1
              have h8 : x8 = x5 + 1 := by rw [e8]; exact zd_a ⟨by omega, by omega⟩
              have h9 : x9 = x4 + x8 := by rw [e9]; exact zd_a ⟨by omega, by omega⟩
              have h10 : x10 = x3 + 1 := by rw [e10]; exact zd_a ⟨by omega, by omega⟩
              clear e8 e9 e10
              refine ⟨⟨⟨⟨hI.1.1, ⟨hI.1.2.1.1, hI.1.2.1.2.1, ⟨show (0 : Int) ≤ x10 by omega, show x10 ≤ 20 by omega⟩, ⟨show (0 : Int) ≤ x9 by omega, show x9 ≤ 104 by omega⟩, trivial⟩, fun f hf => nomatch hf⟩, hI.2⟩, g, k0 + 1, lt, show x10 = ((k0 + 1 : Nat) : Int) by omega, show x9 = (sw_k.getD (k0 + 1) 0 : Int) by omega⟩, ?_⟩
              show ((100000 : Int) + (-1000 * x10 + 0)).toNat < ((99500 : Int) + (-1000 * x3 + (-1 * x7 + 0))).toNat
              omega
            · have fig : yq_wX (xs.getD 0 0) (xs.getD 1 0) η0 x1 x2 x3 x5 x6 x7 η := fig
              obtain ⟨g, k0, lt, a2, a3, a4, a5⟩ := hig
              have a2 : x3 = k0 := a2
              have a3 : x4 = (sw_k.getD k0 0 : Int) := a3
              have a4 : (sw_k.getD k0 0 : Int) + x5 + 1 = (sw_k.getD (k0 + 1) 0 : Nat) := a4
              have s1 := sw_1 k0 lt
              have b1 : (0 : Int) ≤ x1 ∧ x1 ≤ 700 := hI.1.2.1.1
              have b2 : (0 : Int) ≤ x2 ∧ x2 ≤ 700 := hI.1.2.1.2.1
              have b7 : (0 : Int) ≤ x7 ∧ x7 ≤ 6 := hI.1.2.1.2.2.2.2.2.2.1
              have kk : x3.toNat = k0 := by omega
              have hl : ((sw_k.getD x3.toNat 0 : Nat) : Int) + x5 + 1 = (sw_k.getD (x3.toNat + 1) 0 : Nat) := by rw [kk]; omega
              have h10 : x10 = x3 + 1 := by rw [e10]; exact zd_a ⟨by omega, by omega⟩
              show yq_wI (xs.getD 0 0) (xs.getD 1 0) η0 x1 x2 x10 η
              rw [h10]
              exact qwX_n fig (by omega)
          · show (x7 < x5) → (x6 = 0) → (x6 = 0) → ∀ x8 : Int, x8 = zd 0 1 x5 1 → ∀ x9 : Int, x9 = zd 0 1 x4 x8 → ∀ x10 : Int, x10 = zd 0 1 x3 1 → (fun c ys η1 => zsI wl_ke zTr zVke_wordAt zMke_wordAt η0 c ys η1 ∧ iCke_wordAt xs η0 c ys η1) 0 [x1, x2, x10, x9] η ∧ (zsM zVke_wordAt) 0 [x1, x2, x10, x9] η < zsM zVke_wordAt 2 [x1, x2, x3, x4, x5, x6, x7] η
            have fig := hig.2
            have hig := hig.1
            intro c1 c2 c3 x8 e8 x9 e9 x10 e10
            refine yj_d ?_ ?_
            · obtain ⟨g, k0, lt, a2, a3, a4, a5⟩ := hig
              have a2 : x3 = k0 := a2
              have a3 : x4 = (sw_k.getD k0 0 : Int) := a3
              have a4 : (sw_k.getD k0 0 : Int) + x5 + 1 = (sw_k.getD (k0 + 1) 0 : Nat) := a4
              have a5 : ¬ x6 = 0 → x5 = x2 - x1 := a5
              have s1 := sw_1 k0 lt
              have b1 : (0 : Int) ≤ x1 ∧ x1 ≤ 700 := hI.1.2.1.1
              have b2 : (0 : Int) ≤ x2 ∧ x2 ≤ 700 := hI.1.2.1.2.1
              have b7 : (0 : Int) ≤ x7 ∧ x7 ≤ 6 := hI.1.2.1.2.2.2.2.2.2.1
              have h8 : x8 = x5 + 1 := by rw [e8]; exact zd_a ⟨by omega, by omega⟩
              have h9 : x9 = x4 + x8 := by rw [e9]; exact zd_a ⟨by omega, by omega⟩
              have h10 : x10 = x3 + 1 := by rw [e10]; exact zd_a ⟨by omega, by omega⟩
              clear e8 e9 e10
              refine ⟨⟨⟨⟨hI.1.1, ⟨hI.1.2.1.1, hI.1.2.1.2.1, ⟨show (0 : Int) ≤ x10 by omega, show x10 ≤ 20 by omega⟩, ⟨show (0 : Int) ≤ x9 by omega, show x9 ≤ 104 by omega⟩, trivial⟩, fun f hf => nomatch hf⟩, hI.2⟩, g, k0 + 1, lt, show x10 = ((k0 + 1 : Nat) : Int) by omega, show x9 = (sw_k.getD (k0 + 1) 0 : Int) by omega⟩, ?_⟩
              show ((100000 : Int) + (-1000 * x10 + 0)).toNat < ((99500 : Int) + (-1000 * x3 + (-1 * x7 + 0))).toNat
              omega
            · have fig : yq_wX (xs.getD 0 0) (xs.getD 1 0) η0 x1 x2 x3 x5 x6 x7 η := fig
              obtain ⟨g, k0, lt, a2, a3, a4, a5⟩ := hig
              have a2 : x3 = k0 := a2
              have a3 : x4 = (sw_k.getD k0 0 : Int) := a3
              have a4 : (sw_k.getD k0 0 : Int) + x5 + 1 = (sw_k.getD (k0 + 1) 0 : Nat) := a4
              have s1 := sw_1 k0 lt
              have b1 : (0 : Int) ≤ x1 ∧ x1 ≤ 700 := hI.1.2.1.1
              have b2 : (0 : Int) ≤ x2 ∧ x2 ≤ 700 := hI.1.2.1.2.1
              have b7 : (0 : Int) ≤ x7 ∧ x7 ≤ 6 := hI.1.2.1.2.2.2.2.2.2.1
              have kk : x3.toNat = k0 := by omega
              have hl : ((sw_k.getD x3.toNat 0 : Nat) : Int) + x5 + 1 = (sw_k.getD (x3.toNat + 1) 0 : Nat) := by rw [kk]; omega
              have h10 : x10 = x3 + 1 := by rw [e10]; exact zd_a ⟨by omega, by omega⟩
              show yq_wI (xs.getD 0 0) (xs.getD 1 0) η0 x1 x2 x10 η
              rw [h10]
              exact qwX_n fig (by omega)
          · show (x7 < x5) → (¬ x6 = 0) → ∀ x8 : Int, x8 = zd 0 1 x4 x7 → (0 : Int) ≤ x8 ∧ (x8 : Int) < 104
            have fig := hig.2
            have hig := hig.1
            intro c1 c2 x8 e8
            obtain ⟨g, k0, lt, a2, a3, a4, a5⟩ := hig
            have a2 : x3 = k0 := a2
            have a3 : x4 = (sw_k.getD k0 0 : Int) := a3
            have a4 : (sw_k.getD k0 0 : Int) + x5 + 1 = (sw_k.getD (k0 + 1) 0 : Nat) := a4
            have a5 : ¬ x6 = 0 → x5 = x2 - x1 := a5
            have s1 := sw_1 k0 lt
            have b1 : (0 : Int) ≤ x1 ∧ x1 ≤ 700 := hI.1.2.1.1
            have b2 : (0 : Int) ≤ x2 ∧ x2 ≤ 700 := hI.1.2.1.2.1
            have b7 : (0 : Int) ≤ x7 ∧ x7 ≤ 6 := hI.1.2.1.2.2.2.2.2.2.1
            have b5 : x5 ≤ 6 := hI.1.2.1.2.2.2.2.1.2
            have h8 : x8 = x4 + x7 := by rw [e8]; exact zd_a ⟨by omega, by omega⟩
            exact ⟨by omega, by omega⟩
          · show (x7 < x5) → (¬ x6 = 0) → ∀ x8 : Int, x8 = zd 0 1 x4 x7 → ∀ x9 : Int, x9 = η 2 (Int.toNat x8) → zok 0 x9 → ∀ x10 : Int, x10 = zd 0 1 x1 x7 → (0 : Int) ≤ x10 ∧ (x10 : Int) < 700
            have fig := hig.2
            have hig := hig.1
            intro c1 c2 x8 e8 x9 e9 r9 x10 e10
            obtain ⟨g, k0, lt, a2, a3, a4, a5⟩ := hig
            have a2 : x3 = k0 := a2
            have a3 : x4 = (sw_k.getD k0 0 : Int) := a3
            have a4 : (sw_k.getD k0 0 : Int) + x5 + 1 = (sw_k.getD (k0 + 1) 0 : Nat) := a4
            have a5 : ¬ x6 = 0 → x5 = x2 - x1 := a5
            have s1 := sw_1 k0 lt
            have b1 : (0 : Int) ≤ x1 ∧ x1 ≤ 700 := hI.1.2.1.1
            have b2 : (0 : Int) ≤ x2 ∧ x2 ≤ 700 := hI.1.2.1.2.1
            have b7 : (0 : Int) ≤ x7 ∧ x7 ≤ 6 := hI.1.2.1.2.2.2.2.2.2.1
            have q := a5 c2
            have h10 : x10 = x1 + x7 := by rw [e10]; exact zd_a ⟨by omega, by omega⟩
            exact ⟨by omega, by omega⟩
      )⟩, (fun _ h => nomatch h)⟩)⟩)⟩))
