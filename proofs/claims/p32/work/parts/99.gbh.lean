def tm_u : zTm := .branch (nat_lit 47) (.branch (nat_lit 19) (.branch (nat_lit 9) (.branch (nat_lit 4) (.branch (nat_lit 2) (.branch (nat_lit 1) (.leaf (nat_lit 0, nat_lit 7, nat_lit 17, [nat_lit 3, nat_lit 0, nat_lit 0, nat_lit 0, nat_lit 3, nat_lit 3, nat_lit 3, nat_lit 3, nat_lit 3, nat_lit 1, nat_lit 0, nat_lit 3, nat_lit 3, nat_lit 3, nat_lit 3, nat_lit 3, nat_lit 3])) (.leaf (nat_lit 1, nat_lit 101, nat_lit 700, []))) (.branch (nat_lit 3) (.leaf (nat_lit 2, nat_lit 4, nat_lit 15, [nat_lit 0, nat_lit 0, nat_lit 0, nat_lit 0, nat_lit 0, nat_lit 0, nat_lit 0, nat_lit 0, nat_lit 3, nat_lit 3, nat_lit 3, nat_lit 3, nat_lit 3, nat_lit 3, nat_lit 3])) (.leaf (nat_lit 3, nat_lit 100, nat_lit 12, [])))) (.branch (nat_lit 6) (.branch (nat_lit 5) (.leaf (nat_lit 4, nat_lit 100, nat_lit 12, [])) (.leaf (nat_lit 5, nat_lit 100, nat_lit 12, []))) (.branch (nat_lit 7) (.leaf (nat_lit 6, nat_lit 104, nat_lit 4, [])) (.branch (nat_lit 8) (.leaf (nat_lit 7, nat_lit 100, nat_lit 5, [])) (.leaf (nat_lit 8, nat_lit 100, nat_lit 5, [])))))) (.branch (nat_lit 14) (.branch (nat_lit 11) (.branch (nat_lit 10) (.leaf (nat_lit 9, nat_lit 100, nat_lit 5, [])) (.leaf (nat_lit 10, nat_lit 100, nat_lit 5, []))) (.branch (nat_lit 12) (.leaf (nat_lit 11, nat_lit 104, nat_lit 4, [])) (.branch (nat_lit 13) (.leaf (nat_lit 12, nat_lit 100, nat_lit 3, [])) (.leaf (nat_lit 13, nat_lit 100, nat_lit 3, []))))) (.branch (nat_lit 16) (.branch (nat_lit 15) (.leaf (nat_lit 14, nat_lit 100, nat_lit 3, [])) (.leaf (nat_lit 15, nat_lit 100, nat_lit 3, []))) (.branch (nat_lit 17) (.leaf (nat_lit 16, nat_lit 100, nat_lit 4, [])) (.branch (nat_lit 18) (.leaf (nat_lit 17, nat_lit 0, nat_lit 7, [nat_lit 0, nat_lit 0, nat_lit 3, nat_lit 3, nat_lit 3, nat_lit 3, nat_lit 3])) (.leaf (nat_lit 18, nat_lit 100, nat_lit 64, []))))))) (.branch (nat_lit 37) (.branch (nat_lit 32) (.branch (nat_lit 21) (.branch (nat_lit 20) (.leaf (nat_lit 19, nat_lit 100, nat_lit 3, [])) (.leaf (nat_lit 20, nat_lit 100, nat_lit 3, []))) (.branch (nat_lit 22) (.leaf (nat_lit 21, nat_lit 103, nat_lit 7, [])) (.leaf (nat_lit 22, nat_lit 103, nat_lit 64, [])))) (.branch (nat_lit 34) (.branch (nat_lit 33) (.leaf (nat_lit 32, nat_lit 4, nat_lit 15, [nat_lit 0, nat_lit 0, nat_lit 0, nat_lit 0, nat_lit 0, nat_lit 0, nat_lit 0, nat_lit 0, nat_lit 3, nat_lit 3, nat_lit 3, nat_lit 3, nat_lit 3, nat_lit 3, nat_lit 3])) (.leaf (nat_lit 33, nat_lit 100, nat_lit 12, []))) (.branch (nat_lit 35) (.leaf (nat_lit 34, nat_lit 100, nat_lit 12, [])) (.branch (nat_lit 36) (.leaf (nat_lit 35, nat_lit 100, nat_lit 12, [])) (.leaf (nat_lit 36, nat_lit 104, nat_lit 4, [])))))) (.branch (nat_lit 42) (.branch (nat_lit 39) (.branch (nat_lit 38) (.leaf (nat_lit 37, nat_lit 100, nat_lit 5, [])) (.leaf (nat_lit 38, nat_lit 100, nat_lit 5, []))) (.branch (nat_lit 40) (.leaf (nat_lit 39, nat_lit 100, nat_lit 5, [])) (.branch (nat_lit 41) (.leaf (nat_lit 40, nat_lit 100, nat_lit 5, [])) (.leaf (nat_lit 41, nat_lit 104, nat_lit 4, []))))) (.branch (nat_lit 44) (.branch (nat_lit 43) (.leaf (nat_lit 42, nat_lit 100, nat_lit 3, [])) (.leaf (nat_lit 43, nat_lit 100, nat_lit 3, []))) (.branch (nat_lit 45) (.leaf (nat_lit 44, nat_lit 100, nat_lit 3, [])) (.branch (nat_lit 46) (.leaf (nat_lit 45, nat_lit 100, nat_lit 3, [])) (.leaf (nat_lit 46, nat_lit 100, nat_lit 4, [])))))))) (.branch (nat_lit 79) (.branch (nat_lit 63) (.branch (nat_lit 51) (.branch (nat_lit 49) (.branch (nat_lit 48) (.leaf (nat_lit 47, nat_lit 0, nat_lit 7, [nat_lit 0, nat_lit 0, nat_lit 3, nat_lit 3, nat_lit 3, nat_lit 3, nat_lit 3])) (.leaf (nat_lit 48, nat_lit 100, nat_lit 64, []))) (.branch (nat_lit 50) (.leaf (nat_lit 49, nat_lit 100, nat_lit 3, [])) (.leaf (nat_lit 50, nat_lit 100, nat_lit 3, [])))) (.branch (nat_lit 60) (.branch (nat_lit 52) (.leaf (nat_lit 51, nat_lit 103, nat_lit 7, [])) (.leaf (nat_lit 52, nat_lit 103, nat_lit 64, []))) (.branch (nat_lit 61) (.leaf (nat_lit 60, nat_lit 3, nat_lit 14, [nat_lit 0, nat_lit 0, nat_lit 3, nat_lit 3, nat_lit 0, nat_lit 0, nat_lit 0, nat_lit 0, nat_lit 0, nat_lit 3, nat_lit 3, nat_lit 3, nat_lit 0, nat_lit 0])) (.branch (nat_lit 62) (.leaf (nat_lit 61, nat_lit 102, nat_lit 3, [])) (.leaf (nat_lit 62, nat_lit 100, nat_lit 20, [])))))) (.branch (nat_lit 74) (.branch (nat_lit 71) (.branch (nat_lit 70) (.leaf (nat_lit 63, nat_lit 100, nat_lit 72, [])) (.leaf (nat_lit 70, nat_lit 1, nat_lit 11, [nat_lit 0, nat_lit 0, nat_lit 0, nat_lit 0, nat_lit 0, nat_lit 0, nat_lit 0, nat_lit 0, nat_lit 3, nat_lit 3, nat_lit 3]))) (.branch (nat_lit 72) (.leaf (nat_lit 71, nat_lit 100, nat_lit 12, [])) (.branch (nat_lit 73) (.leaf (nat_lit 72, nat_lit 100, nat_lit 4, [])) (.leaf (nat_lit 73, nat_lit 100, nat_lit 4, []))))) (.branch (nat_lit 76) (.branch (nat_lit 75) (.leaf (nat_lit 74, nat_lit 1, nat_lit 11, [nat_lit 0, nat_lit 0, nat_lit 0, nat_lit 0, nat_lit 0, nat_lit 0, nat_lit 0, nat_lit 0, nat_lit 3, nat_lit 3, nat_lit 3])) (.leaf (nat_lit 75, nat_lit 100, nat_lit 12, []))) (.branch (nat_lit 77) (.leaf (nat_lit 76, nat_lit 100, nat_lit 4, [])) (.branch (nat_lit 78) (.leaf (nat_lit 77, nat_lit 100, nat_lit 4, [])) (.leaf (nat_lit 78, nat_lit 1, nat_lit 11, [nat_lit 0, nat_lit 0, nat_lit 0, nat_lit 0, nat_lit 0, nat_lit 0, nat_lit 0, nat_lit 0, nat_lit 3, nat_lit 3, nat_lit 3]))))))) (.branch (nat_lit 92) (.branch (nat_lit 83) (.branch (nat_lit 81) (.branch (nat_lit 80) (.leaf (nat_lit 79, nat_lit 100, nat_lit 12, [])) (.leaf (nat_lit 80, nat_lit 100, nat_lit 4, []))) (.branch (nat_lit 82) (.leaf (nat_lit 81, nat_lit 100, nat_lit 4, [])) (.leaf (nat_lit 82, nat_lit 1, nat_lit 11, [nat_lit 0, nat_lit 0, nat_lit 0, nat_lit 0, nat_lit 0, nat_lit 0, nat_lit 0, nat_lit 0, nat_lit 3, nat_lit 3, nat_lit 3])))) (.branch (nat_lit 85) (.branch (nat_lit 84) (.leaf (nat_lit 83, nat_lit 100, nat_lit 12, [])) (.leaf (nat_lit 84, nat_lit 100, nat_lit 4, []))) (.branch (nat_lit 90) (.leaf (nat_lit 85, nat_lit 100, nat_lit 4, [])) (.branch (nat_lit 91) (.leaf (nat_lit 90, nat_lit 2, nat_lit 12, [nat_lit 3, nat_lit 3, nat_lit 1, nat_lit 1, nat_lit 0, nat_lit 0, nat_lit 0, nat_lit 0, nat_lit 0, nat_lit 0, nat_lit 1, nat_lit 2])) (.leaf (nat_lit 91, nat_lit 5, nat_lit 4, [nat_lit 0, nat_lit 3, nat_lit 3, nat_lit 3])))))) (.branch (nat_lit 97) (.branch (nat_lit 94) (.branch (nat_lit 93) (.leaf (nat_lit 92, nat_lit 100, nat_lit 20, [])) (.leaf (nat_lit 93, nat_lit 100, nat_lit 20, []))) (.branch (nat_lit 95) (.leaf (nat_lit 94, nat_lit 100, nat_lit 20, [])) (.branch (nat_lit 96) (.leaf (nat_lit 95, nat_lit 6, nat_lit 7, [nat_lit 0, nat_lit 0, nat_lit 3, nat_lit 3, nat_lit 3, nat_lit 3, nat_lit 3])) (.leaf (nat_lit 96, nat_lit 100, nat_lit 24, []))))) (.branch (nat_lit 99) (.branch (nat_lit 98) (.leaf (nat_lit 97, nat_lit 100, nat_lit 24, [])) (.leaf (nat_lit 98, nat_lit 102, nat_lit 24, []))) (.branch (nat_lit 100) (.leaf (nat_lit 99, nat_lit 100, nat_lit 24, [])) (.branch (nat_lit 101) (.leaf (nat_lit 100, nat_lit 102, nat_lit 24, [])) (.leaf (nat_lit 101, nat_lit 100, nat_lit 61, []))))))))
def wl_u : wL := [(nat_lit 0, nat_lit 1, nat_lit 2, (.ofNat (nat_lit 0)), (.ofNat (nat_lit 700))),
  (nat_lit 0, nat_lit 10, nat_lit 11, (.negSucc (nat_lit 0)), (.ofNat (nat_lit 24))),
  (nat_lit 2, nat_lit 1, nat_lit 2, (.ofNat (nat_lit 0)), (.ofNat (nat_lit 12))),
  (nat_lit 2, nat_lit 2, nat_lit 3, (.ofNat (nat_lit 0)), (.ofNat (nat_lit 4))),
  (nat_lit 2, nat_lit 3, nat_lit 4, (.ofNat (nat_lit 0)), (.ofNat (nat_lit 4))),
  (nat_lit 5, nat_lit 0, nat_lit 12, (.negSucc (nat_lit 0)), (.ofNat (nat_lit 3))),
  (nat_lit 17, nat_lit 0, nat_lit 1, (.ofNat (nat_lit 0)), (.ofNat (nat_lit 64))),
  (nat_lit 17, nat_lit 1, nat_lit 2, (.ofNat (nat_lit 0)), (.ofNat (nat_lit 64))),
  (nat_lit 19, nat_lit 0, nat_lit 3, (.ofNat (nat_lit 0)), (.ofNat (nat_lit 64))),
  (nat_lit 20, nat_lit 0, nat_lit 3, (.ofNat (nat_lit 0)), (.ofNat (nat_lit 64))),
  (nat_lit 32, nat_lit 1, nat_lit 2, (.ofNat (nat_lit 0)), (.ofNat (nat_lit 12))),
  (nat_lit 32, nat_lit 2, nat_lit 3, (.ofNat (nat_lit 0)), (.ofNat (nat_lit 4))),
  (nat_lit 32, nat_lit 3, nat_lit 4, (.ofNat (nat_lit 0)), (.ofNat (nat_lit 4))),
  (nat_lit 35, nat_lit 0, nat_lit 12, (.negSucc (nat_lit 0)), (.ofNat (nat_lit 3))),
  (nat_lit 47, nat_lit 0, nat_lit 1, (.ofNat (nat_lit 0)), (.ofNat (nat_lit 64))),
  (nat_lit 47, nat_lit 1, nat_lit 2, (.ofNat (nat_lit 0)), (.ofNat (nat_lit 64))),
  (nat_lit 49, nat_lit 0, nat_lit 3, (.ofNat (nat_lit 0)), (.ofNat (nat_lit 64))),
  (nat_lit 50, nat_lit 0, nat_lit 3, (.ofNat (nat_lit 0)), (.ofNat (nat_lit 64))),
  (nat_lit 60, nat_lit 0, nat_lit 1, (.ofNat (nat_lit 0)), (.ofNat (nat_lit 3))),
  (nat_lit 60, nat_lit 1, nat_lit 2, (.negSucc (nat_lit 0)), (.ofNat (nat_lit 700))),
  (nat_lit 60, nat_lit 4, nat_lit 5, (.ofNat (nat_lit 0)), (.ofNat (nat_lit 700))),
  (nat_lit 60, nat_lit 5, nat_lit 6, (.ofNat (nat_lit 0)), (.ofNat (nat_lit 700))),
  (nat_lit 60, nat_lit 6, nat_lit 7, (.ofNat (nat_lit 0)), (.ofNat (nat_lit 22))),
  (nat_lit 60, nat_lit 7, nat_lit 8, (.ofNat (nat_lit 0)), (.ofNat (nat_lit 700))),
  (nat_lit 60, nat_lit 12, nat_lit 13, (.ofNat (nat_lit 0)), (.ofNat (nat_lit 72))),
  (nat_lit 63, nat_lit 0, nat_lit 72, (.ofNat (nat_lit 0)), (.ofNat (nat_lit 13))),
  (nat_lit 70, nat_lit 0, nat_lit 1, (.negSucc (nat_lit 1)), (.ofNat (nat_lit 11))),
  (nat_lit 74, nat_lit 0, nat_lit 1, (.negSucc (nat_lit 1)), (.ofNat (nat_lit 11))),
  (nat_lit 78, nat_lit 0, nat_lit 1, (.negSucc (nat_lit 1)), (.ofNat (nat_lit 11))),
  (nat_lit 82, nat_lit 0, nat_lit 1, (.negSucc (nat_lit 1)), (.ofNat (nat_lit 11))),
  (nat_lit 91, nat_lit 0, nat_lit 1, (.ofNat (nat_lit 0)), (.ofNat (nat_lit 20))),
  (nat_lit 92, nat_lit 0, nat_lit 20, (.negSucc (nat_lit 1)), (.ofNat (nat_lit 11))),
  (nat_lit 95, nat_lit 0, nat_lit 1, (.ofNat (nat_lit 0)), (.ofNat (nat_lit 24))),
  (nat_lit 95, nat_lit 1, nat_lit 2, (.negSucc (nat_lit 0)), (.ofNat (nat_lit 24))),
  (nat_lit 96, nat_lit 0, nat_lit 24, (.ofNat (nat_lit 0)), (.ofNat (nat_lit 60))),
  (nat_lit 99, nat_lit 0, nat_lit 24, (.negSucc (nat_lit 0)), (.ofNat (nat_lit 23)))]
def gr_u : List zCe := []
theorem yj_a {A B : Prop} (a : A) (b : B) : A ∧ B := ⟨a, b⟩
theorem yj_b {Z A B : Prop} (a : Z ∧ A) (b : B) : Z ∧ A ∧ B := ⟨a.1, a.2, b⟩
theorem yj_c {A B C : Prop} (a : A ∧ C) (b : B) : (A ∧ B) ∧ C := ⟨⟨a.1, b⟩, a.2⟩
theorem yj_d {Z A B C : Prop} (a : (Z ∧ A) ∧ C) (b : B) : (Z ∧ A ∧ B) ∧ C := ⟨⟨a.1.1, a.1.2, b⟩, a.2⟩
def G_u : zE → Prop := fun _ => True
theorem gk_u : zGk G_u gr_u := fun _ _ _ _ => trivial
def zPu_flaw : zPq := ([((.ofNat (nat_lit 1)), (.ofNat (nat_lit 3))), ((.ofNat (nat_lit 0)), (.ofNat (nat_lit 700)))], [])
def zOu_flaw : zPo := (((.ofNat (nat_lit 0)), (.ofNat (nat_lit 0))), [(nat_lit 60, nat_lit 0, (.ofNat (nat_lit 1)), (.ofNat (nat_lit 3)))], [])
def zMu_flaw : List zCe := [(nat_lit 60, nat_lit 1), (nat_lit 60, nat_lit 2)]
def pPu_flaw : List Int → zE → Prop := (fun _ η => G_u η)
def pQu_flaw : List Int → zE → Int → zE → Prop := fun xs η y η' => η' = yp_flw (xs.getD 0 0) (xs.getD 1 0) η
def pCu_flaw : Nat → List Int → zE → Prop := fun c => match c with
  | _ => fun _ _ => True
def qCu_flaw : Nat → List Int → zE → Int → zE → Prop := fun c => match c with
  | _ => fun _ _ _ _ => True
def iCu_flaw : List Int → zE → Nat → List Int → zE → Prop := fun xs η0 c => match c with
  | _ => fun _ _ => True
def zVu_flaw : List zIv := []
def zDu_flaw : List (List zK) := []
def zEu_flaw : List (List zK) := [[(nat_lit 11, nat_lit 0, [(nat_lit 0, (.ofNat (nat_lit 0)))]), (nat_lit 6, nat_lit 1, [(nat_lit 3, (.ofNat (nat_lit 0))), (nat_lit 0, (.ofNat (nat_lit 0)))]), (nat_lit 4, nat_lit 0, [(nat_lit 60, (.ofNat (nat_lit 0))), (nat_lit 0, (.ofNat (nat_lit 0)))])],
  [(nat_lit 11, nat_lit 0, [(nat_lit 0, (.ofNat (nat_lit 0)))]), (nat_lit 5, nat_lit 0, [(nat_lit 60, (.ofNat (nat_lit 0))), (nat_lit 0, (.ofNat (nat_lit 1))), (nat_lit 2, (.ofNat (nat_lit 0)))]), (nat_lit 5, nat_lit 0, [(nat_lit 60, (.ofNat (nat_lit 0))), (nat_lit 0, (.ofNat (nat_lit 0))), (nat_lit 1, (.ofNat (nat_lit 0)))]), (nat_lit 6, nat_lit 0, [(nat_lit 3, (.ofNat (nat_lit 0))), (nat_lit 0, (.ofNat (nat_lit 0)))]), (nat_lit 4, nat_lit 0, [(nat_lit 60, (.ofNat (nat_lit 0))), (nat_lit 0, (.ofNat (nat_lit 0)))])]]
def zFu_flaw : List (List zK) := []
set_option maxHeartbeats 8000000 in
theorem zu_flaw {ro : Nat → List Int32} : zMet pr_P pr_K pr_df ro (sm_X0 1 6) 0 31 tm_u [(.inr (.inr (.inl (nat_lit 60)))), (.inl (nat_lit 1, (.ofNat (nat_lit 0)))), (.inl (nat_lit 2, (.ofNat (nat_lit 0))))] 0 [(nat_lit 60, nat_lit 3, nat_lit 1), (nat_lit 60, nat_lit 9, nat_lit 61), (nat_lit 60, nat_lit 10, nat_lit 62), (nat_lit 60, nat_lit 11, nat_lit 63), (nat_lit 60, nat_lit 2, nat_lit 32), (nat_lit 32, nat_lit 8, nat_lit 33), (nat_lit 32, nat_lit 9, nat_lit 34), (nat_lit 32, nat_lit 10, nat_lit 35), (nat_lit 32, nat_lit 11, nat_lit 36), (nat_lit 32, nat_lit 12, nat_lit 41), (nat_lit 32, nat_lit 13, nat_lit 46), (nat_lit 32, nat_lit 14, nat_lit 47), (nat_lit 36, nat_lit 0, nat_lit 37), (nat_lit 41, nat_lit 0, nat_lit 42), (nat_lit 36, nat_lit 1, nat_lit 38), (nat_lit 41, nat_lit 1, nat_lit 43), (nat_lit 36, nat_lit 2, nat_lit 39), (nat_lit 41, nat_lit 2, nat_lit 44), (nat_lit 36, nat_lit 3, nat_lit 40), (nat_lit 41, nat_lit 3, nat_lit 45), (nat_lit 47, nat_lit 2, nat_lit 48), (nat_lit 47, nat_lit 3, nat_lit 49), (nat_lit 47, nat_lit 4, nat_lit 50), (nat_lit 47, nat_lit 5, nat_lit 51), (nat_lit 47, nat_lit 6, nat_lit 52)] [] (fun xs η => sP wl_u zTr zPu_flaw xs η ∧ pPu_flaw xs η) (fun xs η y η' => sQ wl_u zTr zOu_flaw zMu_flaw xs η y η' ∧ pQu_flaw xs η y η') :=
  zmet_alt (zmea_gen (mi := (nat_lit 2, nat_lit 1, nat_lit 3, nat_lit 3, nat_lit 0, tX3_flaw)) (cd := []) (cu := []) (cs := []) (iv := zVu_flaw) (po := [zOu_flaw]) (pr := zPu_flaw) (mods := zMu_flaw) (D7 := zDu_flaw) (D0 := zEu_flaw) (Dm := zFu_flaw) (f0 := 14) pCu_flaw qCu_flaw iCu_flaw pPu_flaw (fun xs η _ y η' => pQu_flaw xs η y η') zX_low pr_mtR rfl (fun _ h => nomatch h) (by decide +kernel) (by decide +kernel) (by decide +kernel)
    (by
      intro xs η hr hl hp hpp
      match xs, hl, hp, hpp with
      | [x1, x2], _, hp, hpp =>
        refine List.forall_mem_cons.mpr ⟨?_, List.forall_mem_cons.mpr ⟨?_, fun _ h => nomatch h⟩⟩
        · refine zden_L (n := 3) (ρ := [x2, x1, 0]) rfl ?_
          show ∀ x3 : Int, x3 = η 60 (Int.toNat 0) → zok 0 x3 → (¬ x3 = 0) → (fun (_ : Nat) (y : Int) (η' : zE) => pQu_flaw [x1, x2] η y η') 0 0 η
          intro x3 e3 r3 c1
          have e3 : x3 = η 60 0 := e3
          clear r3
          show η = yp_flw x1 x2 η
          subst e3
          unfold yp_flw
          split <;> first | rfl | (exfalso; omega)
        · refine zden_L (n := 3) (ρ := [x2, x1, 0]) rfl ?_
          show ∀ x3 : Int, x3 = η 60 (Int.toNat 0) → zok 0 x3 → (x3 = 0) → ∀ η1 : zE, η1 = zup η 60 (Int.toNat 0) x1 → ∀ η2 : zE, η2 = zup η1 60 (Int.toNat 1) x2 → (fun (_ : Nat) (y : Int) (η' : zE) => pQu_flaw [x1, x2] η y η') 0 0 η2
          intro x3 e3 r3 c1 η1 eη1 η2 eη2
          have e3 : x3 = η 60 0 := e3
          clear r3
          have eη1 : η1 = zup η 60 0 x1 := eη1
          have eη2 : η2 = zup η1 60 1 x2 := eη2
          show η2 = yp_flw x1 x2 η
          subst e3
          subst eη1
          subst eη2
          unfold yp_flw
          split <;> first | rfl | (exfalso; omega)
      )
    (fun _ _ _ _ _ _ _ h => nomatch h)
    (fun _ h => nomatch h))
def zPu_follows : zPq := ([((.negSucc (nat_lit 2147483647)), (.ofNat (nat_lit 2147483647)))], [])
def zOu_follows : zPo := (((.ofNat (nat_lit 0)), (.ofNat (nat_lit 1))), [], [])
def zMu_follows : List zCe := [(nat_lit 60, nat_lit 6)]
def pPu_follows : List Int → zE → Prop := (fun _ η => G_u η)
def pQu_follows : List Int → zE → Int → zE → Prop := fun xs η y η' => y = (yp_flY (xs.getD 0 0) η) ∧ η' = (yp_flS (xs.getD 0 0) η)
def pCu_follows : Nat → List Int → zE → Prop := fun c => match c with
  | _ => fun _ _ => True
def qCu_follows : Nat → List Int → zE → Int → zE → Prop := fun c => match c with
  | _ => fun _ _ _ _ => True
def iCu_follows : List Int → zE → Nat → List Int → zE → Prop := fun xs η0 c => match c with
  | _ => fun _ _ => True
def zVu_follows : List zIv := []
def zDu_follows : List (List zK) := [[(nat_lit 7, nat_lit 2, [(nat_lit 0, (.ofNat (nat_lit 0)))]), (nat_lit 6, nat_lit 3, [(nat_lit 2, (.ofNat (nat_lit 0))), (nat_lit 3, (.ofNat (nat_lit 0)))]), (nat_lit 4, nat_lit 0, [(nat_lit 60, (.ofNat (nat_lit 0))), (nat_lit 0, (.ofNat (nat_lit 4)))]), (nat_lit 4, nat_lit 0, [(nat_lit 60, (.ofNat (nat_lit 0))), (nat_lit 0, (.ofNat (nat_lit 5)))])],
  [(nat_lit 7, nat_lit 0, [(nat_lit 4, (.ofNat (nat_lit 0))), (nat_lit 0, (.ofNat (nat_lit 700)))]), (nat_lit 4, nat_lit 0, [(nat_lit 60, (.ofNat (nat_lit 0))), (nat_lit 0, (.ofNat (nat_lit 5)))]), (nat_lit 6, nat_lit 2, [(nat_lit 2, (.ofNat (nat_lit 0))), (nat_lit 3, (.ofNat (nat_lit 0)))]), (nat_lit 4, nat_lit 0, [(nat_lit 60, (.ofNat (nat_lit 0))), (nat_lit 0, (.ofNat (nat_lit 4)))]), (nat_lit 4, nat_lit 0, [(nat_lit 60, (.ofNat (nat_lit 0))), (nat_lit 0, (.ofNat (nat_lit 5)))])],
  [(nat_lit 7, nat_lit 2, [(nat_lit 0, (.ofNat (nat_lit 0)))]), (nat_lit 6, nat_lit 1, [(nat_lit 5, (.ofNat (nat_lit 0))), (nat_lit 1, (.ofNat (nat_lit 0)))]), (nat_lit 4, nat_lit 4, [(nat_lit 1, (.ofNat (nat_lit 0))), (nat_lit 4, (.ofNat (nat_lit 0)))]), (nat_lit 4, nat_lit 0, [(nat_lit 60, (.ofNat (nat_lit 0))), (nat_lit 0, (.ofNat (nat_lit 5)))]), (nat_lit 6, nat_lit 2, [(nat_lit 2, (.ofNat (nat_lit 0))), (nat_lit 3, (.ofNat (nat_lit 0)))]), (nat_lit 4, nat_lit 0, [(nat_lit 60, (.ofNat (nat_lit 0))), (nat_lit 0, (.ofNat (nat_lit 4)))]), (nat_lit 4, nat_lit 0, [(nat_lit 60, (.ofNat (nat_lit 0))), (nat_lit 0, (.ofNat (nat_lit 5)))])],
  [(nat_lit 7, nat_lit 2, [(nat_lit 0, (.ofNat (nat_lit 1)))]), (nat_lit 5, nat_lit 0, [(nat_lit 60, (.ofNat (nat_lit 0))), (nat_lit 0, (.ofNat (nat_lit 5))), (nat_lit 7, (.ofNat (nat_lit 0)))]), (nat_lit 0, nat_lit 1, [(nat_lit 6, (.ofNat (nat_lit 0))), (nat_lit 0, (.ofNat (nat_lit 1)))]), (nat_lit 4, nat_lit 0, [(nat_lit 60, (.ofNat (nat_lit 0))), (nat_lit 0, (.ofNat (nat_lit 5)))]), (nat_lit 6, nat_lit 0, [(nat_lit 5, (.ofNat (nat_lit 0))), (nat_lit 1, (.ofNat (nat_lit 0)))]), (nat_lit 4, nat_lit 4, [(nat_lit 1, (.ofNat (nat_lit 0))), (nat_lit 4, (.ofNat (nat_lit 0)))]), (nat_lit 4, nat_lit 0, [(nat_lit 60, (.ofNat (nat_lit 0))), (nat_lit 0, (.ofNat (nat_lit 5)))]), (nat_lit 6, nat_lit 2, [(nat_lit 2, (.ofNat (nat_lit 0))), (nat_lit 3, (.ofNat (nat_lit 0)))]), (nat_lit 4, nat_lit 0, [(nat_lit 60, (.ofNat (nat_lit 0))), (nat_lit 0, (.ofNat (nat_lit 4)))]), (nat_lit 4, nat_lit 0, [(nat_lit 60, (.ofNat (nat_lit 0))), (nat_lit 0, (.ofNat (nat_lit 5)))])]]
def zEu_follows : List (List zK) := [[(nat_lit 11, nat_lit 0, [(nat_lit 0, (.ofNat (nat_lit 0)))]), (nat_lit 6, nat_lit 3, [(nat_lit 2, (.ofNat (nat_lit 0))), (nat_lit 3, (.ofNat (nat_lit 0)))]), (nat_lit 4, nat_lit 0, [(nat_lit 60, (.ofNat (nat_lit 0))), (nat_lit 0, (.ofNat (nat_lit 4)))]), (nat_lit 4, nat_lit 0, [(nat_lit 60, (.ofNat (nat_lit 0))), (nat_lit 0, (.ofNat (nat_lit 5)))])],
  [(nat_lit 11, nat_lit 0, [(nat_lit 0, (.ofNat (nat_lit 0)))]), (nat_lit 6, nat_lit 1, [(nat_lit 5, (.ofNat (nat_lit 0))), (nat_lit 1, (.ofNat (nat_lit 0)))]), (nat_lit 4, nat_lit 4, [(nat_lit 1, (.ofNat (nat_lit 0))), (nat_lit 4, (.ofNat (nat_lit 0)))]), (nat_lit 4, nat_lit 0, [(nat_lit 60, (.ofNat (nat_lit 0))), (nat_lit 0, (.ofNat (nat_lit 5)))]), (nat_lit 6, nat_lit 2, [(nat_lit 2, (.ofNat (nat_lit 0))), (nat_lit 3, (.ofNat (nat_lit 0)))]), (nat_lit 4, nat_lit 0, [(nat_lit 60, (.ofNat (nat_lit 0))), (nat_lit 0, (.ofNat (nat_lit 4)))]), (nat_lit 4, nat_lit 0, [(nat_lit 60, (.ofNat (nat_lit 0))), (nat_lit 0, (.ofNat (nat_lit 5)))])],
  [(nat_lit 11, nat_lit 0, [(nat_lit 0, (.ofNat (nat_lit 1)))]), (nat_lit 5, nat_lit 0, [(nat_lit 60, (.ofNat (nat_lit 0))), (nat_lit 0, (.ofNat (nat_lit 5))), (nat_lit 7, (.ofNat (nat_lit 0)))]), (nat_lit 0, nat_lit 1, [(nat_lit 6, (.ofNat (nat_lit 0))), (nat_lit 0, (.ofNat (nat_lit 1)))]), (nat_lit 4, nat_lit 0, [(nat_lit 60, (.ofNat (nat_lit 0))), (nat_lit 0, (.ofNat (nat_lit 5)))]), (nat_lit 6, nat_lit 0, [(nat_lit 5, (.ofNat (nat_lit 0))), (nat_lit 1, (.ofNat (nat_lit 0)))]), (nat_lit 4, nat_lit 4, [(nat_lit 1, (.ofNat (nat_lit 0))), (nat_lit 4, (.ofNat (nat_lit 0)))]), (nat_lit 4, nat_lit 0, [(nat_lit 60, (.ofNat (nat_lit 0))), (nat_lit 0, (.ofNat (nat_lit 5)))]), (nat_lit 6, nat_lit 2, [(nat_lit 2, (.ofNat (nat_lit 0))), (nat_lit 3, (.ofNat (nat_lit 0)))]), (nat_lit 4, nat_lit 0, [(nat_lit 60, (.ofNat (nat_lit 0))), (nat_lit 0, (.ofNat (nat_lit 4)))]), (nat_lit 4, nat_lit 0, [(nat_lit 60, (.ofNat (nat_lit 0))), (nat_lit 0, (.ofNat (nat_lit 5)))])]]
def zFu_follows : List (List zK) := []
set_option maxHeartbeats 8000000 in
theorem zu_follows {ro : Nat → List Int32} : zMet pr_P pr_K pr_df ro (sm_X0 1 6) 0 50 tm_u [(.inr (.inr (.inl (nat_lit 60)))), (.inl (nat_lit 1, (.ofNat (nat_lit 0))))] 2 [(nat_lit 60, nat_lit 3, nat_lit 1), (nat_lit 60, nat_lit 9, nat_lit 61), (nat_lit 60, nat_lit 10, nat_lit 62), (nat_lit 60, nat_lit 11, nat_lit 63), (nat_lit 60, nat_lit 2, nat_lit 32), (nat_lit 32, nat_lit 8, nat_lit 33), (nat_lit 32, nat_lit 9, nat_lit 34), (nat_lit 32, nat_lit 10, nat_lit 35), (nat_lit 32, nat_lit 11, nat_lit 36), (nat_lit 32, nat_lit 12, nat_lit 41), (nat_lit 32, nat_lit 13, nat_lit 46), (nat_lit 32, nat_lit 14, nat_lit 47), (nat_lit 36, nat_lit 0, nat_lit 37), (nat_lit 41, nat_lit 0, nat_lit 42), (nat_lit 36, nat_lit 1, nat_lit 38), (nat_lit 41, nat_lit 1, nat_lit 43), (nat_lit 36, nat_lit 2, nat_lit 39), (nat_lit 41, nat_lit 2, nat_lit 44), (nat_lit 36, nat_lit 3, nat_lit 40), (nat_lit 41, nat_lit 3, nat_lit 45), (nat_lit 47, nat_lit 2, nat_lit 48), (nat_lit 47, nat_lit 3, nat_lit 49), (nat_lit 47, nat_lit 4, nat_lit 50), (nat_lit 47, nat_lit 5, nat_lit 51), (nat_lit 47, nat_lit 6, nat_lit 52)] [] (fun xs η => sP wl_u zTr zPu_follows xs η ∧ pPu_follows xs η) (fun xs η y η' => sQ wl_u zTr zOu_follows zMu_follows xs η y η' ∧ pQu_follows xs η y η') :=
  zmet_alt (zmea_gen (mi := (nat_lit 1, nat_lit 1, nat_lit 3, nat_lit 2, nat_lit 2, tX3_follows)) (cd := []) (cu := []) (cs := []) (iv := zVu_follows) (po := [zOu_follows]) (pr := zPu_follows) (mods := zMu_follows) (D7 := zDu_follows) (D0 := zEu_follows) (Dm := zFu_follows) (f0 := 24) pCu_follows qCu_follows iCu_follows pPu_follows (fun xs η _ y η' => pQu_follows xs η y η') zX_low pr_mtR rfl (fun _ h => nomatch h) (by decide +kernel) (by decide +kernel) (by decide +kernel)
    (by
      intro xs η hr hl hp hpp
      match xs, hl, hp, hpp with
      | [x1], _, hp, hpp =>
        refine List.forall_mem_cons.mpr ⟨?_, List.forall_mem_cons.mpr ⟨?_, List.forall_mem_cons.mpr ⟨?_, fun _ h => nomatch h⟩⟩⟩
        · refine zden_L (n := 2) (ρ := [x1, 0]) rfl ?_
          show ∀ x2 : Int, x2 = η 60 (Int.toNat 5) → zok 0 x2 → ∀ x3 : Int, x3 = η 60 (Int.toNat 4) → zok 0 x3 → (x3 ≤ x2) → (fun (_ : Nat) (y : Int) (η' : zE) => pQu_follows [x1] η y η') 0 0 η
          intro x2 e2 r2 x3 e3 r3 c1
          have e2 : x2 = η 60 5 := e2
          clear r2
          have e3 : x3 = η 60 4 := e3
          clear r3
          show 0 = (yp_flY x1 η) ∧ η = (yp_flS x1 η)
          subst e2
          subst e3
          refine ⟨?_, ?_⟩
          · unfold yp_flY
            split <;> first | rfl | (exfalso; omega)
          · unfold yp_flS
            split <;> first | rfl | (exfalso; omega)
        · refine zden_L (n := 2) (ρ := [x1, 0]) rfl ?_
          show ∀ x2 : Int, x2 = η 60 (Int.toNat 5) → zok 0 x2 → ∀ x3 : Int, x3 = η 60 (Int.toNat 4) → zok 0 x3 → (x2 < x3) → ∀ x4 : Int, x4 = η 60 (Int.toNat 5) → zok 0 x4 → ∀ x5 : Int, x5 = η 1 (Int.toNat x4) → zok 4 x5 → (¬ x5 = x1) → (fun (_ : Nat) (y : Int) (η' : zE) => pQu_follows [x1] η y η') 0 0 η
          intro x2 e2 r2 x3 e3 r3 c1 x4 e4 r4 x5 e5 r5 c2
          have e2 : x2 = η 60 5 := e2
          clear r2
          have e3 : x3 = η 60 4 := e3
          clear r3
          have e4 : x4 = η 60 5 := e4
          clear r4
          have e5 : x5 = η 1 (Int.toNat x4) := e5
          clear r5
          show 0 = (yp_flY x1 η) ∧ η = (yp_flS x1 η)
          subst e2
          subst e3
          subst e4
          subst e5
          refine ⟨?_, ?_⟩
          · unfold yp_flY
            split <;> first | rfl | (exfalso; omega)
          · unfold yp_flS
            split <;> first | rfl | (exfalso; omega)
        · refine zden_L (n := 2) (ρ := [x1, 0]) rfl ?_
          show ∀ x2 : Int, x2 = η 60 (Int.toNat 5) → zok 0 x2 → ∀ x3 : Int, x3 = η 60 (Int.toNat 4) → zok 0 x3 → (x2 < x3) → ∀ x4 : Int, x4 = η 60 (Int.toNat 5) → zok 0 x4 → ∀ x5 : Int, x5 = η 1 (Int.toNat x4) → zok 4 x5 → (x5 = x1) → ∀ x6 : Int, x6 = η 60 (Int.toNat 5) → zok 0 x6 → ∀ x7 : Int, x7 = zd 0 1 x6 1 → ∀ η1 : zE, η1 = zup η 60 (Int.toNat 5) x7 → (fun (_ : Nat) (y : Int) (η' : zE) => pQu_follows [x1] η y η') 0 1 η1
          intro x2 e2 r2 x3 e3 r3 c1 x4 e4 r4 x5 e5 r5 c2 x6 e6 r6 x7 e7 η1 eη1
          have e2 : x2 = η 60 5 := e2
          clear r2
          have e3 : x3 = η 60 4 := e3
          clear r3
          have e4 : x4 = η 60 5 := e4
          clear r4
          have e5 : x5 = η 1 (Int.toNat x4) := e5
          clear r5
          have e6 : x6 = η 60 5 := e6
          clear r6
          have eη1 : η1 = zup η 60 5 x7 := eη1
          show 1 = (yp_flY x1 η) ∧ η1 = (yp_flS x1 η)
          subst e2
          subst e3
          subst e4
          subst e5
          subst e6
          subst e7
          subst eη1
          refine ⟨?_, ?_⟩
          · unfold yp_flY
            split <;> first | rfl | (exfalso; omega)
          · unfold yp_flS
            split <;> first | rfl | (exfalso; omega)
      )
    (fun _ _ _ _ _ _ _ h => nomatch h)
    (fun _ h => nomatch h))
def zPu_sign : zPq := ([((.negSucc (nat_lit 2147483647)), (.ofNat (nat_lit 2147483647)))], [])
def zOu_sign : zPo := (((.ofNat (nat_lit 0)), (.ofNat (nat_lit 22))), [], [])
def zMu_sign : List zCe := [(nat_lit 60, nat_lit 6)]
def pPu_sign : List Int → zE → Prop := (fun _ η => G_u η)
def pQu_sign : List Int → zE → Int → zE → Prop := fun xs η y η' => y = (yp_snY (xs.getD 0 0) η) ∧ η' = (yp_snS (xs.getD 0 0) η)
def pCu_sign : Nat → List Int → zE → Prop := fun c => match c with
  | 0 => pPu_follows
  | _ => fun _ _ => True
def qCu_sign : Nat → List Int → zE → Int → zE → Prop := fun c => match c with
  | 0 => pQu_follows
  | _ => fun _ _ _ _ => True
def iCu_sign : List Int → zE → Nat → List Int → zE → Prop := fun xs η0 c => match c with
  | _ => fun _ _ => True
def zVu_sign : List zIv := []
def zDu_sign : List (List zK) := []
def zEu_sign : List (List zK) := [[(nat_lit 11, nat_lit 0, [(nat_lit 0, (.ofNat (nat_lit 22)))]), (nat_lit 6, nat_lit 2, [(nat_lit 1, (.ofNat (nat_lit 0))), (nat_lit 0, (.ofNat (nat_lit 40)))])],
  [(nat_lit 11, nat_lit 0, [(nat_lit 0, (.ofNat (nat_lit 22)))]), (nat_lit 6, nat_lit 4, [(nat_lit 1, (.ofNat (nat_lit 0))), (nat_lit 0, (.ofNat (nat_lit 62)))])],
  [(nat_lit 11, nat_lit 0, [(nat_lit 0, (.ofNat (nat_lit 0)))]), (nat_lit 6, nat_lit 0, [(nat_lit 1, (.ofNat (nat_lit 0))), (nat_lit 0, (.ofNat (nat_lit 40)))])],
  [(nat_lit 11, nat_lit 0, [(nat_lit 0, (.ofNat (nat_lit 14)))]), (nat_lit 6, nat_lit 0, [(nat_lit 1, (.ofNat (nat_lit 0))), (nat_lit 0, (.ofNat (nat_lit 41)))])],
  [(nat_lit 11, nat_lit 0, [(nat_lit 0, (.ofNat (nat_lit 12)))]), (nat_lit 6, nat_lit 0, [(nat_lit 1, (.ofNat (nat_lit 0))), (nat_lit 0, (.ofNat (nat_lit 42)))])],
  [(nat_lit 11, nat_lit 0, [(nat_lit 0, (.ofNat (nat_lit 10)))]), (nat_lit 6, nat_lit 0, [(nat_lit 1, (.ofNat (nat_lit 0))), (nat_lit 0, (.ofNat (nat_lit 43)))])],
  [(nat_lit 11, nat_lit 0, [(nat_lit 0, (.ofNat (nat_lit 22)))]), (nat_lit 6, nat_lit 0, [(nat_lit 1, (.ofNat (nat_lit 0))), (nat_lit 0, (.ofNat (nat_lit 44)))])],
  [(nat_lit 11, nat_lit 0, [(nat_lit 0, (.ofNat (nat_lit 11)))]), (nat_lit 6, nat_lit 0, [(nat_lit 1, (.ofNat (nat_lit 0))), (nat_lit 0, (.ofNat (nat_lit 45)))])],
  [(nat_lit 11, nat_lit 0, [(nat_lit 0, (.ofNat (nat_lit 22)))]), (nat_lit 6, nat_lit 0, [(nat_lit 1, (.ofNat (nat_lit 0))), (nat_lit 0, (.ofNat (nat_lit 46)))])],
  [(nat_lit 11, nat_lit 0, [(nat_lit 0, (.ofNat (nat_lit 13)))]), (nat_lit 6, nat_lit 0, [(nat_lit 1, (.ofNat (nat_lit 0))), (nat_lit 0, (.ofNat (nat_lit 47)))])],
  [(nat_lit 11, nat_lit 0, [(nat_lit 0, (.ofNat (nat_lit 22)))]), (nat_lit 6, nat_lit 0, [(nat_lit 1, (.ofNat (nat_lit 0))), (nat_lit 0, (.ofNat (nat_lit 48)))])],
  [(nat_lit 11, nat_lit 0, [(nat_lit 0, (.ofNat (nat_lit 22)))]), (nat_lit 6, nat_lit 0, [(nat_lit 1, (.ofNat (nat_lit 0))), (nat_lit 0, (.ofNat (nat_lit 49)))])],
  [(nat_lit 11, nat_lit 0, [(nat_lit 0, (.ofNat (nat_lit 22)))]), (nat_lit 6, nat_lit 0, [(nat_lit 1, (.ofNat (nat_lit 0))), (nat_lit 0, (.ofNat (nat_lit 50)))])],
  [(nat_lit 11, nat_lit 0, [(nat_lit 0, (.ofNat (nat_lit 22)))]), (nat_lit 6, nat_lit 0, [(nat_lit 1, (.ofNat (nat_lit 0))), (nat_lit 0, (.ofNat (nat_lit 51)))])],
  [(nat_lit 11, nat_lit 0, [(nat_lit 0, (.ofNat (nat_lit 22)))]), (nat_lit 6, nat_lit 0, [(nat_lit 1, (.ofNat (nat_lit 0))), (nat_lit 0, (.ofNat (nat_lit 52)))])],
  [(nat_lit 11, nat_lit 0, [(nat_lit 0, (.ofNat (nat_lit 22)))]), (nat_lit 6, nat_lit 0, [(nat_lit 1, (.ofNat (nat_lit 0))), (nat_lit 0, (.ofNat (nat_lit 53)))])],
  [(nat_lit 11, nat_lit 0, [(nat_lit 0, (.ofNat (nat_lit 22)))]), (nat_lit 6, nat_lit 0, [(nat_lit 1, (.ofNat (nat_lit 0))), (nat_lit 0, (.ofNat (nat_lit 54)))])],
  [(nat_lit 11, nat_lit 0, [(nat_lit 0, (.ofNat (nat_lit 22)))]), (nat_lit 6, nat_lit 0, [(nat_lit 1, (.ofNat (nat_lit 0))), (nat_lit 0, (.ofNat (nat_lit 55)))])],
  [(nat_lit 11, nat_lit 0, [(nat_lit 0, (.ofNat (nat_lit 22)))]), (nat_lit 6, nat_lit 0, [(nat_lit 1, (.ofNat (nat_lit 0))), (nat_lit 0, (.ofNat (nat_lit 56)))])],
  [(nat_lit 11, nat_lit 0, [(nat_lit 0, (.ofNat (nat_lit 22)))]), (nat_lit 6, nat_lit 0, [(nat_lit 1, (.ofNat (nat_lit 0))), (nat_lit 0, (.ofNat (nat_lit 57)))])],
  [(nat_lit 11, nat_lit 0, [(nat_lit 0, (.ofNat (nat_lit 22)))]), (nat_lit 6, nat_lit 0, [(nat_lit 1, (.ofNat (nat_lit 0))), (nat_lit 0, (.ofNat (nat_lit 58)))])],
  [(nat_lit 11, nat_lit 0, [(nat_lit 0, (.ofNat (nat_lit 15)))]), (nat_lit 6, nat_lit 0, [(nat_lit 1, (.ofNat (nat_lit 0))), (nat_lit 0, (.ofNat (nat_lit 59)))])],
  [(nat_lit 13, nat_lit 0, [(nat_lit 0, (.ofNat (nat_lit 62)))]), (nat_lit 6, nat_lit 0, [(nat_lit 1, (.ofNat (nat_lit 0))), (nat_lit 0, (.ofNat (nat_lit 60)))])],
  [(nat_lit 13, nat_lit 0, [(nat_lit 0, (.ofNat (nat_lit 61)))]), (nat_lit 6, nat_lit 0, [(nat_lit 2, (.ofNat (nat_lit 0))), (nat_lit 0, (.ofNat (nat_lit 0)))]), (nat_lit 8, nat_lit 0, [(nat_lit 0, (.ofNat (nat_lit 62)))]), (nat_lit 6, nat_lit 0, [(nat_lit 1, (.ofNat (nat_lit 0))), (nat_lit 0, (.ofNat (nat_lit 60)))])],
  [(nat_lit 11, nat_lit 0, [(nat_lit 0, (.ofNat (nat_lit 4)))]), (nat_lit 6, nat_lit 0, [(nat_lit 3, (.ofNat (nat_lit 0))), (nat_lit 0, (.ofNat (nat_lit 0)))]), (nat_lit 8, nat_lit 0, [(nat_lit 0, (.ofNat (nat_lit 61)))]), (nat_lit 6, nat_lit 0, [(nat_lit 2, (.ofNat (nat_lit 0))), (nat_lit 0, (.ofNat (nat_lit 0)))]), (nat_lit 8, nat_lit 0, [(nat_lit 0, (.ofNat (nat_lit 62)))]), (nat_lit 6, nat_lit 0, [(nat_lit 1, (.ofNat (nat_lit 0))), (nat_lit 0, (.ofNat (nat_lit 60)))])],
  [(nat_lit 11, nat_lit 0, [(nat_lit 0, (.ofNat (nat_lit 5)))]), (nat_lit 6, nat_lit 1, [(nat_lit 3, (.ofNat (nat_lit 0))), (nat_lit 0, (.ofNat (nat_lit 0)))]), (nat_lit 8, nat_lit 0, [(nat_lit 0, (.ofNat (nat_lit 61)))]), (nat_lit 6, nat_lit 0, [(nat_lit 2, (.ofNat (nat_lit 0))), (nat_lit 0, (.ofNat (nat_lit 0)))]), (nat_lit 8, nat_lit 0, [(nat_lit 0, (.ofNat (nat_lit 62)))]), (nat_lit 6, nat_lit 0, [(nat_lit 1, (.ofNat (nat_lit 0))), (nat_lit 0, (.ofNat (nat_lit 60)))])],
  [(nat_lit 11, nat_lit 0, [(nat_lit 0, (.ofNat (nat_lit 7)))]), (nat_lit 6, nat_lit 1, [(nat_lit 2, (.ofNat (nat_lit 0))), (nat_lit 0, (.ofNat (nat_lit 0)))]), (nat_lit 8, nat_lit 0, [(nat_lit 0, (.ofNat (nat_lit 62)))]), (nat_lit 6, nat_lit 0, [(nat_lit 1, (.ofNat (nat_lit 0))), (nat_lit 0, (.ofNat (nat_lit 60)))])],
  [(nat_lit 11, nat_lit 0, [(nat_lit 0, (.ofNat (nat_lit 6)))]), (nat_lit 6, nat_lit 0, [(nat_lit 1, (.ofNat (nat_lit 0))), (nat_lit 0, (.ofNat (nat_lit 61)))])],
  [(nat_lit 13, nat_lit 0, [(nat_lit 0, (.ofNat (nat_lit 61)))]), (nat_lit 6, nat_lit 0, [(nat_lit 1, (.ofNat (nat_lit 0))), (nat_lit 0, (.ofNat (nat_lit 62)))])],
  [(nat_lit 11, nat_lit 0, [(nat_lit 0, (.ofNat (nat_lit 9)))]), (nat_lit 6, nat_lit 0, [(nat_lit 2, (.ofNat (nat_lit 0))), (nat_lit 0, (.ofNat (nat_lit 0)))]), (nat_lit 8, nat_lit 0, [(nat_lit 0, (.ofNat (nat_lit 61)))]), (nat_lit 6, nat_lit 0, [(nat_lit 1, (.ofNat (nat_lit 0))), (nat_lit 0, (.ofNat (nat_lit 62)))])],
  [(nat_lit 11, nat_lit 0, [(nat_lit 0, (.ofNat (nat_lit 8)))]), (nat_lit 6, nat_lit 1, [(nat_lit 2, (.ofNat (nat_lit 0))), (nat_lit 0, (.ofNat (nat_lit 0)))]), (nat_lit 8, nat_lit 0, [(nat_lit 0, (.ofNat (nat_lit 61)))]), (nat_lit 6, nat_lit 0, [(nat_lit 1, (.ofNat (nat_lit 0))), (nat_lit 0, (.ofNat (nat_lit 62)))])]]
def zFu_sign : List (List zK) := []
set_option maxHeartbeats 8000000 in
theorem zu_sign {ro : Nat → List Int32} : zMet pr_P pr_K pr_df ro (sm_X0 1 6) 1 49 tm_u [(.inr (.inr (.inl (nat_lit 60)))), (.inl (nat_lit 1, (.ofNat (nat_lit 0))))] 1 [(nat_lit 60, nat_lit 3, nat_lit 1), (nat_lit 60, nat_lit 9, nat_lit 61), (nat_lit 60, nat_lit 10, nat_lit 62), (nat_lit 60, nat_lit 11, nat_lit 63), (nat_lit 60, nat_lit 2, nat_lit 32), (nat_lit 32, nat_lit 8, nat_lit 33), (nat_lit 32, nat_lit 9, nat_lit 34), (nat_lit 32, nat_lit 10, nat_lit 35), (nat_lit 32, nat_lit 11, nat_lit 36), (nat_lit 32, nat_lit 12, nat_lit 41), (nat_lit 32, nat_lit 13, nat_lit 46), (nat_lit 32, nat_lit 14, nat_lit 47), (nat_lit 36, nat_lit 0, nat_lit 37), (nat_lit 41, nat_lit 0, nat_lit 42), (nat_lit 36, nat_lit 1, nat_lit 38), (nat_lit 41, nat_lit 1, nat_lit 43), (nat_lit 36, nat_lit 2, nat_lit 39), (nat_lit 41, nat_lit 2, nat_lit 44), (nat_lit 36, nat_lit 3, nat_lit 40), (nat_lit 41, nat_lit 3, nat_lit 45), (nat_lit 47, nat_lit 2, nat_lit 48), (nat_lit 47, nat_lit 3, nat_lit 49), (nat_lit 47, nat_lit 4, nat_lit 50), (nat_lit 47, nat_lit 5, nat_lit 51), (nat_lit 47, nat_lit 6, nat_lit 52)] [] (fun xs η => sP wl_u zTr zPu_sign xs η ∧ pPu_sign xs η) (fun xs η y η' => sQ wl_u zTr zOu_sign zMu_sign xs η y η' ∧ pQu_sign xs η y η') :=
  zmet_alt (zmea_gen (mi := (nat_lit 1, nat_lit 1, nat_lit 3, nat_lit 2, nat_lit 1, tX3_sign)) (cd := [(nat_lit 50, nat_lit 0, nat_lit 0, [(.inr (.inr (.inl (nat_lit 60)))), (.inl (nat_lit 1, (.ofNat (nat_lit 0))))], nat_lit 2, [(nat_lit 60, nat_lit 3, nat_lit 1), (nat_lit 60, nat_lit 9, nat_lit 61), (nat_lit 60, nat_lit 10, nat_lit 62), (nat_lit 60, nat_lit 11, nat_lit 63), (nat_lit 60, nat_lit 2, nat_lit 32), (nat_lit 32, nat_lit 8, nat_lit 33), (nat_lit 32, nat_lit 9, nat_lit 34), (nat_lit 32, nat_lit 10, nat_lit 35), (nat_lit 32, nat_lit 11, nat_lit 36), (nat_lit 32, nat_lit 12, nat_lit 41), (nat_lit 32, nat_lit 13, nat_lit 46), (nat_lit 32, nat_lit 14, nat_lit 47), (nat_lit 36, nat_lit 0, nat_lit 37), (nat_lit 41, nat_lit 0, nat_lit 42), (nat_lit 36, nat_lit 1, nat_lit 38), (nat_lit 41, nat_lit 1, nat_lit 43), (nat_lit 36, nat_lit 2, nat_lit 39), (nat_lit 41, nat_lit 2, nat_lit 44), (nat_lit 36, nat_lit 3, nat_lit 40), (nat_lit 41, nat_lit 3, nat_lit 45), (nat_lit 47, nat_lit 2, nat_lit 48), (nat_lit 47, nat_lit 3, nat_lit 49), (nat_lit 47, nat_lit 4, nat_lit 50), (nat_lit 47, nat_lit 5, nat_lit 51), (nat_lit 47, nat_lit 6, nat_lit 52)], [])]) (cu := []) (cs := [(nat_lit 0, zPu_follows, zOu_follows, zMu_follows)]) (iv := zVu_sign) (po := [zOu_sign]) (pr := zPu_sign) (mods := zMu_sign) (D7 := zDu_sign) (D0 := zEu_sign) (Dm := zFu_sign) (f0 := 17) pCu_sign qCu_sign iCu_sign pPu_sign (fun xs η _ y η' => pQu_sign xs η y η') zX_low pr_mtR rfl (List.forall_mem_cons.mpr ⟨zu_follows, fun _ h => nomatch h⟩) (by decide +kernel) (by decide +kernel) (by decide +kernel)
    (by
      intro xs η hr hl hp hpp
      match xs, hl, hp, hpp with
      | [x1], _, hp, hpp =>
        refine List.forall_mem_cons.mpr ⟨?_, List.forall_mem_cons.mpr ⟨?_, List.forall_mem_cons.mpr ⟨?_, List.forall_mem_cons.mpr ⟨?_, List.forall_mem_cons.mpr ⟨?_, List.forall_mem_cons.mpr ⟨?_, List.forall_mem_cons.mpr ⟨?_, List.forall_mem_cons.mpr ⟨?_, List.forall_mem_cons.mpr ⟨?_, List.forall_mem_cons.mpr ⟨?_, List.forall_mem_cons.mpr ⟨?_, List.forall_mem_cons.mpr ⟨?_, List.forall_mem_cons.mpr ⟨?_, List.forall_mem_cons.mpr ⟨?_, List.forall_mem_cons.mpr ⟨?_, List.forall_mem_cons.mpr ⟨?_, List.forall_mem_cons.mpr ⟨?_, List.forall_mem_cons.mpr ⟨?_, List.forall_mem_cons.mpr ⟨?_, List.forall_mem_cons.mpr ⟨?_, List.forall_mem_cons.mpr ⟨?_, List.forall_mem_cons.mpr ⟨?_, List.forall_mem_cons.mpr ⟨?_, List.forall_mem_cons.mpr ⟨?_, List.forall_mem_cons.mpr ⟨?_, List.forall_mem_cons.mpr ⟨?_, List.forall_mem_cons.mpr ⟨?_, List.forall_mem_cons.mpr ⟨?_, List.forall_mem_cons.mpr ⟨?_, List.forall_mem_cons.mpr ⟨?_, List.forall_mem_cons.mpr ⟨?_, fun _ h => nomatch h⟩⟩⟩⟩⟩⟩⟩⟩⟩⟩⟩⟩⟩⟩⟩⟩⟩⟩⟩⟩⟩⟩⟩⟩⟩⟩⟩⟩⟩⟩⟩
        · refine zden_L (n := 2) (ρ := [x1, 0]) rfl ?_
          show (x1 < 40) → (fun (_ : Nat) (y : Int) (η' : zE) => pQu_sign [x1] η y η') 0 22 η
          intro c1
          show 22 = (yp_snY x1 η) ∧ η = (yp_snS x1 η)
          first
          | exact ⟨rfl, rfl⟩
          | exact sg_oS (by decide)
          | exact sg_oS (by omega)
          | exact sn_4 c2 c3
          | exact sn_5 c2 c3
          | exact sn_7 c2
          | exact sn_9 c2
          | exact sn_8 c2
        · refine zden_L (n := 2) (ρ := [x1, 0]) rfl ?_
          show (62 < x1) → (fun (_ : Nat) (y : Int) (η' : zE) => pQu_sign [x1] η y η') 0 22 η
          intro c1
          show 22 = (yp_snY x1 η) ∧ η = (yp_snS x1 η)
          first
          | exact ⟨rfl, rfl⟩
          | exact sg_oS (by decide)
          | exact sg_oS (by omega)
          | exact sn_4 c2 c3
          | exact sn_5 c2 c3
          | exact sn_7 c2
          | exact sn_9 c2
          | exact sn_8 c2
        · refine zden_L (n := 2) (ρ := [x1, 0]) rfl ?_
          show (x1 = 40) → (fun (_ : Nat) (y : Int) (η' : zE) => pQu_sign [x1] η y η') 0 0 η
          intro c1
          show 0 = (yp_snY x1 η) ∧ η = (yp_snS x1 η)
          subst c1
          first
          | exact ⟨rfl, rfl⟩
          | exact sg_oS (by decide)
          | exact sg_oS (by omega)
          | exact sn_4 c2 c3
          | exact sn_5 c2 c3
          | exact sn_7 c2
          | exact sn_9 c2
          | exact sn_8 c2
        · refine zden_L (n := 2) (ρ := [x1, 0]) rfl ?_
          show (x1 = 41) → (fun (_ : Nat) (y : Int) (η' : zE) => pQu_sign [x1] η y η') 0 14 η
          intro c1
          show 14 = (yp_snY x1 η) ∧ η = (yp_snS x1 η)
          subst c1
          first
          | exact ⟨rfl, rfl⟩
          | exact sg_oS (by decide)
          | exact sg_oS (by omega)
          | exact sn_4 c2 c3
          | exact sn_5 c2 c3
          | exact sn_7 c2
          | exact sn_9 c2
          | exact sn_8 c2
        · refine zden_L (n := 2) (ρ := [x1, 0]) rfl ?_
          show (x1 = 42) → (fun (_ : Nat) (y : Int) (η' : zE) => pQu_sign [x1] η y η') 0 12 η
          intro c1
          show 12 = (yp_snY x1 η) ∧ η = (yp_snS x1 η)
          subst c1
          first
          | exact ⟨rfl, rfl⟩
          | exact sg_oS (by decide)
          | exact sg_oS (by omega)
          | exact sn_4 c2 c3
          | exact sn_5 c2 c3
          | exact sn_7 c2
          | exact sn_9 c2
          | exact sn_8 c2
        · refine zden_L (n := 2) (ρ := [x1, 0]) rfl ?_
          show (x1 = 43) → (fun (_ : Nat) (y : Int) (η' : zE) => pQu_sign [x1] η y η') 0 10 η
          intro c1
          show 10 = (yp_snY x1 η) ∧ η = (yp_snS x1 η)
          subst c1
          first
          | exact ⟨rfl, rfl⟩
          | exact sg_oS (by decide)
          | exact sg_oS (by omega)
          | exact sn_4 c2 c3
          | exact sn_5 c2 c3
          | exact sn_7 c2
          | exact sn_9 c2
          | exact sn_8 c2
        · refine zden_L (n := 2) (ρ := [x1, 0]) rfl ?_
          show (x1 = 44) → (fun (_ : Nat) (y : Int) (η' : zE) => pQu_sign [x1] η y η') 0 22 η
          intro c1
          show 22 = (yp_snY x1 η) ∧ η = (yp_snS x1 η)
          subst c1
          first
          | exact ⟨rfl, rfl⟩
          | exact sg_oS (by decide)
          | exact sg_oS (by omega)
          | exact sn_4 c2 c3
          | exact sn_5 c2 c3
          | exact sn_7 c2
          | exact sn_9 c2
          | exact sn_8 c2
        · refine zden_L (n := 2) (ρ := [x1, 0]) rfl ?_
          show (x1 = 45) → (fun (_ : Nat) (y : Int) (η' : zE) => pQu_sign [x1] η y η') 0 11 η
          intro c1
          show 11 = (yp_snY x1 η) ∧ η = (yp_snS x1 η)
          subst c1
          first
          | exact ⟨rfl, rfl⟩
          | exact sg_oS (by decide)
          | exact sg_oS (by omega)
          | exact sn_4 c2 c3
          | exact sn_5 c2 c3
          | exact sn_7 c2
          | exact sn_9 c2
          | exact sn_8 c2
        · refine zden_L (n := 2) (ρ := [x1, 0]) rfl ?_
          show (x1 = 46) → (fun (_ : Nat) (y : Int) (η' : zE) => pQu_sign [x1] η y η') 0 22 η
          intro c1
          show 22 = (yp_snY x1 η) ∧ η = (yp_snS x1 η)
          subst c1
          first
          | exact ⟨rfl, rfl⟩
          | exact sg_oS (by decide)
          | exact sg_oS (by omega)
          | exact sn_4 c2 c3
          | exact sn_5 c2 c3
          | exact sn_7 c2
          | exact sn_9 c2
          | exact sn_8 c2
        · refine zden_L (n := 2) (ρ := [x1, 0]) rfl ?_
          show (x1 = 47) → (fun (_ : Nat) (y : Int) (η' : zE) => pQu_sign [x1] η y η') 0 13 η
          intro c1
          show 13 = (yp_snY x1 η) ∧ η = (yp_snS x1 η)
          subst c1
          first
          | exact ⟨rfl, rfl⟩
          | exact sg_oS (by decide)
          | exact sg_oS (by omega)
          | exact sn_4 c2 c3
          | exact sn_5 c2 c3
          | exact sn_7 c2
          | exact sn_9 c2
          | exact sn_8 c2
        · refine zden_L (n := 2) (ρ := [x1, 0]) rfl ?_
          show (x1 = 48) → (fun (_ : Nat) (y : Int) (η' : zE) => pQu_sign [x1] η y η') 0 22 η
          intro c1
          show 22 = (yp_snY x1 η) ∧ η = (yp_snS x1 η)
          subst c1
          first
          | exact ⟨rfl, rfl⟩
          | exact sg_oS (by decide)
          | exact sg_oS (by omega)
          | exact sn_4 c2 c3
          | exact sn_5 c2 c3
          | exact sn_7 c2
          | exact sn_9 c2
          | exact sn_8 c2
        · refine zden_L (n := 2) (ρ := [x1, 0]) rfl ?_
          show (x1 = 49) → (fun (_ : Nat) (y : Int) (η' : zE) => pQu_sign [x1] η y η') 0 22 η
          intro c1
          show 22 = (yp_snY x1 η) ∧ η = (yp_snS x1 η)
          subst c1
          first
          | exact ⟨rfl, rfl⟩
          | exact sg_oS (by decide)
          | exact sg_oS (by omega)
          | exact sn_4 c2 c3
          | exact sn_5 c2 c3
          | exact sn_7 c2
          | exact sn_9 c2
          | exact sn_8 c2
        · refine zden_L (n := 2) (ρ := [x1, 0]) rfl ?_
          show (x1 = 50) → (fun (_ : Nat) (y : Int) (η' : zE) => pQu_sign [x1] η y η') 0 22 η
          intro c1
          show 22 = (yp_snY x1 η) ∧ η = (yp_snS x1 η)
          subst c1
          first
          | exact ⟨rfl, rfl⟩
          | exact sg_oS (by decide)
          | exact sg_oS (by omega)
          | exact sn_4 c2 c3
          | exact sn_5 c2 c3
          | exact sn_7 c2
          | exact sn_9 c2
          | exact sn_8 c2
        · refine zden_L (n := 2) (ρ := [x1, 0]) rfl ?_
          show (x1 = 51) → (fun (_ : Nat) (y : Int) (η' : zE) => pQu_sign [x1] η y η') 0 22 η
          intro c1
          show 22 = (yp_snY x1 η) ∧ η = (yp_snS x1 η)
          subst c1
          first
          | exact ⟨rfl, rfl⟩
          | exact sg_oS (by decide)
          | exact sg_oS (by omega)
          | exact sn_4 c2 c3
          | exact sn_5 c2 c3
          | exact sn_7 c2
          | exact sn_9 c2
          | exact sn_8 c2
        · refine zden_L (n := 2) (ρ := [x1, 0]) rfl ?_
          show (x1 = 52) → (fun (_ : Nat) (y : Int) (η' : zE) => pQu_sign [x1] η y η') 0 22 η
          intro c1
          show 22 = (yp_snY x1 η) ∧ η = (yp_snS x1 η)
          subst c1
          first
          | exact ⟨rfl, rfl⟩
          | exact sg_oS (by decide)
          | exact sg_oS (by omega)
          | exact sn_4 c2 c3
          | exact sn_5 c2 c3
          | exact sn_7 c2
          | exact sn_9 c2
          | exact sn_8 c2
        · refine zden_L (n := 2) (ρ := [x1, 0]) rfl ?_
          show (x1 = 53) → (fun (_ : Nat) (y : Int) (η' : zE) => pQu_sign [x1] η y η') 0 22 η
          intro c1
          show 22 = (yp_snY x1 η) ∧ η = (yp_snS x1 η)
          subst c1
          first
          | exact ⟨rfl, rfl⟩
          | exact sg_oS (by decide)
          | exact sg_oS (by omega)
          | exact sn_4 c2 c3
          | exact sn_5 c2 c3
          | exact sn_7 c2
          | exact sn_9 c2
          | exact sn_8 c2
        · refine zden_L (n := 2) (ρ := [x1, 0]) rfl ?_
          show (x1 = 54) → (fun (_ : Nat) (y : Int) (η' : zE) => pQu_sign [x1] η y η') 0 22 η
          intro c1
          show 22 = (yp_snY x1 η) ∧ η = (yp_snS x1 η)
          subst c1
          first
          | exact ⟨rfl, rfl⟩
          | exact sg_oS (by decide)
          | exact sg_oS (by omega)
          | exact sn_4 c2 c3
          | exact sn_5 c2 c3
          | exact sn_7 c2
          | exact sn_9 c2
          | exact sn_8 c2
        · refine zden_L (n := 2) (ρ := [x1, 0]) rfl ?_
          show (x1 = 55) → (fun (_ : Nat) (y : Int) (η' : zE) => pQu_sign [x1] η y η') 0 22 η
          intro c1
          show 22 = (yp_snY x1 η) ∧ η = (yp_snS x1 η)
          subst c1
          first
          | exact ⟨rfl, rfl⟩
          | exact sg_oS (by decide)
          | exact sg_oS (by omega)
          | exact sn_4 c2 c3
          | exact sn_5 c2 c3
          | exact sn_7 c2
          | exact sn_9 c2
          | exact sn_8 c2
        · refine zden_L (n := 2) (ρ := [x1, 0]) rfl ?_
          show (x1 = 56) → (fun (_ : Nat) (y : Int) (η' : zE) => pQu_sign [x1] η y η') 0 22 η
          intro c1
          show 22 = (yp_snY x1 η) ∧ η = (yp_snS x1 η)
          subst c1
          first
          | exact ⟨rfl, rfl⟩
          | exact sg_oS (by decide)
          | exact sg_oS (by omega)
          | exact sn_4 c2 c3
          | exact sn_5 c2 c3
          | exact sn_7 c2
          | exact sn_9 c2
          | exact sn_8 c2
        · refine zden_L (n := 2) (ρ := [x1, 0]) rfl ?_
          show (x1 = 57) → (fun (_ : Nat) (y : Int) (η' : zE) => pQu_sign [x1] η y η') 0 22 η
          intro c1
          show 22 = (yp_snY x1 η) ∧ η = (yp_snS x1 η)
          subst c1
          first
          | exact ⟨rfl, rfl⟩
          | exact sg_oS (by decide)
          | exact sg_oS (by omega)
          | exact sn_4 c2 c3
          | exact sn_5 c2 c3
          | exact sn_7 c2
          | exact sn_9 c2
          | exact sn_8 c2
        · refine zden_L (n := 2) (ρ := [x1, 0]) rfl ?_
          show (x1 = 58) → (fun (_ : Nat) (y : Int) (η' : zE) => pQu_sign [x1] η y η') 0 22 η
          intro c1
          show 22 = (yp_snY x1 η) ∧ η = (yp_snS x1 η)
          subst c1
          first
          | exact ⟨rfl, rfl⟩
          | exact sg_oS (by decide)
          | exact sg_oS (by omega)
          | exact sn_4 c2 c3
          | exact sn_5 c2 c3
          | exact sn_7 c2
          | exact sn_9 c2
          | exact sn_8 c2
        · refine zden_L (n := 2) (ρ := [x1, 0]) rfl ?_
          show (x1 = 59) → (fun (_ : Nat) (y : Int) (η' : zE) => pQu_sign [x1] η y η') 0 15 η
          intro c1
          show 15 = (yp_snY x1 η) ∧ η = (yp_snS x1 η)
          subst c1
          first
          | exact ⟨rfl, rfl⟩
          | exact sg_oS (by decide)
          | exact sg_oS (by omega)
          | exact sn_4 c2 c3
          | exact sn_5 c2 c3
          | exact sn_7 c2
          | exact sn_9 c2
          | exact sn_8 c2
        · refine zden_L (n := 2) (ρ := [x1, 0]) rfl ?_
          show (x1 = 60) → ((gC2 wl_u [(nat_lit 0, zPu_follows, zOu_follows, zMu_follows)] pCu_sign qCu_sign) 0).1 [62] η
          intro c1
          exact hpp
        · refine zden_L (n := 2) (ρ := [x1, 0]) rfl ?_
          show (x1 = 60) → ∀ (x2 : Int) (η1 : zE), ((gC2 wl_u [(nat_lit 0, zPu_follows, zOu_follows, zMu_follows)] pCu_sign qCu_sign) 0).2 [62] η x2 η1 → (x2 = 0) → ((gC2 wl_u [(nat_lit 0, zPu_follows, zOu_follows, zMu_follows)] pCu_sign qCu_sign) 0).1 [61] η1
          intro c1 x2 η1 h2 c2
          have k2 : sQ wl_u zTr zOu_follows zMu_follows [62] η x2 η1 ∧ pQu_follows [62] η x2 η1 := h2
          exact trivial
        · refine zden_L (n := 2) (ρ := [x1, 0]) rfl ?_
          show (x1 = 60) → ∀ (x2 : Int) (η1 : zE), ((gC2 wl_u [(nat_lit 0, zPu_follows, zOu_follows, zMu_follows)] pCu_sign qCu_sign) 0).2 [62] η x2 η1 → (x2 = 0) → ∀ (x3 : Int) (η2 : zE), ((gC2 wl_u [(nat_lit 0, zPu_follows, zOu_follows, zMu_follows)] pCu_sign qCu_sign) 0).2 [61] η1 x3 η2 → (x3 = 0) → (fun (_ : Nat) (y : Int) (η' : zE) => pQu_sign [x1] η y η') 0 4 η2
          intro c1 x2 η1 h2 c2 x3 η2 h3 c3
          have k2 : sQ wl_u zTr zOu_follows zMu_follows [62] η x2 η1 ∧ pQu_follows [62] η x2 η1 := h2
          have k3 : sQ wl_u zTr zOu_follows zMu_follows [61] η1 x3 η2 ∧ pQu_follows [61] η1 x3 η2 := h3
          obtain ⟨a2, b2⟩ : x2 = (yp_flY 62 η) ∧ η1 = (yp_flS 62 η) := k2.2
          clear k2 h2
          obtain ⟨a3, b3⟩ : x3 = (yp_flY 61 η1) ∧ η2 = (yp_flS 61 η1) := k3.2
          clear k3 h3
          show 4 = (yp_snY x1 η) ∧ η2 = (yp_snS x1 η)
          subst a2; subst b2
          subst a3; subst b3
          subst c1
          first
          | exact ⟨rfl, rfl⟩
          | exact sg_oS (by decide)
          | exact sg_oS (by omega)
          | exact sn_4 c2 c3
          | exact sn_5 c2 c3
          | exact sn_7 c2
          | exact sn_9 c2
          | exact sn_8 c2
        · refine zden_L (n := 2) (ρ := [x1, 0]) rfl ?_
          show (x1 = 60) → ∀ (x2 : Int) (η1 : zE), ((gC2 wl_u [(nat_lit 0, zPu_follows, zOu_follows, zMu_follows)] pCu_sign qCu_sign) 0).2 [62] η x2 η1 → (x2 = 0) → ∀ (x3 : Int) (η2 : zE), ((gC2 wl_u [(nat_lit 0, zPu_follows, zOu_follows, zMu_follows)] pCu_sign qCu_sign) 0).2 [61] η1 x3 η2 → (¬ x3 = 0) → (fun (_ : Nat) (y : Int) (η' : zE) => pQu_sign [x1] η y η') 0 5 η2
          intro c1 x2 η1 h2 c2 x3 η2 h3 c3
          have k2 : sQ wl_u zTr zOu_follows zMu_follows [62] η x2 η1 ∧ pQu_follows [62] η x2 η1 := h2
          have k3 : sQ wl_u zTr zOu_follows zMu_follows [61] η1 x3 η2 ∧ pQu_follows [61] η1 x3 η2 := h3
          obtain ⟨a2, b2⟩ : x2 = (yp_flY 62 η) ∧ η1 = (yp_flS 62 η) := k2.2
          clear k2 h2
          obtain ⟨a3, b3⟩ : x3 = (yp_flY 61 η1) ∧ η2 = (yp_flS 61 η1) := k3.2
          clear k3 h3
          show 5 = (yp_snY x1 η) ∧ η2 = (yp_snS x1 η)
          subst a2; subst b2
          subst a3; subst b3
          subst c1
          first
          | exact ⟨rfl, rfl⟩
          | exact sg_oS (by decide)
          | exact sg_oS (by omega)
          | exact sn_4 c2 c3
          | exact sn_5 c2 c3
          | exact sn_7 c2
          | exact sn_9 c2
          | exact sn_8 c2
        · refine zden_L (n := 2) (ρ := [x1, 0]) rfl ?_
          show (x1 = 60) → ∀ (x2 : Int) (η1 : zE), ((gC2 wl_u [(nat_lit 0, zPu_follows, zOu_follows, zMu_follows)] pCu_sign qCu_sign) 0).2 [62] η x2 η1 → (¬ x2 = 0) → (fun (_ : Nat) (y : Int) (η' : zE) => pQu_sign [x1] η y η') 0 7 η1
          intro c1 x2 η1 h2 c2
          have k2 : sQ wl_u zTr zOu_follows zMu_follows [62] η x2 η1 ∧ pQu_follows [62] η x2 η1 := h2
          obtain ⟨a2, b2⟩ : x2 = (yp_flY 62 η) ∧ η1 = (yp_flS 62 η) := k2.2
          clear k2 h2
          show 7 = (yp_snY x1 η) ∧ η1 = (yp_snS x1 η)
          subst a2; subst b2
          subst c1
          first
          | exact ⟨rfl, rfl⟩
          | exact sg_oS (by decide)
          | exact sg_oS (by omega)
          | exact sn_4 c2 c3
          | exact sn_5 c2 c3
          | exact sn_7 c2
          | exact sn_9 c2
          | exact sn_8 c2
        · refine zden_L (n := 2) (ρ := [x1, 0]) rfl ?_
          show (x1 = 61) → (fun (_ : Nat) (y : Int) (η' : zE) => pQu_sign [x1] η y η') 0 6 η
          intro c1
          show 6 = (yp_snY x1 η) ∧ η = (yp_snS x1 η)
          subst c1
          first
          | exact ⟨rfl, rfl⟩
          | exact sg_oS (by decide)
          | exact sg_oS (by omega)
          | exact sn_4 c2 c3
          | exact sn_5 c2 c3
          | exact sn_7 c2
          | exact sn_9 c2
          | exact sn_8 c2
        · refine zden_L (n := 2) (ρ := [x1, 0]) rfl ?_
          show (x1 = 62) → ((gC2 wl_u [(nat_lit 0, zPu_follows, zOu_follows, zMu_follows)] pCu_sign qCu_sign) 0).1 [61] η
          intro c1
          exact hpp
        · refine zden_L (n := 2) (ρ := [x1, 0]) rfl ?_
          show (x1 = 62) → ∀ (x2 : Int) (η1 : zE), ((gC2 wl_u [(nat_lit 0, zPu_follows, zOu_follows, zMu_follows)] pCu_sign qCu_sign) 0).2 [61] η x2 η1 → (x2 = 0) → (fun (_ : Nat) (y : Int) (η' : zE) => pQu_sign [x1] η y η') 0 9 η1
          intro c1 x2 η1 h2 c2
          have k2 : sQ wl_u zTr zOu_follows zMu_follows [61] η x2 η1 ∧ pQu_follows [61] η x2 η1 := h2
          obtain ⟨a2, b2⟩ : x2 = (yp_flY 61 η) ∧ η1 = (yp_flS 61 η) := k2.2
          clear k2 h2
          show 9 = (yp_snY x1 η) ∧ η1 = (yp_snS x1 η)
          subst a2; subst b2
          subst c1
          first
          | exact ⟨rfl, rfl⟩
          | exact sg_oS (by decide)
          | exact sg_oS (by omega)
          | exact sn_4 c2 c3
          | exact sn_5 c2 c3
          | exact sn_7 c2
          | exact sn_9 c2
          | exact sn_8 c2
        · refine zden_L (n := 2) (ρ := [x1, 0]) rfl ?_
          show (x1 = 62) → ∀ (x2 : Int) (η1 : zE), ((gC2 wl_u [(nat_lit 0, zPu_follows, zOu_follows, zMu_follows)] pCu_sign qCu_sign) 0).2 [61] η x2 η1 → (¬ x2 = 0) → (fun (_ : Nat) (y : Int) (η' : zE) => pQu_sign [x1] η y η') 0 8 η1
          intro c1 x2 η1 h2 c2
          have k2 : sQ wl_u zTr zOu_follows zMu_follows [61] η x2 η1 ∧ pQu_follows [61] η x2 η1 := h2
          obtain ⟨a2, b2⟩ : x2 = (yp_flY 61 η) ∧ η1 = (yp_flS 61 η) := k2.2
          clear k2 h2
          show 8 = (yp_snY x1 η) ∧ η1 = (yp_snS x1 η)
          subst a2; subst b2
          subst c1
          first
          | exact ⟨rfl, rfl⟩
          | exact sg_oS (by decide)
          | exact sg_oS (by omega)
          | exact sn_4 c2 c3
          | exact sn_5 c2 c3
          | exact sn_7 c2
          | exact sn_9 c2
          | exact sn_8 c2
      )
    (fun _ _ _ _ _ _ _ h => nomatch h)
    (fun _ h => nomatch h))
def zPu_takeLanguageWord : zPq := ([((.ofNat (nat_lit 0)), (.ofNat (nat_lit 19)))], [])
def zOu_takeLanguageWord : zPo := (((.ofNat (nat_lit 0)), (.ofNat (nat_lit 0))), [], [])
def zMu_takeLanguageWord : List zCe := [(nat_lit 60, nat_lit 7), (nat_lit 60, nat_lit 9)]
def pPu_takeLanguageWord : List Int → zE → Prop := (fun _ η => G_u η)
def pQu_takeLanguageWord : List Int → zE → Int → zE → Prop := fun xs η y η' => η' = yp_tlw (xs.getD 0 0) η
def pCu_takeLanguageWord : Nat → List Int → zE → Prop := fun c => match c with
  | _ => fun _ _ => True
def qCu_takeLanguageWord : Nat → List Int → zE → Int → zE → Prop := fun c => match c with
  | _ => fun _ _ _ _ => True
def iCu_takeLanguageWord : List Int → zE → Nat → List Int → zE → Prop := fun xs η0 c => match c with
  | _ => fun _ _ => True
def zVu_takeLanguageWord : List zIv := []
def zDu_takeLanguageWord : List (List zK) := []
def zEu_takeLanguageWord : List (List zK) := [[(nat_lit 11, nat_lit 0, [(nat_lit 0, (.ofNat (nat_lit 0)))]), (nat_lit 5, nat_lit 0, [(nat_lit 60, (.ofNat (nat_lit 0))), (nat_lit 0, (.ofNat (nat_lit 8))), (nat_lit 1, (.ofNat (nat_lit 0)))]), (nat_lit 5, nat_lit 0, [(nat_lit 60, (.ofNat (nat_lit 0))), (nat_lit 0, (.ofNat (nat_lit 6))), (nat_lit 0, (.ofNat (nat_lit 18)))]), (nat_lit 6, nat_lit 2, [(nat_lit 1, (.ofNat (nat_lit 0))), (nat_lit 0, (.ofNat (nat_lit 7)))]), (nat_lit 6, nat_lit 2, [(nat_lit 1, (.ofNat (nat_lit 0))), (nat_lit 0, (.ofNat (nat_lit 10)))]), (nat_lit 6, nat_lit 2, [(nat_lit 1, (.ofNat (nat_lit 0))), (nat_lit 0, (.ofNat (nat_lit 13)))])],
  [(nat_lit 11, nat_lit 0, [(nat_lit 0, (.ofNat (nat_lit 0)))]), (nat_lit 5, nat_lit 0, [(nat_lit 60, (.ofNat (nat_lit 0))), (nat_lit 0, (.ofNat (nat_lit 8))), (nat_lit 2, (.ofNat (nat_lit 0)))]), (nat_lit 0, nat_lit 2, [(nat_lit 1, (.ofNat (nat_lit 0))), (nat_lit 0, (.ofNat (nat_lit 7)))]), (nat_lit 5, nat_lit 0, [(nat_lit 60, (.ofNat (nat_lit 0))), (nat_lit 0, (.ofNat (nat_lit 6))), (nat_lit 0, (.ofNat (nat_lit 19)))]), (nat_lit 6, nat_lit 3, [(nat_lit 1, (.ofNat (nat_lit 0))), (nat_lit 0, (.ofNat (nat_lit 7)))]), (nat_lit 6, nat_lit 2, [(nat_lit 1, (.ofNat (nat_lit 0))), (nat_lit 0, (.ofNat (nat_lit 10)))]), (nat_lit 6, nat_lit 2, [(nat_lit 1, (.ofNat (nat_lit 0))), (nat_lit 0, (.ofNat (nat_lit 13)))])],
  [(nat_lit 11, nat_lit 0, [(nat_lit 0, (.ofNat (nat_lit 0)))]), (nat_lit 5, nat_lit 0, [(nat_lit 60, (.ofNat (nat_lit 0))), (nat_lit 0, (.ofNat (nat_lit 6))), (nat_lit 3, (.ofNat (nat_lit 0)))]), (nat_lit 0, nat_lit 2, [(nat_lit 2, (.ofNat (nat_lit 0))), (nat_lit 0, (.ofNat (nat_lit 10)))]), (nat_lit 0, nat_lit 1, [(nat_lit 0, (.ofNat (nat_lit 1))), (nat_lit 1, (.ofNat (nat_lit 0)))]), (nat_lit 6, nat_lit 3, [(nat_lit 1, (.ofNat (nat_lit 0))), (nat_lit 0, (.ofNat (nat_lit 10)))]), (nat_lit 6, nat_lit 2, [(nat_lit 1, (.ofNat (nat_lit 0))), (nat_lit 0, (.ofNat (nat_lit 13)))])],
  [(nat_lit 11, nat_lit 0, [(nat_lit 0, (.ofNat (nat_lit 0)))]), (nat_lit 5, nat_lit 0, [(nat_lit 60, (.ofNat (nat_lit 0))), (nat_lit 0, (.ofNat (nat_lit 8))), (nat_lit 2, (.ofNat (nat_lit 0)))]), (nat_lit 0, nat_lit 2, [(nat_lit 1, (.ofNat (nat_lit 0))), (nat_lit 0, (.ofNat (nat_lit 13)))]), (nat_lit 5, nat_lit 0, [(nat_lit 60, (.ofNat (nat_lit 0))), (nat_lit 0, (.ofNat (nat_lit 6))), (nat_lit 0, (.ofNat (nat_lit 17)))]), (nat_lit 6, nat_lit 3, [(nat_lit 1, (.ofNat (nat_lit 0))), (nat_lit 0, (.ofNat (nat_lit 13)))])]]
def zFu_takeLanguageWord : List (List zK) := []
set_option maxHeartbeats 8000000 in
theorem zu_takeLanguageWord {ro : Nat → List Int32} : zMet pr_P pr_K pr_df ro (sm_X0 1 6) 0 48 tm_u [(.inr (.inr (.inl (nat_lit 60)))), (.inl (nat_lit 1, (.ofNat (nat_lit 0))))] 0 [(nat_lit 60, nat_lit 3, nat_lit 1), (nat_lit 60, nat_lit 9, nat_lit 61), (nat_lit 60, nat_lit 10, nat_lit 62), (nat_lit 60, nat_lit 11, nat_lit 63), (nat_lit 60, nat_lit 2, nat_lit 32), (nat_lit 32, nat_lit 8, nat_lit 33), (nat_lit 32, nat_lit 9, nat_lit 34), (nat_lit 32, nat_lit 10, nat_lit 35), (nat_lit 32, nat_lit 11, nat_lit 36), (nat_lit 32, nat_lit 12, nat_lit 41), (nat_lit 32, nat_lit 13, nat_lit 46), (nat_lit 32, nat_lit 14, nat_lit 47), (nat_lit 36, nat_lit 0, nat_lit 37), (nat_lit 41, nat_lit 0, nat_lit 42), (nat_lit 36, nat_lit 1, nat_lit 38), (nat_lit 41, nat_lit 1, nat_lit 43), (nat_lit 36, nat_lit 2, nat_lit 39), (nat_lit 41, nat_lit 2, nat_lit 44), (nat_lit 36, nat_lit 3, nat_lit 40), (nat_lit 41, nat_lit 3, nat_lit 45), (nat_lit 47, nat_lit 2, nat_lit 48), (nat_lit 47, nat_lit 3, nat_lit 49), (nat_lit 47, nat_lit 4, nat_lit 50), (nat_lit 47, nat_lit 5, nat_lit 51), (nat_lit 47, nat_lit 6, nat_lit 52)] [] (fun xs η => sP wl_u zTr zPu_takeLanguageWord xs η ∧ pPu_takeLanguageWord xs η) (fun xs η y η' => sQ wl_u zTr zOu_takeLanguageWord zMu_takeLanguageWord xs η y η' ∧ pQu_takeLanguageWord xs η y η') :=
  zmet_alt (zmea_gen (mi := (nat_lit 1, nat_lit 1, nat_lit 3, nat_lit 2, nat_lit 0, tX3_takeLanguageWord)) (cd := []) (cu := []) (cs := []) (iv := zVu_takeLanguageWord) (po := [zOu_takeLanguageWord]) (pr := zPu_takeLanguageWord) (mods := zMu_takeLanguageWord) (D7 := zDu_takeLanguageWord) (D0 := zEu_takeLanguageWord) (Dm := zFu_takeLanguageWord) (f0 := 23) pCu_takeLanguageWord qCu_takeLanguageWord iCu_takeLanguageWord pPu_takeLanguageWord (fun xs η _ y η' => pQu_takeLanguageWord xs η y η') zX_low pr_mtR rfl (fun _ h => nomatch h) (by decide +kernel) (by decide +kernel) (by decide +kernel)
    (by
      intro xs η hr hl hp hpp
      match xs, hl, hp, hpp with
      | [x1], _, hp, hpp =>
        refine List.forall_mem_cons.mpr ⟨?_, List.forall_mem_cons.mpr ⟨?_, List.forall_mem_cons.mpr ⟨?_, List.forall_mem_cons.mpr ⟨?_, fun _ h => nomatch h⟩⟩⟩⟩
        · refine zden_L (n := 2) (ρ := [x1, 0]) rfl ?_
          show (x1 < 13) → (x1 < 10) → (x1 < 7) → ∀ η1 : zE, η1 = zup η 60 (Int.toNat 6) 18 → ∀ η2 : zE, η2 = zup η1 60 (Int.toNat 8) x1 → (fun (_ : Nat) (y : Int) (η' : zE) => pQu_takeLanguageWord [x1] η y η') 0 0 η2
          intro c1 c2 c3 η1 eη1 η2 eη2
          have hb : (0 : Int) ≤ x1 ∧ x1 ≤ 19 := hp.2.1.1
          rw [eη2, eη1]
          show _ = yp_tlw x1 η
          unfold yp_tlw
          rw [if_neg (by omega), if_neg (by omega), if_neg (by omega)]
          rfl
        · refine zden_L (n := 2) (ρ := [x1, 0]) rfl ?_
          show (x1 < 13) → (x1 < 10) → (7 ≤ x1) → ∀ η1 : zE, η1 = zup η 60 (Int.toNat 6) 19 → ∀ x2 : Int, x2 = zd 0 2 x1 7 → ∀ η2 : zE, η2 = zup η1 60 (Int.toNat 8) x2 → (fun (_ : Nat) (y : Int) (η' : zE) => pQu_takeLanguageWord [x1] η y η') 0 0 η2
          intro c1 c2 c3 η1 eη1 x2 e2 η2 eη2
          have hb : (0 : Int) ≤ x1 ∧ x1 ≤ 19 := hp.2.1.1
          rw [zd_s ⟨by omega, by omega⟩] at e2
          rw [eη2, eη1, e2]
          show _ = yp_tlw x1 η
          unfold yp_tlw
          rw [if_neg (by omega), if_neg (by omega), if_pos (by omega)]
          rfl
        · refine zden_L (n := 2) (ρ := [x1, 0]) rfl ?_
          show (x1 < 13) → (10 ≤ x1) → ∀ x2 : Int, x2 = zd 0 1 1 x1 → ∀ x3 : Int, x3 = zd 0 2 x2 10 → ∀ η1 : zE, η1 = zup η 60 (Int.toNat 6) x3 → (fun (_ : Nat) (y : Int) (η' : zE) => pQu_takeLanguageWord [x1] η y η') 0 0 η1
          intro c1 c2 x2 e2 x3 e3 η1 eη1
          have hb : (0 : Int) ≤ x1 ∧ x1 ≤ 19 := hp.2.1.1
          rw [zd_a ⟨by omega, by omega⟩] at e2
          rw [zd_s ⟨by omega, by omega⟩] at e3
          rw [eη1, show x3 = x1 - 9 by omega]
          show _ = yp_tlw x1 η
          unfold yp_tlw
          rw [if_neg (by omega), if_pos (by omega)]
          rfl
        · refine zden_L (n := 2) (ρ := [x1, 0]) rfl ?_
          show (13 ≤ x1) → ∀ η1 : zE, η1 = zup η 60 (Int.toNat 6) 17 → ∀ x2 : Int, x2 = zd 0 2 x1 13 → ∀ η2 : zE, η2 = zup η1 60 (Int.toNat 8) x2 → (fun (_ : Nat) (y : Int) (η' : zE) => pQu_takeLanguageWord [x1] η y η') 0 0 η2
          intro c1 η1 eη1 x2 e2 η2 eη2
          have hb : (0 : Int) ≤ x1 ∧ x1 ≤ 19 := hp.2.1.1
          rw [zd_s ⟨by omega, by omega⟩] at e2
          rw [eη2, eη1, e2]
          show _ = yp_tlw x1 η
          unfold yp_tlw
          rw [if_pos (by omega)]
          rfl
      )
    (fun _ _ _ _ _ _ _ h => nomatch h)
    (fun _ h => nomatch h))
def zPu_nextNumber : zPq := ([], [(nat_lit 60, nat_lit 8, (.ofNat (nat_lit 0)), (.ofNat (nat_lit 0)))])
def zOu_nextNumber : zPo := (((.ofNat (nat_lit 0)), (.ofNat (nat_lit 0))), [], [])
def zMu_nextNumber : List zCe := [(nat_lit 60, nat_lit 7), (nat_lit 60, nat_lit 9), (nat_lit 60, nat_lit 6)]
def pPu_nextNumber : List Int → zE → Prop := fun _ η => η 60 5 ≤ η 60 4
def pQu_nextNumber : List Int → zE → Int → zE → Prop := fun xs η y η' => η' = (yp_nn η)
def pCu_nextNumber : Nat → List Int → zE → Prop := fun c => match c with
  | _ => fun _ _ => True
def qCu_nextNumber : Nat → List Int → zE → Int → zE → Prop := fun c => match c with
  | _ => fun _ _ _ _ => True
def iCu_nextNumber : List Int → zE → Nat → List Int → zE → Prop := fun xs η0 c => match c with
  | 0 => fun ys η => (yp_nI η0 η)
  | _ => fun _ _ => True
def zVu_nextNumber : List zIv := [(nat_lit 0, ([], [(nat_lit 60, nat_lit 6, (.ofNat (nat_lit 16)), (.ofNat (nat_lit 16))), (nat_lit 60, nat_lit 8, (.ofNat (nat_lit 0)), (.ofNat (nat_lit 9999999)))]), ((.ofNat (nat_lit 700)), [((.negSucc (nat_lit 0)), nat_lit 1, nat_lit 60, nat_lit 5)]))]
def zUu_nextNumber : List zCu := [(nat_lit 6, nat_lit 0, [(nat_lit 0, (.inr (.inr (.inl (nat_lit 60)))))], [])]
def zDu_nextNumber : List (List zK) := []
def zEu_nextNumber : List (List zK) := [[(nat_lit 12, nat_lit 0, []), (nat_lit 5, nat_lit 0, [(nat_lit 60, (.ofNat (nat_lit 0))), (nat_lit 0, (.ofNat (nat_lit 6))), (nat_lit 0, (.ofNat (nat_lit 16)))])]]
def zFu_nextNumber : List (List zK) := []
def zDu_nextNumber_0 : List (List zK) := [[(nat_lit 7, nat_lit 0, [(nat_lit 3, (.ofNat (nat_lit 0))), (nat_lit 0, (.ofNat (nat_lit 700)))]), (nat_lit 4, nat_lit 0, [(nat_lit 60, (.ofNat (nat_lit 0))), (nat_lit 0, (.ofNat (nat_lit 5)))]), (nat_lit 6, nat_lit 2, [(nat_lit 1, (.ofNat (nat_lit 0))), (nat_lit 2, (.ofNat (nat_lit 0)))]), (nat_lit 4, nat_lit 0, [(nat_lit 60, (.ofNat (nat_lit 0))), (nat_lit 0, (.ofNat (nat_lit 4)))]), (nat_lit 4, nat_lit 0, [(nat_lit 60, (.ofNat (nat_lit 0))), (nat_lit 0, (.ofNat (nat_lit 5)))])],
  [(nat_lit 7, nat_lit 0, [(nat_lit 5, (.ofNat (nat_lit 0))), (nat_lit 0, (.ofNat (nat_lit 700)))]), (nat_lit 4, nat_lit 0, [(nat_lit 60, (.ofNat (nat_lit 0))), (nat_lit 0, (.ofNat (nat_lit 5)))]), (nat_lit 6, nat_lit 3, [(nat_lit 4, (.ofNat (nat_lit 0))), (nat_lit 0, (.ofNat (nat_lit 48)))]), (nat_lit 4, nat_lit 4, [(nat_lit 1, (.ofNat (nat_lit 0))), (nat_lit 3, (.ofNat (nat_lit 0)))]), (nat_lit 4, nat_lit 0, [(nat_lit 60, (.ofNat (nat_lit 0))), (nat_lit 0, (.ofNat (nat_lit 5)))]), (nat_lit 6, nat_lit 2, [(nat_lit 1, (.ofNat (nat_lit 0))), (nat_lit 2, (.ofNat (nat_lit 0)))]), (nat_lit 4, nat_lit 0, [(nat_lit 60, (.ofNat (nat_lit 0))), (nat_lit 0, (.ofNat (nat_lit 4)))]), (nat_lit 4, nat_lit 0, [(nat_lit 60, (.ofNat (nat_lit 0))), (nat_lit 0, (.ofNat (nat_lit 5)))])],
  [(nat_lit 7, nat_lit 0, [(nat_lit 10, (.ofNat (nat_lit 0))), (nat_lit 0, (.ofNat (nat_lit 700)))]), (nat_lit 4, nat_lit 0, [(nat_lit 60, (.ofNat (nat_lit 0))), (nat_lit 0, (.ofNat (nat_lit 5)))]), (nat_lit 0, nat_lit 3, [(nat_lit 8, (.ofNat (nat_lit 0))), (nat_lit 0, (.ofNat (nat_lit 10)))]), (nat_lit 4, nat_lit 0, [(nat_lit 60, (.ofNat (nat_lit 0))), (nat_lit 0, (.ofNat (nat_lit 8)))]), (nat_lit 6, nat_lit 2, [(nat_lit 7, (.ofNat (nat_lit 0))), (nat_lit 0, (.ofNat (nat_lit 1000000)))]), (nat_lit 4, nat_lit 0, [(nat_lit 60, (.ofNat (nat_lit 0))), (nat_lit 0, (.ofNat (nat_lit 8)))]), (nat_lit 6, nat_lit 5, [(nat_lit 6, (.ofNat (nat_lit 0))), (nat_lit 0, (.ofNat (nat_lit 57)))]), (nat_lit 4, nat_lit 4, [(nat_lit 1, (.ofNat (nat_lit 0))), (nat_lit 5, (.ofNat (nat_lit 0)))]), (nat_lit 4, nat_lit 0, [(nat_lit 60, (.ofNat (nat_lit 0))), (nat_lit 0, (.ofNat (nat_lit 5)))]), (nat_lit 6, nat_lit 3, [(nat_lit 4, (.ofNat (nat_lit 0))), (nat_lit 0, (.ofNat (nat_lit 48)))]), (nat_lit 4, nat_lit 4, [(nat_lit 1, (.ofNat (nat_lit 0))), (nat_lit 3, (.ofNat (nat_lit 0)))]), (nat_lit 4, nat_lit 0, [(nat_lit 60, (.ofNat (nat_lit 0))), (nat_lit 0, (.ofNat (nat_lit 5)))]), (nat_lit 6, nat_lit 2, [(nat_lit 1, (.ofNat (nat_lit 0))), (nat_lit 2, (.ofNat (nat_lit 0)))]), (nat_lit 4, nat_lit 0, [(nat_lit 60, (.ofNat (nat_lit 0))), (nat_lit 0, (.ofNat (nat_lit 4)))]), (nat_lit 4, nat_lit 0, [(nat_lit 60, (.ofNat (nat_lit 0))), (nat_lit 0, (.ofNat (nat_lit 5)))])]]
def zEu_nextNumber_0 : List (List zK) := [[(nat_lit 11, nat_lit 0, [(nat_lit 0, (.ofNat (nat_lit 0)))]), (nat_lit 6, nat_lit 3, [(nat_lit 1, (.ofNat (nat_lit 0))), (nat_lit 2, (.ofNat (nat_lit 0)))]), (nat_lit 4, nat_lit 0, [(nat_lit 60, (.ofNat (nat_lit 0))), (nat_lit 0, (.ofNat (nat_lit 4)))]), (nat_lit 4, nat_lit 0, [(nat_lit 60, (.ofNat (nat_lit 0))), (nat_lit 0, (.ofNat (nat_lit 5)))])],
  [(nat_lit 11, nat_lit 0, [(nat_lit 0, (.ofNat (nat_lit 0)))]), (nat_lit 6, nat_lit 2, [(nat_lit 4, (.ofNat (nat_lit 0))), (nat_lit 0, (.ofNat (nat_lit 48)))]), (nat_lit 4, nat_lit 4, [(nat_lit 1, (.ofNat (nat_lit 0))), (nat_lit 3, (.ofNat (nat_lit 0)))]), (nat_lit 4, nat_lit 0, [(nat_lit 60, (.ofNat (nat_lit 0))), (nat_lit 0, (.ofNat (nat_lit 5)))]), (nat_lit 6, nat_lit 2, [(nat_lit 1, (.ofNat (nat_lit 0))), (nat_lit 2, (.ofNat (nat_lit 0)))]), (nat_lit 4, nat_lit 0, [(nat_lit 60, (.ofNat (nat_lit 0))), (nat_lit 0, (.ofNat (nat_lit 4)))]), (nat_lit 4, nat_lit 0, [(nat_lit 60, (.ofNat (nat_lit 0))), (nat_lit 0, (.ofNat (nat_lit 5)))])],
  [(nat_lit 11, nat_lit 0, [(nat_lit 0, (.ofNat (nat_lit 0)))]), (nat_lit 6, nat_lit 4, [(nat_lit 6, (.ofNat (nat_lit 0))), (nat_lit 0, (.ofNat (nat_lit 57)))]), (nat_lit 4, nat_lit 4, [(nat_lit 1, (.ofNat (nat_lit 0))), (nat_lit 5, (.ofNat (nat_lit 0)))]), (nat_lit 4, nat_lit 0, [(nat_lit 60, (.ofNat (nat_lit 0))), (nat_lit 0, (.ofNat (nat_lit 5)))]), (nat_lit 6, nat_lit 3, [(nat_lit 4, (.ofNat (nat_lit 0))), (nat_lit 0, (.ofNat (nat_lit 48)))]), (nat_lit 4, nat_lit 4, [(nat_lit 1, (.ofNat (nat_lit 0))), (nat_lit 3, (.ofNat (nat_lit 0)))]), (nat_lit 4, nat_lit 0, [(nat_lit 60, (.ofNat (nat_lit 0))), (nat_lit 0, (.ofNat (nat_lit 5)))]), (nat_lit 6, nat_lit 2, [(nat_lit 1, (.ofNat (nat_lit 0))), (nat_lit 2, (.ofNat (nat_lit 0)))]), (nat_lit 4, nat_lit 0, [(nat_lit 60, (.ofNat (nat_lit 0))), (nat_lit 0, (.ofNat (nat_lit 4)))]), (nat_lit 4, nat_lit 0, [(nat_lit 60, (.ofNat (nat_lit 0))), (nat_lit 0, (.ofNat (nat_lit 5)))])],
  [(nat_lit 10, nat_lit 0, []), (nat_lit 5, nat_lit 0, [(nat_lit 60, (.ofNat (nat_lit 0))), (nat_lit 0, (.ofNat (nat_lit 5))), (nat_lit 9, (.ofNat (nat_lit 0)))]), (nat_lit 0, nat_lit 1, [(nat_lit 8, (.ofNat (nat_lit 0))), (nat_lit 0, (.ofNat (nat_lit 1)))]), (nat_lit 4, nat_lit 0, [(nat_lit 60, (.ofNat (nat_lit 0))), (nat_lit 0, (.ofNat (nat_lit 5)))]), (nat_lit 6, nat_lit 3, [(nat_lit 7, (.ofNat (nat_lit 0))), (nat_lit 0, (.ofNat (nat_lit 1000000)))]), (nat_lit 4, nat_lit 0, [(nat_lit 60, (.ofNat (nat_lit 0))), (nat_lit 0, (.ofNat (nat_lit 8)))]), (nat_lit 6, nat_lit 5, [(nat_lit 6, (.ofNat (nat_lit 0))), (nat_lit 0, (.ofNat (nat_lit 57)))]), (nat_lit 4, nat_lit 4, [(nat_lit 1, (.ofNat (nat_lit 0))), (nat_lit 5, (.ofNat (nat_lit 0)))]), (nat_lit 4, nat_lit 0, [(nat_lit 60, (.ofNat (nat_lit 0))), (nat_lit 0, (.ofNat (nat_lit 5)))]), (nat_lit 6, nat_lit 3, [(nat_lit 4, (.ofNat (nat_lit 0))), (nat_lit 0, (.ofNat (nat_lit 48)))]), (nat_lit 4, nat_lit 4, [(nat_lit 1, (.ofNat (nat_lit 0))), (nat_lit 3, (.ofNat (nat_lit 0)))]), (nat_lit 4, nat_lit 0, [(nat_lit 60, (.ofNat (nat_lit 0))), (nat_lit 0, (.ofNat (nat_lit 5)))]), (nat_lit 6, nat_lit 2, [(nat_lit 1, (.ofNat (nat_lit 0))), (nat_lit 2, (.ofNat (nat_lit 0)))]), (nat_lit 4, nat_lit 0, [(nat_lit 60, (.ofNat (nat_lit 0))), (nat_lit 0, (.ofNat (nat_lit 4)))]), (nat_lit 4, nat_lit 0, [(nat_lit 60, (.ofNat (nat_lit 0))), (nat_lit 0, (.ofNat (nat_lit 5)))])],
  [(nat_lit 10, nat_lit 0, []), (nat_lit 5, nat_lit 0, [(nat_lit 60, (.ofNat (nat_lit 0))), (nat_lit 0, (.ofNat (nat_lit 5))), (nat_lit 15, (.ofNat (nat_lit 0)))]), (nat_lit 0, nat_lit 1, [(nat_lit 14, (.ofNat (nat_lit 0))), (nat_lit 0, (.ofNat (nat_lit 1)))]), (nat_lit 4, nat_lit 0, [(nat_lit 60, (.ofNat (nat_lit 0))), (nat_lit 0, (.ofNat (nat_lit 5)))]), (nat_lit 5, nat_lit 0, [(nat_lit 60, (.ofNat (nat_lit 0))), (nat_lit 0, (.ofNat (nat_lit 8))), (nat_lit 13, (.ofNat (nat_lit 0)))]), (nat_lit 0, nat_lit 2, [(nat_lit 12, (.ofNat (nat_lit 0))), (nat_lit 0, (.ofNat (nat_lit 48)))]), (nat_lit 0, nat_lit 1, [(nat_lit 9, (.ofNat (nat_lit 0))), (nat_lit 11, (.ofNat (nat_lit 0)))]), (nat_lit 4, nat_lit 4, [(nat_lit 1, (.ofNat (nat_lit 0))), (nat_lit 10, (.ofNat (nat_lit 0)))]), (nat_lit 4, nat_lit 0, [(nat_lit 60, (.ofNat (nat_lit 0))), (nat_lit 0, (.ofNat (nat_lit 5)))]), (nat_lit 0, nat_lit 3, [(nat_lit 8, (.ofNat (nat_lit 0))), (nat_lit 0, (.ofNat (nat_lit 10)))]), (nat_lit 4, nat_lit 0, [(nat_lit 60, (.ofNat (nat_lit 0))), (nat_lit 0, (.ofNat (nat_lit 8)))]), (nat_lit 6, nat_lit 2, [(nat_lit 7, (.ofNat (nat_lit 0))), (nat_lit 0, (.ofNat (nat_lit 1000000)))]), (nat_lit 4, nat_lit 0, [(nat_lit 60, (.ofNat (nat_lit 0))), (nat_lit 0, (.ofNat (nat_lit 8)))]), (nat_lit 6, nat_lit 5, [(nat_lit 6, (.ofNat (nat_lit 0))), (nat_lit 0, (.ofNat (nat_lit 57)))]), (nat_lit 4, nat_lit 4, [(nat_lit 1, (.ofNat (nat_lit 0))), (nat_lit 5, (.ofNat (nat_lit 0)))]), (nat_lit 4, nat_lit 0, [(nat_lit 60, (.ofNat (nat_lit 0))), (nat_lit 0, (.ofNat (nat_lit 5)))]), (nat_lit 6, nat_lit 3, [(nat_lit 4, (.ofNat (nat_lit 0))), (nat_lit 0, (.ofNat (nat_lit 48)))]), (nat_lit 4, nat_lit 4, [(nat_lit 1, (.ofNat (nat_lit 0))), (nat_lit 3, (.ofNat (nat_lit 0)))]), (nat_lit 4, nat_lit 0, [(nat_lit 60, (.ofNat (nat_lit 0))), (nat_lit 0, (.ofNat (nat_lit 5)))]), (nat_lit 6, nat_lit 2, [(nat_lit 1, (.ofNat (nat_lit 0))), (nat_lit 2, (.ofNat (nat_lit 0)))]), (nat_lit 4, nat_lit 0, [(nat_lit 60, (.ofNat (nat_lit 0))), (nat_lit 0, (.ofNat (nat_lit 4)))]), (nat_lit 4, nat_lit 0, [(nat_lit 60, (.ofNat (nat_lit 0))), (nat_lit 0, (.ofNat (nat_lit 5)))])]]
def zFu_nextNumber_0 : List (List zK) := []
set_option maxHeartbeats 8000000 in
theorem zu_nextNumber {ro : Nat → List Int32} : zMet pr_P pr_K pr_df ro (sm_X0 1 6) 0 46 tm_u [(.inr (.inr (.inl (nat_lit 60))))] 0 [(nat_lit 60, nat_lit 3, nat_lit 1), (nat_lit 60, nat_lit 9, nat_lit 61), (nat_lit 60, nat_lit 10, nat_lit 62), (nat_lit 60, nat_lit 11, nat_lit 63), (nat_lit 60, nat_lit 2, nat_lit 32), (nat_lit 32, nat_lit 8, nat_lit 33), (nat_lit 32, nat_lit 9, nat_lit 34), (nat_lit 32, nat_lit 10, nat_lit 35), (nat_lit 32, nat_lit 11, nat_lit 36), (nat_lit 32, nat_lit 12, nat_lit 41), (nat_lit 32, nat_lit 13, nat_lit 46), (nat_lit 32, nat_lit 14, nat_lit 47), (nat_lit 36, nat_lit 0, nat_lit 37), (nat_lit 41, nat_lit 0, nat_lit 42), (nat_lit 36, nat_lit 1, nat_lit 38), (nat_lit 41, nat_lit 1, nat_lit 43), (nat_lit 36, nat_lit 2, nat_lit 39), (nat_lit 41, nat_lit 2, nat_lit 44), (nat_lit 36, nat_lit 3, nat_lit 40), (nat_lit 41, nat_lit 3, nat_lit 45), (nat_lit 47, nat_lit 2, nat_lit 48), (nat_lit 47, nat_lit 3, nat_lit 49), (nat_lit 47, nat_lit 4, nat_lit 50), (nat_lit 47, nat_lit 5, nat_lit 51), (nat_lit 47, nat_lit 6, nat_lit 52)] [] (fun xs η => sP wl_u zTr zPu_nextNumber xs η ∧ pPu_nextNumber xs η) (fun xs η y η' => sQ wl_u zTr zOu_nextNumber zMu_nextNumber xs η y η' ∧ pQu_nextNumber xs η y η') :=
  zmet_alt (zmea_gen (mi := (nat_lit 0, nat_lit 1, nat_lit 3, nat_lit 1, nat_lit 0, tX3_nextNumber)) (cd := []) (cu := zUu_nextNumber) (cs := []) (iv := zVu_nextNumber) (po := [zOu_nextNumber]) (pr := zPu_nextNumber) (mods := zMu_nextNumber) (D7 := zDu_nextNumber) (D0 := zEu_nextNumber) (Dm := zFu_nextNumber) (f0 := 8) pCu_nextNumber qCu_nextNumber iCu_nextNumber pPu_nextNumber (fun xs η _ y η' => pQu_nextNumber xs η y η') zX_low pr_mtR rfl (fun _ h => nomatch h) (by decide +kernel) (by decide +kernel) (by decide +kernel)
    (by
      intro xs η hr hl hp hpp
      match xs, hl, hp, hpp with
      | [], _, hp, hpp =>
        refine List.forall_mem_cons.mpr ⟨?_, fun _ h => nomatch h⟩
        · refine zden_L (n := 1) (ρ := [0]) rfl ?_
          show ∀ η1 : zE, η1 = zup η 60 (Int.toNat 6) 16 → (iCu_nextNumber [] η) 0 [] η1
          intro η1 eη1
          have b5 : (0 : Int) ≤ η 60 5 ∧ η 60 5 ≤ 700 := wf_ok (a := 5) (b := 5) (z := (0, 700)) hp.1 (by decide +kernel) (Nat.le_refl _) (Nat.le_refl _)
          have b4 : (0 : Int) ≤ η 60 4 ∧ η 60 4 ≤ 700 := wf_ok (a := 4) (b := 4) (z := (0, 700)) hp.1 (by decide +kernel) (Nat.le_refl _) (Nat.le_refl _)
          
          have h8 : η 60 8 = 0 := by
            have q : (0 : Int) ≤ η 60 8 ∧ η 60 8 ≤ 0 := hp.2.2 _ (List.mem_of_getElem? (i := 0) rfl)
            omega
          have hpp : η 60 5 ≤ η 60 4 := hpp
          rw [eη1]
          exact ynI_0 b5.1 hpp h8
      )
    (fun _ _ _ _ _ _ _ h => nomatch h)
    (List.forall_mem_cons.mpr ⟨⟨zDu_nextNumber_0, zEu_nextNumber_0, zFu_nextNumber_0, 49, by decide +kernel, (by
      intro xs η0 hlx hp hpp ys η hr hl hI hig
      match ys, hl, hI, hig with
      | [], _, hI, hig =>
        refine ⟨?_, ?_⟩
        · refine List.forall_mem_cons.mpr ⟨?_, List.forall_mem_cons.mpr ⟨?_, List.forall_mem_cons.mpr ⟨?_, List.forall_mem_cons.mpr ⟨?_, List.forall_mem_cons.mpr ⟨?_, fun _ h => nomatch h⟩⟩⟩⟩⟩
          · refine zden_L (n := 1) (ρ := [0]) rfl ?_
            show ∀ x1 : Int, x1 = η 60 (Int.toNat 5) → zok 0 x1 → ∀ x2 : Int, x2 = η 60 (Int.toNat 4) → zok 0 x2 → (x2 ≤ x1) → (fun (_ : Nat) (y : Int) (η' : zE) => pQu_nextNumber xs η0 y η') 0 0 η
            intro x1 e1 r1 x2 e2 r2 c1
            have b5 : (0 : Int) ≤ η 60 5 ∧ η 60 5 ≤ 700 := wf_ok (a := 5) (b := 5) (z := (0, 700)) hI.1.1 (by decide +kernel) (Nat.le_refl _) (Nat.le_refl _)
            have b4 : (0 : Int) ≤ η 60 4 ∧ η 60 4 ≤ 700 := wf_ok (a := 4) (b := 4) (z := (0, 700)) hI.1.1 (by decide +kernel) (Nat.le_refl _) (Nat.le_refl _)
            have e1 : x1 = η 60 5 := e1
            have e2 : x2 = η 60 4 := e2
            exact ynI_x hig b5.1 (Or.inl (by omega))
          · refine zden_L (n := 1) (ρ := [0]) rfl ?_
            show ∀ x1 : Int, x1 = η 60 (Int.toNat 5) → zok 0 x1 → ∀ x2 : Int, x2 = η 60 (Int.toNat 4) → zok 0 x2 → (x1 < x2) → ∀ x3 : Int, x3 = η 60 (Int.toNat 5) → zok 0 x3 → ∀ x4 : Int, x4 = η 1 (Int.toNat x3) → zok 4 x4 → (x4 < 48) → (fun (_ : Nat) (y : Int) (η' : zE) => pQu_nextNumber xs η0 y η') 0 0 η
            intro x1 e1 r1 x2 e2 r2 c1 x3 e3 r3 x4 e4 r4 c2
            have b5 : (0 : Int) ≤ η 60 5 ∧ η 60 5 ≤ 700 := wf_ok (a := 5) (b := 5) (z := (0, 700)) hI.1.1 (by decide +kernel) (Nat.le_refl _) (Nat.le_refl _)
            have b4 : (0 : Int) ≤ η 60 4 ∧ η 60 4 ≤ 700 := wf_ok (a := 4) (b := 4) (z := (0, 700)) hI.1.1 (by decide +kernel) (Nat.le_refl _) (Nat.le_refl _)
            have e1 : x1 = η 60 5 := e1
            have e2 : x2 = η 60 4 := e2
            have e3 : x3 = η 60 5 := e3
            have e4 : x4 = η 1 (Int.toNat x3) := e4
            exact ynI_x hig b5.1 (Or.inr ⟨by omega, yd_n (Or.inl (by rw [← show x3 = η 60 5 from e3, ← e4]; exact c2))⟩)
          · refine zden_L (n := 1) (ρ := [0]) rfl ?_
            show ∀ x1 : Int, x1 = η 60 (Int.toNat 5) → zok 0 x1 → ∀ x2 : Int, x2 = η 60 (Int.toNat 4) → zok 0 x2 → (x1 < x2) → ∀ x3 : Int, x3 = η 60 (Int.toNat 5) → zok 0 x3 → ∀ x4 : Int, x4 = η 1 (Int.toNat x3) → zok 4 x4 → (48 ≤ x4) → ∀ x5 : Int, x5 = η 60 (Int.toNat 5) → zok 0 x5 → ∀ x6 : Int, x6 = η 1 (Int.toNat x5) → zok 4 x6 → (57 < x6) → (fun (_ : Nat) (y : Int) (η' : zE) => pQu_nextNumber xs η0 y η') 0 0 η
            intro x1 e1 r1 x2 e2 r2 c1 x3 e3 r3 x4 e4 r4 c2 x5 e5 r5 x6 e6 r6 c3
            have b5 : (0 : Int) ≤ η 60 5 ∧ η 60 5 ≤ 700 := wf_ok (a := 5) (b := 5) (z := (0, 700)) hI.1.1 (by decide +kernel) (Nat.le_refl _) (Nat.le_refl _)
            have b4 : (0 : Int) ≤ η 60 4 ∧ η 60 4 ≤ 700 := wf_ok (a := 4) (b := 4) (z := (0, 700)) hI.1.1 (by decide +kernel) (Nat.le_refl _) (Nat.le_refl _)
            have e1 : x1 = η 60 5 := e1
            have e2 : x2 = η 60 4 := e2
            have e5 : x5 = η 60 5 := e5
            have e6 : x6 = η 1 (Int.toNat x5) := e6
            exact ynI_x hig b5.1 (Or.inr ⟨by omega, yd_n (Or.inr (by rw [← show x5 = η 60 5 from e5, ← e6]; exact c3))⟩)
          · refine zden_L (n := 1) (ρ := [0]) rfl ?_
            show ∀ x1 : Int, x1 = η 60 (Int.toNat 5) → zok 0 x1 → ∀ x2 : Int, x2 = η 60 (Int.toNat 4) → zok 0 x2 → (x1 < x2) → ∀ x3 : Int, x3 = η 60 (Int.toNat 5) → zok 0 x3 → ∀ x4 : Int, x4 = η 1 (Int.toNat x3) → zok 4 x4 → (48 ≤ x4) → ∀ x5 : Int, x5 = η 60 (Int.toNat 5) → zok 0 x5 → ∀ x6 : Int, x6 = η 1 (Int.toNat x5) → zok 4 x6 → (x6 ≤ 57) → ∀ x7 : Int, x7 = η 60 (Int.toNat 8) → zok 0 x7 → (1000000 ≤ x7) → ∀ x8 : Int, x8 = η 60 (Int.toNat 5) → zok 0 x8 → ∀ x9 : Int, x9 = zd 0 1 x8 1 → ∀ η1 : zE, η1 = zup η 60 (Int.toNat 5) x9 → (iCu_nextNumber xs η0) 0 [] η1 ∧ (fun (_ : Nat) (_ : List Int) (_ : zE) => (0 : Nat)) 0 [] η1 < 1
            intro x1 e1 r1 x2 e2 r2 c1 x3 e3 r3 x4 e4 r4 c2 x5 e5 r5 x6 e6 r6 c3 x7 e7 r7 c4 x8 e8 r8 x9 e9 η1 eη1
            have b5 : (0 : Int) ≤ η 60 5 ∧ η 60 5 ≤ 700 := wf_ok (a := 5) (b := 5) (z := (0, 700)) hI.1.1 (by decide +kernel) (Nat.le_refl _) (Nat.le_refl _)
            have b4 : (0 : Int) ≤ η 60 4 ∧ η 60 4 ≤ 700 := wf_ok (a := 4) (b := 4) (z := (0, 700)) hI.1.1 (by decide +kernel) (Nat.le_refl _) (Nat.le_refl _)
            have e1 : x1 = η 60 5 := e1
            have e2 : x2 = η 60 4 := e2
            have e3 : x3 = η 60 5 := e3
            have e4 : x4 = η 1 (Int.toNat x3) := e4
            have e5 : x5 = η 60 5 := e5
            have e6 : x6 = η 1 (Int.toNat x5) := e6
            have e7 : x7 = η 60 8 := e7
            have e8 : x8 = η 60 5 := e8
            rw [zd_a ⟨by omega, by omega⟩] at e9
            rw [e3] at e4
            rw [e5] at e6
            have g : η1 = zup (zup η 60 8 (η 60 8)) 60 5 (η 60 5 + 1) := by
              rw [eη1, e9, e8]
              funext r j
              grind [zup]
            exact ⟨ynI_s hig b5.1 (by omega) (by omega) (by omega) (if_neg (by omega)).symm g, Nat.zero_lt_one⟩
          · refine zden_L (n := 1) (ρ := [0]) rfl ?_
            show ∀ x1 : Int, x1 = η 60 (Int.toNat 5) → zok 0 x1 → ∀ x2 : Int, x2 = η 60 (Int.toNat 4) → zok 0 x2 → (x1 < x2) → ∀ x3 : Int, x3 = η 60 (Int.toNat 5) → zok 0 x3 → ∀ x4 : Int, x4 = η 1 (Int.toNat x3) → zok 4 x4 → (48 ≤ x4) → ∀ x5 : Int, x5 = η 60 (Int.toNat 5) → zok 0 x5 → ∀ x6 : Int, x6 = η 1 (Int.toNat x5) → zok 4 x6 → (x6 ≤ 57) → ∀ x7 : Int, x7 = η 60 (Int.toNat 8) → zok 0 x7 → (x7 < 1000000) → ∀ x8 : Int, x8 = η 60 (Int.toNat 8) → zok 0 x8 → ∀ x9 : Int, x9 = zd 0 3 x8 10 → ∀ x10 : Int, x10 = η 60 (Int.toNat 5) → zok 0 x10 → ∀ x11 : Int, x11 = η 1 (Int.toNat x10) → zok 4 x11 → ∀ x12 : Int, x12 = zd 0 1 x9 x11 → ∀ x13 : Int, x13 = zd 0 2 x12 48 → ∀ η1 : zE, η1 = zup η 60 (Int.toNat 8) x13 → ∀ x14 : Int, x14 = η1 60 (Int.toNat 5) → zok 0 x14 → ∀ x15 : Int, x15 = zd 0 1 x14 1 → ∀ η2 : zE, η2 = zup η1 60 (Int.toNat 5) x15 → (iCu_nextNumber xs η0) 0 [] η2 ∧ (fun (_ : Nat) (_ : List Int) (_ : zE) => (0 : Nat)) 0 [] η2 < 1
            intro x1 e1 r1 x2 e2 r2 c1 x3 e3 r3 x4 e4 r4 c2 x5 e5 r5 x6 e6 r6 c3 x7 e7 r7 c4 x8 e8 r8 x9 e9 x10 e10 r10 x11 e11 r11 x12 e12 x13 e13 η1 eη1 x14 e14 r14 x15 e15 η2 eη2
            have b5 : (0 : Int) ≤ η 60 5 ∧ η 60 5 ≤ 700 := wf_ok (a := 5) (b := 5) (z := (0, 700)) hI.1.1 (by decide +kernel) (Nat.le_refl _) (Nat.le_refl _)
            have b4 : (0 : Int) ≤ η 60 4 ∧ η 60 4 ≤ 700 := wf_ok (a := 4) (b := 4) (z := (0, 700)) hI.1.1 (by decide +kernel) (Nat.le_refl _) (Nat.le_refl _)
            have e1 : x1 = η 60 5 := e1
            have e2 : x2 = η 60 4 := e2
            have e3 : x3 = η 60 5 := e3
            have e4 : x4 = η 1 (Int.toNat x3) := e4
            have e5 : x5 = η 60 5 := e5
            have e6 : x6 = η 1 (Int.toNat x5) := e6
            have e7 : x7 = η 60 8 := e7
            have e8 : x8 = η 60 8 := e8
            have e10 : x10 = η 60 5 := e10
            have e11 : x11 = η 1 (Int.toNat x10) := e11
            have b8 : (0 : Int) ≤ η 60 8 ∧ η 60 8 ≤ 9999999 := hI.1.2.2 _ (List.mem_of_getElem? (i := 1) rfl)
            rw [e3] at e4
            rw [e5] at e6
            rw [e10] at e11
            rw [zd_m ⟨by omega, by omega⟩] at e9
            rw [zd_a ⟨by omega, by omega⟩] at e12
            rw [zd_s ⟨by omega, by omega⟩] at e13
            have q1 : η1 60 5 = η 60 5 := by rw [eη1]; rfl
            have e14 : x14 = η1 60 5 := e14
            rw [zd_a ⟨by omega, by omega⟩] at e15
            have g : η2 = zup (zup η 60 8 x13) 60 5 (η 60 5 + 1) := by
              rw [eη2, e15, e14, q1, eη1]
              rfl
            exact ⟨ynI_s hig b5.1 (by omega) (by omega) (by omega) ((show x13 = _ by omega).trans (if_pos (by omega)).symm) g, Nat.zero_lt_one⟩
        · exact fun _ h => nomatch h
      )⟩, (fun _ h => nomatch h)⟩))
def zPu_nextWord : zPq := ([], [])
def zOu_nextWord : zPo := (((.ofNat (nat_lit 0)), (.ofNat (nat_lit 0))), [], [])
def zMu_nextWord : List zCe := [(nat_lit 60, nat_lit 7), (nat_lit 60, nat_lit 9), (nat_lit 60, nat_lit 6)]
def pPu_nextWord : List Int → zE → Prop := fun _ η => η 60 5 ≤ η 60 4 ∧ η 60 7 = η 60 5 ∧ η 60 8 = 0
def pQu_nextWord : List Int → zE → Int → zE → Prop := fun xs η y η' => yp_wk η → η' = (yp_nw η)
def pCu_nextWord : Nat → List Int → zE → Prop := fun c => match c with
  | 0 => pPu_takeLanguageWord
  | _ => fun _ _ => True
def qCu_nextWord : Nat → List Int → zE → Int → zE → Prop := fun c => match c with
  | 0 => pQu_takeLanguageWord
  | _ => fun _ _ _ _ => True
def iCu_nextWord : List Int → zE → Nat → List Int → zE → Prop := fun xs η0 c => match c with
  | 0 => fun ys η => (yp_wI η0 (ys.getD 0 0) η)
  | 1 => fun ys η => (yp_wk η0 → yp_wJ η0 (ys.getD 0 0) (ys.getD 1 0) η)
  | _ => fun _ _ => True
def zVu_nextWord : List zIv := [(nat_lit 0, ([((.negSucc (nat_lit 2147483647)), (.ofNat (nat_lit 2147483647)))], []), ((.ofNat (nat_lit 800)), [((.negSucc (nat_lit 0)), nat_lit 1, nat_lit 60, nat_lit 5)])), (nat_lit 1, ([((.negSucc (nat_lit 2147483647)), (.ofNat (nat_lit 2147483647))), ((.ofNat (nat_lit 0)), (.ofNat (nat_lit 20)))], []), ((.ofNat (nat_lit 20)), [((.negSucc (nat_lit 0)), nat_lit 0, nat_lit 1, nat_lit 0)]))]
def zUu_nextWord : List zCu := [(nat_lit 2, nat_lit 0, [(nat_lit 0, (.inr (.inr (.inl (nat_lit 60))))), (nat_lit 1, (.inl (nat_lit 1, (.ofNat (nat_lit 0)))))], []), (nat_lit 133, nat_lit 1, [(nat_lit 0, (.inr (.inr (.inl (nat_lit 60))))), (nat_lit 1, (.inl (nat_lit 1, (.ofNat (nat_lit 0))))), (nat_lit 2, (.inl (nat_lit 2, (.ofNat (nat_lit 0)))))], [])]
def zDu_nextWord : List (List zK) := []
def zEu_nextWord : List (List zK) := [[(nat_lit 12, nat_lit 0, [(nat_lit 0, (.ofNat (nat_lit 0)))])]]
def zFu_nextWord : List (List zK) := []
def zDu_nextWord_0 : List (List zK) := [[(nat_lit 7, nat_lit 0, [(nat_lit 4, (.ofNat (nat_lit 0))), (nat_lit 0, (.ofNat (nat_lit 700)))]), (nat_lit 4, nat_lit 0, [(nat_lit 60, (.ofNat (nat_lit 0))), (nat_lit 0, (.ofNat (nat_lit 5)))]), (nat_lit 6, nat_lit 2, [(nat_lit 2, (.ofNat (nat_lit 0))), (nat_lit 3, (.ofNat (nat_lit 0)))]), (nat_lit 4, nat_lit 0, [(nat_lit 60, (.ofNat (nat_lit 0))), (nat_lit 0, (.ofNat (nat_lit 4)))]), (nat_lit 4, nat_lit 0, [(nat_lit 60, (.ofNat (nat_lit 0))), (nat_lit 0, (.ofNat (nat_lit 5)))])],
  [(nat_lit 7, nat_lit 0, [(nat_lit 6, (.ofNat (nat_lit 0))), (nat_lit 0, (.ofNat (nat_lit 700)))]), (nat_lit 4, nat_lit 0, [(nat_lit 60, (.ofNat (nat_lit 0))), (nat_lit 0, (.ofNat (nat_lit 5)))]), (nat_lit 6, nat_lit 3, [(nat_lit 5, (.ofNat (nat_lit 0))), (nat_lit 0, (.ofNat (nat_lit 97)))]), (nat_lit 4, nat_lit 4, [(nat_lit 1, (.ofNat (nat_lit 0))), (nat_lit 4, (.ofNat (nat_lit 0)))]), (nat_lit 4, nat_lit 0, [(nat_lit 60, (.ofNat (nat_lit 0))), (nat_lit 0, (.ofNat (nat_lit 5)))]), (nat_lit 6, nat_lit 2, [(nat_lit 2, (.ofNat (nat_lit 0))), (nat_lit 3, (.ofNat (nat_lit 0)))]), (nat_lit 4, nat_lit 0, [(nat_lit 60, (.ofNat (nat_lit 0))), (nat_lit 0, (.ofNat (nat_lit 4)))]), (nat_lit 4, nat_lit 0, [(nat_lit 60, (.ofNat (nat_lit 0))), (nat_lit 0, (.ofNat (nat_lit 5)))])],
  [(nat_lit 7, nat_lit 0, [(nat_lit 11, (.ofNat (nat_lit 0))), (nat_lit 0, (.ofNat (nat_lit 700)))]), (nat_lit 4, nat_lit 0, [(nat_lit 60, (.ofNat (nat_lit 0))), (nat_lit 0, (.ofNat (nat_lit 5)))]), (nat_lit 6, nat_lit 2, [(nat_lit 10, (.ofNat (nat_lit 0))), (nat_lit 0, (.ofNat (nat_lit 6)))]), (nat_lit 0, nat_lit 2, [(nat_lit 8, (.ofNat (nat_lit 0))), (nat_lit 9, (.ofNat (nat_lit 0)))]), (nat_lit 4, nat_lit 0, [(nat_lit 60, (.ofNat (nat_lit 0))), (nat_lit 0, (.ofNat (nat_lit 7)))]), (nat_lit 4, nat_lit 0, [(nat_lit 60, (.ofNat (nat_lit 0))), (nat_lit 0, (.ofNat (nat_lit 5)))]), (nat_lit 6, nat_lit 5, [(nat_lit 7, (.ofNat (nat_lit 0))), (nat_lit 0, (.ofNat (nat_lit 122)))]), (nat_lit 4, nat_lit 4, [(nat_lit 1, (.ofNat (nat_lit 0))), (nat_lit 6, (.ofNat (nat_lit 0)))]), (nat_lit 4, nat_lit 0, [(nat_lit 60, (.ofNat (nat_lit 0))), (nat_lit 0, (.ofNat (nat_lit 5)))]), (nat_lit 6, nat_lit 3, [(nat_lit 5, (.ofNat (nat_lit 0))), (nat_lit 0, (.ofNat (nat_lit 97)))]), (nat_lit 4, nat_lit 4, [(nat_lit 1, (.ofNat (nat_lit 0))), (nat_lit 4, (.ofNat (nat_lit 0)))]), (nat_lit 4, nat_lit 0, [(nat_lit 60, (.ofNat (nat_lit 0))), (nat_lit 0, (.ofNat (nat_lit 5)))]), (nat_lit 6, nat_lit 2, [(nat_lit 2, (.ofNat (nat_lit 0))), (nat_lit 3, (.ofNat (nat_lit 0)))]), (nat_lit 4, nat_lit 0, [(nat_lit 60, (.ofNat (nat_lit 0))), (nat_lit 0, (.ofNat (nat_lit 4)))]), (nat_lit 4, nat_lit 0, [(nat_lit 60, (.ofNat (nat_lit 0))), (nat_lit 0, (.ofNat (nat_lit 5)))])]]
def zEu_nextWord_0 : List (List zK) := [[(nat_lit 10, nat_lit 1, [(nat_lit 1, (.ofNat (nat_lit 0))), (nat_lit 0, (.ofNat (nat_lit 0)))]), (nat_lit 5, nat_lit 0, [(nat_lit 60, (.ofNat (nat_lit 0))), (nat_lit 0, (.ofNat (nat_lit 8))), (nat_lit 1, (.ofNat (nat_lit 0)))]), (nat_lit 5, nat_lit 0, [(nat_lit 60, (.ofNat (nat_lit 0))), (nat_lit 0, (.ofNat (nat_lit 6))), (nat_lit 0, (.ofNat (nat_lit 20)))]), (nat_lit 6, nat_lit 5, [(nat_lit 6, (.ofNat (nat_lit 0))), (nat_lit 0, (.ofNat (nat_lit 6)))]), (nat_lit 0, nat_lit 2, [(nat_lit 4, (.ofNat (nat_lit 0))), (nat_lit 5, (.ofNat (nat_lit 0)))]), (nat_lit 4, nat_lit 0, [(nat_lit 60, (.ofNat (nat_lit 0))), (nat_lit 0, (.ofNat (nat_lit 7)))]), (nat_lit 4, nat_lit 0, [(nat_lit 60, (.ofNat (nat_lit 0))), (nat_lit 0, (.ofNat (nat_lit 5)))]), (nat_lit 6, nat_lit 3, [(nat_lit 2, (.ofNat (nat_lit 0))), (nat_lit 3, (.ofNat (nat_lit 0)))]), (nat_lit 4, nat_lit 0, [(nat_lit 60, (.ofNat (nat_lit 0))), (nat_lit 0, (.ofNat (nat_lit 4)))]), (nat_lit 4, nat_lit 0, [(nat_lit 60, (.ofNat (nat_lit 0))), (nat_lit 0, (.ofNat (nat_lit 5)))])],
  [(nat_lit 11, nat_lit 0, [(nat_lit 0, (.ofNat (nat_lit 0)))]), (nat_lit 5, nat_lit 0, [(nat_lit 60, (.ofNat (nat_lit 0))), (nat_lit 0, (.ofNat (nat_lit 6))), (nat_lit 0, (.ofNat (nat_lit 22)))]), (nat_lit 6, nat_lit 4, [(nat_lit 6, (.ofNat (nat_lit 0))), (nat_lit 0, (.ofNat (nat_lit 6)))]), (nat_lit 0, nat_lit 2, [(nat_lit 4, (.ofNat (nat_lit 0))), (nat_lit 5, (.ofNat (nat_lit 0)))]), (nat_lit 4, nat_lit 0, [(nat_lit 60, (.ofNat (nat_lit 0))), (nat_lit 0, (.ofNat (nat_lit 7)))]), (nat_lit 4, nat_lit 0, [(nat_lit 60, (.ofNat (nat_lit 0))), (nat_lit 0, (.ofNat (nat_lit 5)))]), (nat_lit 6, nat_lit 3, [(nat_lit 2, (.ofNat (nat_lit 0))), (nat_lit 3, (.ofNat (nat_lit 0)))]), (nat_lit 4, nat_lit 0, [(nat_lit 60, (.ofNat (nat_lit 0))), (nat_lit 0, (.ofNat (nat_lit 4)))]), (nat_lit 4, nat_lit 0, [(nat_lit 60, (.ofNat (nat_lit 0))), (nat_lit 0, (.ofNat (nat_lit 5)))])],
  [(nat_lit 10, nat_lit 1, [(nat_lit 1, (.ofNat (nat_lit 0))), (nat_lit 0, (.ofNat (nat_lit 0)))]), (nat_lit 5, nat_lit 0, [(nat_lit 60, (.ofNat (nat_lit 0))), (nat_lit 0, (.ofNat (nat_lit 8))), (nat_lit 1, (.ofNat (nat_lit 0)))]), (nat_lit 5, nat_lit 0, [(nat_lit 60, (.ofNat (nat_lit 0))), (nat_lit 0, (.ofNat (nat_lit 6))), (nat_lit 0, (.ofNat (nat_lit 20)))]), (nat_lit 6, nat_lit 5, [(nat_lit 8, (.ofNat (nat_lit 0))), (nat_lit 0, (.ofNat (nat_lit 6)))]), (nat_lit 0, nat_lit 2, [(nat_lit 6, (.ofNat (nat_lit 0))), (nat_lit 7, (.ofNat (nat_lit 0)))]), (nat_lit 4, nat_lit 0, [(nat_lit 60, (.ofNat (nat_lit 0))), (nat_lit 0, (.ofNat (nat_lit 7)))]), (nat_lit 4, nat_lit 0, [(nat_lit 60, (.ofNat (nat_lit 0))), (nat_lit 0, (.ofNat (nat_lit 5)))]), (nat_lit 6, nat_lit 2, [(nat_lit 5, (.ofNat (nat_lit 0))), (nat_lit 0, (.ofNat (nat_lit 97)))]), (nat_lit 4, nat_lit 4, [(nat_lit 1, (.ofNat (nat_lit 0))), (nat_lit 4, (.ofNat (nat_lit 0)))]), (nat_lit 4, nat_lit 0, [(nat_lit 60, (.ofNat (nat_lit 0))), (nat_lit 0, (.ofNat (nat_lit 5)))]), (nat_lit 6, nat_lit 2, [(nat_lit 2, (.ofNat (nat_lit 0))), (nat_lit 3, (.ofNat (nat_lit 0)))]), (nat_lit 4, nat_lit 0, [(nat_lit 60, (.ofNat (nat_lit 0))), (nat_lit 0, (.ofNat (nat_lit 4)))]), (nat_lit 4, nat_lit 0, [(nat_lit 60, (.ofNat (nat_lit 0))), (nat_lit 0, (.ofNat (nat_lit 5)))])],
  [(nat_lit 11, nat_lit 0, [(nat_lit 0, (.ofNat (nat_lit 0)))]), (nat_lit 5, nat_lit 0, [(nat_lit 60, (.ofNat (nat_lit 0))), (nat_lit 0, (.ofNat (nat_lit 6))), (nat_lit 0, (.ofNat (nat_lit 22)))]), (nat_lit 6, nat_lit 4, [(nat_lit 8, (.ofNat (nat_lit 0))), (nat_lit 0, (.ofNat (nat_lit 6)))]), (nat_lit 0, nat_lit 2, [(nat_lit 6, (.ofNat (nat_lit 0))), (nat_lit 7, (.ofNat (nat_lit 0)))]), (nat_lit 4, nat_lit 0, [(nat_lit 60, (.ofNat (nat_lit 0))), (nat_lit 0, (.ofNat (nat_lit 7)))]), (nat_lit 4, nat_lit 0, [(nat_lit 60, (.ofNat (nat_lit 0))), (nat_lit 0, (.ofNat (nat_lit 5)))]), (nat_lit 6, nat_lit 2, [(nat_lit 5, (.ofNat (nat_lit 0))), (nat_lit 0, (.ofNat (nat_lit 97)))]), (nat_lit 4, nat_lit 4, [(nat_lit 1, (.ofNat (nat_lit 0))), (nat_lit 4, (.ofNat (nat_lit 0)))]), (nat_lit 4, nat_lit 0, [(nat_lit 60, (.ofNat (nat_lit 0))), (nat_lit 0, (.ofNat (nat_lit 5)))]), (nat_lit 6, nat_lit 2, [(nat_lit 2, (.ofNat (nat_lit 0))), (nat_lit 3, (.ofNat (nat_lit 0)))]), (nat_lit 4, nat_lit 0, [(nat_lit 60, (.ofNat (nat_lit 0))), (nat_lit 0, (.ofNat (nat_lit 4)))]), (nat_lit 4, nat_lit 0, [(nat_lit 60, (.ofNat (nat_lit 0))), (nat_lit 0, (.ofNat (nat_lit 5)))])],
  [(nat_lit 10, nat_lit 1, [(nat_lit 1, (.ofNat (nat_lit 0))), (nat_lit 0, (.ofNat (nat_lit 0)))]), (nat_lit 5, nat_lit 0, [(nat_lit 60, (.ofNat (nat_lit 0))), (nat_lit 0, (.ofNat (nat_lit 8))), (nat_lit 1, (.ofNat (nat_lit 0)))]), (nat_lit 5, nat_lit 0, [(nat_lit 60, (.ofNat (nat_lit 0))), (nat_lit 0, (.ofNat (nat_lit 6))), (nat_lit 0, (.ofNat (nat_lit 20)))]), (nat_lit 6, nat_lit 5, [(nat_lit 10, (.ofNat (nat_lit 0))), (nat_lit 0, (.ofNat (nat_lit 6)))]), (nat_lit 0, nat_lit 2, [(nat_lit 8, (.ofNat (nat_lit 0))), (nat_lit 9, (.ofNat (nat_lit 0)))]), (nat_lit 4, nat_lit 0, [(nat_lit 60, (.ofNat (nat_lit 0))), (nat_lit 0, (.ofNat (nat_lit 7)))]), (nat_lit 4, nat_lit 0, [(nat_lit 60, (.ofNat (nat_lit 0))), (nat_lit 0, (.ofNat (nat_lit 5)))]), (nat_lit 6, nat_lit 4, [(nat_lit 7, (.ofNat (nat_lit 0))), (nat_lit 0, (.ofNat (nat_lit 122)))]), (nat_lit 4, nat_lit 4, [(nat_lit 1, (.ofNat (nat_lit 0))), (nat_lit 6, (.ofNat (nat_lit 0)))]), (nat_lit 4, nat_lit 0, [(nat_lit 60, (.ofNat (nat_lit 0))), (nat_lit 0, (.ofNat (nat_lit 5)))]), (nat_lit 6, nat_lit 3, [(nat_lit 5, (.ofNat (nat_lit 0))), (nat_lit 0, (.ofNat (nat_lit 97)))]), (nat_lit 4, nat_lit 4, [(nat_lit 1, (.ofNat (nat_lit 0))), (nat_lit 4, (.ofNat (nat_lit 0)))]), (nat_lit 4, nat_lit 0, [(nat_lit 60, (.ofNat (nat_lit 0))), (nat_lit 0, (.ofNat (nat_lit 5)))]), (nat_lit 6, nat_lit 2, [(nat_lit 2, (.ofNat (nat_lit 0))), (nat_lit 3, (.ofNat (nat_lit 0)))]), (nat_lit 4, nat_lit 0, [(nat_lit 60, (.ofNat (nat_lit 0))), (nat_lit 0, (.ofNat (nat_lit 4)))]), (nat_lit 4, nat_lit 0, [(nat_lit 60, (.ofNat (nat_lit 0))), (nat_lit 0, (.ofNat (nat_lit 5)))])],
  [(nat_lit 11, nat_lit 0, [(nat_lit 0, (.ofNat (nat_lit 0)))]), (nat_lit 5, nat_lit 0, [(nat_lit 60, (.ofNat (nat_lit 0))), (nat_lit 0, (.ofNat (nat_lit 6))), (nat_lit 0, (.ofNat (nat_lit 22)))]), (nat_lit 6, nat_lit 4, [(nat_lit 10, (.ofNat (nat_lit 0))), (nat_lit 0, (.ofNat (nat_lit 6)))]), (nat_lit 0, nat_lit 2, [(nat_lit 8, (.ofNat (nat_lit 0))), (nat_lit 9, (.ofNat (nat_lit 0)))]), (nat_lit 4, nat_lit 0, [(nat_lit 60, (.ofNat (nat_lit 0))), (nat_lit 0, (.ofNat (nat_lit 7)))]), (nat_lit 4, nat_lit 0, [(nat_lit 60, (.ofNat (nat_lit 0))), (nat_lit 0, (.ofNat (nat_lit 5)))]), (nat_lit 6, nat_lit 4, [(nat_lit 7, (.ofNat (nat_lit 0))), (nat_lit 0, (.ofNat (nat_lit 122)))]), (nat_lit 4, nat_lit 4, [(nat_lit 1, (.ofNat (nat_lit 0))), (nat_lit 6, (.ofNat (nat_lit 0)))]), (nat_lit 4, nat_lit 0, [(nat_lit 60, (.ofNat (nat_lit 0))), (nat_lit 0, (.ofNat (nat_lit 5)))]), (nat_lit 6, nat_lit 3, [(nat_lit 5, (.ofNat (nat_lit 0))), (nat_lit 0, (.ofNat (nat_lit 97)))]), (nat_lit 4, nat_lit 4, [(nat_lit 1, (.ofNat (nat_lit 0))), (nat_lit 4, (.ofNat (nat_lit 0)))]), (nat_lit 4, nat_lit 0, [(nat_lit 60, (.ofNat (nat_lit 0))), (nat_lit 0, (.ofNat (nat_lit 5)))]), (nat_lit 6, nat_lit 2, [(nat_lit 2, (.ofNat (nat_lit 0))), (nat_lit 3, (.ofNat (nat_lit 0)))]), (nat_lit 4, nat_lit 0, [(nat_lit 60, (.ofNat (nat_lit 0))), (nat_lit 0, (.ofNat (nat_lit 4)))]), (nat_lit 4, nat_lit 0, [(nat_lit 60, (.ofNat (nat_lit 0))), (nat_lit 0, (.ofNat (nat_lit 5)))])],
  [(nat_lit 10, nat_lit 0, [(nat_lit 1, (.ofNat (nat_lit 0)))]), (nat_lit 5, nat_lit 0, [(nat_lit 60, (.ofNat (nat_lit 0))), (nat_lit 0, (.ofNat (nat_lit 5))), (nat_lit 12, (.ofNat (nat_lit 0)))]), (nat_lit 0, nat_lit 1, [(nat_lit 11, (.ofNat (nat_lit 0))), (nat_lit 0, (.ofNat (nat_lit 1)))]), (nat_lit 4, nat_lit 0, [(nat_lit 60, (.ofNat (nat_lit 0))), (nat_lit 0, (.ofNat (nat_lit 5)))]), (nat_lit 6, nat_lit 3, [(nat_lit 10, (.ofNat (nat_lit 0))), (nat_lit 0, (.ofNat (nat_lit 6)))]), (nat_lit 0, nat_lit 2, [(nat_lit 8, (.ofNat (nat_lit 0))), (nat_lit 9, (.ofNat (nat_lit 0)))]), (nat_lit 4, nat_lit 0, [(nat_lit 60, (.ofNat (nat_lit 0))), (nat_lit 0, (.ofNat (nat_lit 7)))]), (nat_lit 4, nat_lit 0, [(nat_lit 60, (.ofNat (nat_lit 0))), (nat_lit 0, (.ofNat (nat_lit 5)))]), (nat_lit 6, nat_lit 5, [(nat_lit 7, (.ofNat (nat_lit 0))), (nat_lit 0, (.ofNat (nat_lit 122)))]), (nat_lit 4, nat_lit 4, [(nat_lit 1, (.ofNat (nat_lit 0))), (nat_lit 6, (.ofNat (nat_lit 0)))]), (nat_lit 4, nat_lit 0, [(nat_lit 60, (.ofNat (nat_lit 0))), (nat_lit 0, (.ofNat (nat_lit 5)))]), (nat_lit 6, nat_lit 3, [(nat_lit 5, (.ofNat (nat_lit 0))), (nat_lit 0, (.ofNat (nat_lit 97)))]), (nat_lit 4, nat_lit 4, [(nat_lit 1, (.ofNat (nat_lit 0))), (nat_lit 4, (.ofNat (nat_lit 0)))]), (nat_lit 4, nat_lit 0, [(nat_lit 60, (.ofNat (nat_lit 0))), (nat_lit 0, (.ofNat (nat_lit 5)))]), (nat_lit 6, nat_lit 2, [(nat_lit 2, (.ofNat (nat_lit 0))), (nat_lit 3, (.ofNat (nat_lit 0)))]), (nat_lit 4, nat_lit 0, [(nat_lit 60, (.ofNat (nat_lit 0))), (nat_lit 0, (.ofNat (nat_lit 4)))]), (nat_lit 4, nat_lit 0, [(nat_lit 60, (.ofNat (nat_lit 0))), (nat_lit 0, (.ofNat (nat_lit 5)))])],
  [(nat_lit 10, nat_lit 0, [(nat_lit 21, (.ofNat (nat_lit 0)))]), (nat_lit 5, nat_lit 0, [(nat_lit 60, (.ofNat (nat_lit 0))), (nat_lit 0, (.ofNat (nat_lit 5))), (nat_lit 23, (.ofNat (nat_lit 0)))]), (nat_lit 0, nat_lit 1, [(nat_lit 22, (.ofNat (nat_lit 0))), (nat_lit 0, (.ofNat (nat_lit 1)))]), (nat_lit 4, nat_lit 0, [(nat_lit 60, (.ofNat (nat_lit 0))), (nat_lit 0, (.ofNat (nat_lit 5)))]), (nat_lit 0, nat_lit 5, [(nat_lit 1, (.ofNat (nat_lit 0))), (nat_lit 20, (.ofNat (nat_lit 0)))]), (nat_lit 0, nat_lit 6, [(nat_lit 14, (.ofNat (nat_lit 0))), (nat_lit 19, (.ofNat (nat_lit 0)))]), (nat_lit 0, nat_lit 3, [(nat_lit 0, (.ofNat (nat_lit 5))), (nat_lit 18, (.ofNat (nat_lit 0)))]), (nat_lit 0, nat_lit 2, [(nat_lit 0, (.ofNat (nat_lit 5))), (nat_lit 17, (.ofNat (nat_lit 0)))]), (nat_lit 0, nat_lit 2, [(nat_lit 15, (.ofNat (nat_lit 0))), (nat_lit 16, (.ofNat (nat_lit 0)))]), (nat_lit 4, nat_lit 0, [(nat_lit 60, (.ofNat (nat_lit 0))), (nat_lit 0, (.ofNat (nat_lit 7)))]), (nat_lit 4, nat_lit 0, [(nat_lit 60, (.ofNat (nat_lit 0))), (nat_lit 0, (.ofNat (nat_lit 5)))]), (nat_lit 0, nat_lit 1, [(nat_lit 13, (.ofNat (nat_lit 0))), (nat_lit 0, (.ofNat (nat_lit 1)))]), (nat_lit 0, nat_lit 2, [(nat_lit 12, (.ofNat (nat_lit 0))), (nat_lit 0, (.ofNat (nat_lit 97)))]), (nat_lit 4, nat_lit 4, [(nat_lit 1, (.ofNat (nat_lit 0))), (nat_lit 11, (.ofNat (nat_lit 0)))]), (nat_lit 4, nat_lit 0, [(nat_lit 60, (.ofNat (nat_lit 0))), (nat_lit 0, (.ofNat (nat_lit 5)))]), (nat_lit 6, nat_lit 2, [(nat_lit 10, (.ofNat (nat_lit 0))), (nat_lit 0, (.ofNat (nat_lit 6)))]), (nat_lit 0, nat_lit 2, [(nat_lit 8, (.ofNat (nat_lit 0))), (nat_lit 9, (.ofNat (nat_lit 0)))]), (nat_lit 4, nat_lit 0, [(nat_lit 60, (.ofNat (nat_lit 0))), (nat_lit 0, (.ofNat (nat_lit 7)))]), (nat_lit 4, nat_lit 0, [(nat_lit 60, (.ofNat (nat_lit 0))), (nat_lit 0, (.ofNat (nat_lit 5)))]), (nat_lit 6, nat_lit 5, [(nat_lit 7, (.ofNat (nat_lit 0))), (nat_lit 0, (.ofNat (nat_lit 122)))]), (nat_lit 4, nat_lit 4, [(nat_lit 1, (.ofNat (nat_lit 0))), (nat_lit 6, (.ofNat (nat_lit 0)))]), (nat_lit 4, nat_lit 0, [(nat_lit 60, (.ofNat (nat_lit 0))), (nat_lit 0, (.ofNat (nat_lit 5)))]), (nat_lit 6, nat_lit 3, [(nat_lit 5, (.ofNat (nat_lit 0))), (nat_lit 0, (.ofNat (nat_lit 97)))]), (nat_lit 4, nat_lit 4, [(nat_lit 1, (.ofNat (nat_lit 0))), (nat_lit 4, (.ofNat (nat_lit 0)))]), (nat_lit 4, nat_lit 0, [(nat_lit 60, (.ofNat (nat_lit 0))), (nat_lit 0, (.ofNat (nat_lit 5)))]), (nat_lit 6, nat_lit 2, [(nat_lit 2, (.ofNat (nat_lit 0))), (nat_lit 3, (.ofNat (nat_lit 0)))]), (nat_lit 4, nat_lit 0, [(nat_lit 60, (.ofNat (nat_lit 0))), (nat_lit 0, (.ofNat (nat_lit 4)))]), (nat_lit 4, nat_lit 0, [(nat_lit 60, (.ofNat (nat_lit 0))), (nat_lit 0, (.ofNat (nat_lit 5)))])]]
def zFu_nextWord_0 : List (List zK) := []
def zDu_nextWord_1 : List (List zK) := [[(nat_lit 7, nat_lit 0, [(nat_lit 2, (.ofNat (nat_lit 0))), (nat_lit 0, (.ofNat (nat_lit 20)))]), (nat_lit 6, nat_lit 2, [(nat_lit 2, (.ofNat (nat_lit 0))), (nat_lit 0, (.ofNat (nat_lit 20)))])]]
def zEu_nextWord_1 : List (List zK) := [[(nat_lit 11, nat_lit 0, [(nat_lit 0, (.ofNat (nat_lit 0)))]), (nat_lit 6, nat_lit 3, [(nat_lit 2, (.ofNat (nat_lit 0))), (nat_lit 0, (.ofNat (nat_lit 20)))])],
  [(nat_lit 10, nat_lit 1, [(nat_lit 1, (.ofNat (nat_lit 0))), (nat_lit 4, (.ofNat (nat_lit 0)))]), (nat_lit 0, nat_lit 1, [(nat_lit 2, (.ofNat (nat_lit 0))), (nat_lit 0, (.ofNat (nat_lit 1)))]), (nat_lit 6, nat_lit 1, [(nat_lit 3, (.ofNat (nat_lit 0))), (nat_lit 1, (.ofNat (nat_lit 0)))]), (nat_lit 4, nat_lit 0, [(nat_lit 62, (.ofNat (nat_lit 0))), (nat_lit 2, (.ofNat (nat_lit 0)))]), (nat_lit 6, nat_lit 2, [(nat_lit 2, (.ofNat (nat_lit 0))), (nat_lit 0, (.ofNat (nat_lit 20)))])],
  [(nat_lit 13, nat_lit 0, [(nat_lit 2, (.ofNat (nat_lit 0)))]), (nat_lit 6, nat_lit 0, [(nat_lit 3, (.ofNat (nat_lit 0))), (nat_lit 1, (.ofNat (nat_lit 0)))]), (nat_lit 4, nat_lit 0, [(nat_lit 62, (.ofNat (nat_lit 0))), (nat_lit 2, (.ofNat (nat_lit 0)))]), (nat_lit 6, nat_lit 2, [(nat_lit 2, (.ofNat (nat_lit 0))), (nat_lit 0, (.ofNat (nat_lit 20)))])],
  [(nat_lit 10, nat_lit 1, [(nat_lit 1, (.ofNat (nat_lit 0))), (nat_lit 5, (.ofNat (nat_lit 0)))]), (nat_lit 0, nat_lit 1, [(nat_lit 2, (.ofNat (nat_lit 0))), (nat_lit 0, (.ofNat (nat_lit 1)))]), (nat_lit 8, nat_lit 0, [(nat_lit 2, (.ofNat (nat_lit 0)))]), (nat_lit 6, nat_lit 0, [(nat_lit 3, (.ofNat (nat_lit 0))), (nat_lit 1, (.ofNat (nat_lit 0)))]), (nat_lit 4, nat_lit 0, [(nat_lit 62, (.ofNat (nat_lit 0))), (nat_lit 2, (.ofNat (nat_lit 0)))]), (nat_lit 6, nat_lit 2, [(nat_lit 2, (.ofNat (nat_lit 0))), (nat_lit 0, (.ofNat (nat_lit 20)))])]]
def zFu_nextWord_1 : List (List zK) := []
set_option maxHeartbeats 8000000 in
theorem zu_nextWord {ro : Nat → List Int32} : zMet pr_P pr_K pr_df ro (sm_X0 1 6) 1 47 tm_u [(.inr (.inr (.inl (nat_lit 60))))] 0 [(nat_lit 60, nat_lit 3, nat_lit 1), (nat_lit 60, nat_lit 9, nat_lit 61), (nat_lit 60, nat_lit 10, nat_lit 62), (nat_lit 60, nat_lit 11, nat_lit 63), (nat_lit 60, nat_lit 2, nat_lit 32), (nat_lit 32, nat_lit 8, nat_lit 33), (nat_lit 32, nat_lit 9, nat_lit 34), (nat_lit 32, nat_lit 10, nat_lit 35), (nat_lit 32, nat_lit 11, nat_lit 36), (nat_lit 32, nat_lit 12, nat_lit 41), (nat_lit 32, nat_lit 13, nat_lit 46), (nat_lit 32, nat_lit 14, nat_lit 47), (nat_lit 36, nat_lit 0, nat_lit 37), (nat_lit 41, nat_lit 0, nat_lit 42), (nat_lit 36, nat_lit 1, nat_lit 38), (nat_lit 41, nat_lit 1, nat_lit 43), (nat_lit 36, nat_lit 2, nat_lit 39), (nat_lit 41, nat_lit 2, nat_lit 44), (nat_lit 36, nat_lit 3, nat_lit 40), (nat_lit 41, nat_lit 3, nat_lit 45), (nat_lit 47, nat_lit 2, nat_lit 48), (nat_lit 47, nat_lit 3, nat_lit 49), (nat_lit 47, nat_lit 4, nat_lit 50), (nat_lit 47, nat_lit 5, nat_lit 51), (nat_lit 47, nat_lit 6, nat_lit 52)] [] (fun xs η => sP wl_u zTr zPu_nextWord xs η ∧ pPu_nextWord xs η) (fun xs η y η' => sQ wl_u zTr zOu_nextWord zMu_nextWord xs η y η' ∧ pQu_nextWord xs η y η') :=
  zmet_alt (zmea_gen (mi := (nat_lit 0, nat_lit 1, nat_lit 3, nat_lit 3, nat_lit 0, tX3_nextWord)) (cd := [(nat_lit 48, nat_lit 0, nat_lit 0, [(.inr (.inr (.inl (nat_lit 60)))), (.inl (nat_lit 1, (.ofNat (nat_lit 0))))], nat_lit 0, [(nat_lit 60, nat_lit 3, nat_lit 1), (nat_lit 60, nat_lit 9, nat_lit 61), (nat_lit 60, nat_lit 10, nat_lit 62), (nat_lit 60, nat_lit 11, nat_lit 63), (nat_lit 60, nat_lit 2, nat_lit 32), (nat_lit 32, nat_lit 8, nat_lit 33), (nat_lit 32, nat_lit 9, nat_lit 34), (nat_lit 32, nat_lit 10, nat_lit 35), (nat_lit 32, nat_lit 11, nat_lit 36), (nat_lit 32, nat_lit 12, nat_lit 41), (nat_lit 32, nat_lit 13, nat_lit 46), (nat_lit 32, nat_lit 14, nat_lit 47), (nat_lit 36, nat_lit 0, nat_lit 37), (nat_lit 41, nat_lit 0, nat_lit 42), (nat_lit 36, nat_lit 1, nat_lit 38), (nat_lit 41, nat_lit 1, nat_lit 43), (nat_lit 36, nat_lit 2, nat_lit 39), (nat_lit 41, nat_lit 2, nat_lit 44), (nat_lit 36, nat_lit 3, nat_lit 40), (nat_lit 41, nat_lit 3, nat_lit 45), (nat_lit 47, nat_lit 2, nat_lit 48), (nat_lit 47, nat_lit 3, nat_lit 49), (nat_lit 47, nat_lit 4, nat_lit 50), (nat_lit 47, nat_lit 5, nat_lit 51), (nat_lit 47, nat_lit 6, nat_lit 52)], [])]) (cu := zUu_nextWord) (cs := [(nat_lit 0, zPu_takeLanguageWord, zOu_takeLanguageWord, zMu_takeLanguageWord)]) (iv := zVu_nextWord) (po := [zOu_nextWord]) (pr := zPu_nextWord) (mods := zMu_nextWord) (D7 := zDu_nextWord) (D0 := zEu_nextWord) (Dm := zFu_nextWord) (f0 := 7) pCu_nextWord qCu_nextWord iCu_nextWord pPu_nextWord (fun xs η _ y η' => pQu_nextWord xs η y η') zX_low pr_mtR rfl (List.forall_mem_cons.mpr ⟨zu_takeLanguageWord, fun _ h => nomatch h⟩) (by decide +kernel) (by decide +kernel) (by decide +kernel)
    (by
      intro xs η hr hl hp hpp
      match xs, hl, hp, hpp with
      | [], _, hp, hpp =>
        refine List.forall_mem_cons.mpr ⟨?_, fun _ h => nomatch h⟩
        · refine zden_L (n := 1) (ρ := [0]) rfl ?_
          show (iCu_nextWord [] η) 0 [0] η
          
          have b5 : (0 : Int) ≤ η 60 5 ∧ η 60 5 ≤ 700 := wf_ok (a := 5) (b := 5) (z := (0, 700)) hp.1 (by decide +kernel) (Nat.le_refl _) (Nat.le_refl _)
          have b4 : (0 : Int) ≤ η 60 4 ∧ η 60 4 ≤ 700 := wf_ok (a := 4) (b := 4) (z := (0, 700)) hp.1 (by decide +kernel) (Nat.le_refl _) (Nat.le_refl _)
          
          exact ywI_0 b5.1 hpp.1
      )
    (fun _ _ _ _ _ _ _ h => nomatch h)
    (List.forall_mem_cons.mpr ⟨⟨zDu_nextWord_0, zEu_nextWord_0, zFu_nextWord_0, 60, by decide +kernel, (by
      intro xs η0 hlx hp hpp ys η hr hl hI hig
      match ys, hl, hI, hig with
      | [x1], _, hI, hig =>
        refine ⟨?_, ?_⟩
        · refine List.forall_mem_cons.mpr ⟨?_, List.forall_mem_cons.mpr ⟨?_, List.forall_mem_cons.mpr ⟨?_, List.forall_mem_cons.mpr ⟨?_, List.forall_mem_cons.mpr ⟨?_, List.forall_mem_cons.mpr ⟨?_, List.forall_mem_cons.mpr ⟨?_, List.forall_mem_cons.mpr ⟨?_, fun _ h => nomatch h⟩⟩⟩⟩⟩⟩⟩⟩
          · refine zden_L (n := 2) (ρ := [x1, 0]) rfl ?_
            show ∀ x2 : Int, x2 = η 60 (Int.toNat 5) → zok 0 x2 → ∀ x3 : Int, x3 = η 60 (Int.toNat 4) → zok 0 x3 → (x3 ≤ x2) → ∀ x4 : Int, x4 = η 60 (Int.toNat 5) → zok 0 x4 → ∀ x5 : Int, x5 = η 60 (Int.toNat 7) → zok 0 x5 → ∀ x6 : Int, x6 = zd 0 2 x4 x5 → (x6 ≤ 6) → ∀ η1 : zE, η1 = zup η 60 (Int.toNat 6) 20 → ∀ η2 : zE, η2 = zup η1 60 (Int.toNat 8) x1 → (iCu_nextWord xs η0) 1 [x1, 0] η2 ∧ (fun (_ : Nat) (_ : List Int) (_ : zE) => (0 : Nat)) 1 [x1, 0] η2 < 1
            intro x2 e2 r2 x3 e3 r3 c1 x4 e4 r4 x5 e5 r5 x6 e6 c2 η1 eη1 η2 eη2
            have b5 : (0 : Int) ≤ η 60 5 ∧ η 60 5 ≤ 700 := wf_ok (a := 5) (b := 5) (z := (0, 700)) hI.1.1 (by decide +kernel) (Nat.le_refl _) (Nat.le_refl _)
            have b4 : (0 : Int) ≤ η 60 4 ∧ η 60 4 ≤ 700 := wf_ok (a := 4) (b := 4) (z := (0, 700)) hI.1.1 (by decide +kernel) (Nat.le_refl _) (Nat.le_refl _)
            have p0 : (0 : Int) ≤ η0 60 5 ∧ η0 60 5 ≤ 700 := wf_ok (a := 5) (b := 5) (z := (0, 700)) hp.1 (by decide +kernel) (Nat.le_refl _) (Nat.le_refl _)
            have hpp : η0 60 5 ≤ η0 60 4 ∧ η0 60 7 = η0 60 5 ∧ η0 60 8 = 0 := hpp
            have hig : yp_wI η0 x1 η := hig
            have hs : η 60 7 = η0 60 5 := by
              obtain ⟨a, _, _, q, _⟩ := hig
              rw [q]
              exact hpp.2.1
            have e2 : x2 = η 60 5 := e2
            have e3 : x3 = η 60 4 := e3
            have e4 : x4 = η 60 5 := e4
            have e5 : x5 = η 60 7 := e5
            rw [zd_s ⟨by omega, by omega⟩] at e6
            exact ⟨fun _ => by rw [eη2, eη1]; exact ywJ_0 hig b5.1 hs p0.1 (Or.inl (show η 60 4 ≤ η 60 5 by omega)) (by omega), Nat.zero_lt_one⟩
          · refine zden_L (n := 2) (ρ := [x1, 0]) rfl ?_
            show ∀ x2 : Int, x2 = η 60 (Int.toNat 5) → zok 0 x2 → ∀ x3 : Int, x3 = η 60 (Int.toNat 4) → zok 0 x3 → (x3 ≤ x2) → ∀ x4 : Int, x4 = η 60 (Int.toNat 5) → zok 0 x4 → ∀ x5 : Int, x5 = η 60 (Int.toNat 7) → zok 0 x5 → ∀ x6 : Int, x6 = zd 0 2 x4 x5 → (6 < x6) → ∀ η1 : zE, η1 = zup η 60 (Int.toNat 6) 22 → (fun (_ : Nat) (y : Int) (η' : zE) => pQu_nextWord xs η0 y η') 0 0 η1
            intro x2 e2 r2 x3 e3 r3 c1 x4 e4 r4 x5 e5 r5 x6 e6 c2 η1 eη1
            have b5 : (0 : Int) ≤ η 60 5 ∧ η 60 5 ≤ 700 := wf_ok (a := 5) (b := 5) (z := (0, 700)) hI.1.1 (by decide +kernel) (Nat.le_refl _) (Nat.le_refl _)
            have b4 : (0 : Int) ≤ η 60 4 ∧ η 60 4 ≤ 700 := wf_ok (a := 4) (b := 4) (z := (0, 700)) hI.1.1 (by decide +kernel) (Nat.le_refl _) (Nat.le_refl _)
            have p0 : (0 : Int) ≤ η0 60 5 ∧ η0 60 5 ≤ 700 := wf_ok (a := 5) (b := 5) (z := (0, 700)) hp.1 (by decide +kernel) (Nat.le_refl _) (Nat.le_refl _)
            have hpp : η0 60 5 ≤ η0 60 4 ∧ η0 60 7 = η0 60 5 ∧ η0 60 8 = 0 := hpp
            have hig : yp_wI η0 x1 η := hig
            have hs : η 60 7 = η0 60 5 := by
              obtain ⟨a, _, _, q, _⟩ := hig
              rw [q]
              exact hpp.2.1
            have e2 : x2 = η 60 5 := e2
            have e3 : x3 = η 60 4 := e3
            have e4 : x4 = η 60 5 := e4
            have e5 : x5 = η 60 7 := e5
            rw [zd_s ⟨by omega, by omega⟩] at e6
            refine fun _ => ?_
            rw [eη1]
            exact ywJ_w hig b5.1 hs p0.1 hpp.2.2 (Or.inl (show η 60 4 ≤ η 60 5 by omega)) (by omega)
          · refine zden_L (n := 2) (ρ := [x1, 0]) rfl ?_
            show ∀ x2 : Int, x2 = η 60 (Int.toNat 5) → zok 0 x2 → ∀ x3 : Int, x3 = η 60 (Int.toNat 4) → zok 0 x3 → (x2 < x3) → ∀ x4 : Int, x4 = η 60 (Int.toNat 5) → zok 0 x4 → ∀ x5 : Int, x5 = η 1 (Int.toNat x4) → zok 4 x5 → (x5 < 97) → ∀ x6 : Int, x6 = η 60 (Int.toNat 5) → zok 0 x6 → ∀ x7 : Int, x7 = η 60 (Int.toNat 7) → zok 0 x7 → ∀ x8 : Int, x8 = zd 0 2 x6 x7 → (x8 ≤ 6) → ∀ η1 : zE, η1 = zup η 60 (Int.toNat 6) 20 → ∀ η2 : zE, η2 = zup η1 60 (Int.toNat 8) x1 → (iCu_nextWord xs η0) 1 [x1, 0] η2 ∧ (fun (_ : Nat) (_ : List Int) (_ : zE) => (0 : Nat)) 1 [x1, 0] η2 < 1
            intro x2 e2 r2 x3 e3 r3 c1 x4 e4 r4 x5 e5 r5 c2 x6 e6 r6 x7 e7 r7 x8 e8 c3 η1 eη1 η2 eη2
            have b5 : (0 : Int) ≤ η 60 5 ∧ η 60 5 ≤ 700 := wf_ok (a := 5) (b := 5) (z := (0, 700)) hI.1.1 (by decide +kernel) (Nat.le_refl _) (Nat.le_refl _)
            have b4 : (0 : Int) ≤ η 60 4 ∧ η 60 4 ≤ 700 := wf_ok (a := 4) (b := 4) (z := (0, 700)) hI.1.1 (by decide +kernel) (Nat.le_refl _) (Nat.le_refl _)
            have p0 : (0 : Int) ≤ η0 60 5 ∧ η0 60 5 ≤ 700 := wf_ok (a := 5) (b := 5) (z := (0, 700)) hp.1 (by decide +kernel) (Nat.le_refl _) (Nat.le_refl _)
            have hpp : η0 60 5 ≤ η0 60 4 ∧ η0 60 7 = η0 60 5 ∧ η0 60 8 = 0 := hpp
            have hig : yp_wI η0 x1 η := hig
            have hs : η 60 7 = η0 60 5 := by
              obtain ⟨a, _, _, q, _⟩ := hig
              rw [q]
              exact hpp.2.1
            have e2 : x2 = η 60 5 := e2
            have e3 : x3 = η 60 4 := e3
            have e4 : x4 = η 60 5 := e4
            have e5 : x5 = η 1 (Int.toNat x4) := e5
            have e6 : x6 = η 60 5 := e6
            have e7 : x7 = η 60 7 := e7
            rw [zd_s ⟨by omega, by omega⟩] at e8
            exact ⟨fun _ => by rw [eη2, eη1]; exact ywJ_0 hig b5.1 hs p0.1 (Or.inr ⟨show η 60 5 < η 60 4 by omega, yl_n (Or.inl (by rw [← show x4 = η 60 5 from e4, ← e5]; exact c2))⟩) (by omega), Nat.zero_lt_one⟩
          · refine zden_L (n := 2) (ρ := [x1, 0]) rfl ?_
            show ∀ x2 : Int, x2 = η 60 (Int.toNat 5) → zok 0 x2 → ∀ x3 : Int, x3 = η 60 (Int.toNat 4) → zok 0 x3 → (x2 < x3) → ∀ x4 : Int, x4 = η 60 (Int.toNat 5) → zok 0 x4 → ∀ x5 : Int, x5 = η 1 (Int.toNat x4) → zok 4 x5 → (x5 < 97) → ∀ x6 : Int, x6 = η 60 (Int.toNat 5) → zok 0 x6 → ∀ x7 : Int, x7 = η 60 (Int.toNat 7) → zok 0 x7 → ∀ x8 : Int, x8 = zd 0 2 x6 x7 → (6 < x8) → ∀ η1 : zE, η1 = zup η 60 (Int.toNat 6) 22 → (fun (_ : Nat) (y : Int) (η' : zE) => pQu_nextWord xs η0 y η') 0 0 η1
            intro x2 e2 r2 x3 e3 r3 c1 x4 e4 r4 x5 e5 r5 c2 x6 e6 r6 x7 e7 r7 x8 e8 c3 η1 eη1
            have b5 : (0 : Int) ≤ η 60 5 ∧ η 60 5 ≤ 700 := wf_ok (a := 5) (b := 5) (z := (0, 700)) hI.1.1 (by decide +kernel) (Nat.le_refl _) (Nat.le_refl _)
            have b4 : (0 : Int) ≤ η 60 4 ∧ η 60 4 ≤ 700 := wf_ok (a := 4) (b := 4) (z := (0, 700)) hI.1.1 (by decide +kernel) (Nat.le_refl _) (Nat.le_refl _)
            have p0 : (0 : Int) ≤ η0 60 5 ∧ η0 60 5 ≤ 700 := wf_ok (a := 5) (b := 5) (z := (0, 700)) hp.1 (by decide +kernel) (Nat.le_refl _) (Nat.le_refl _)
            have hpp : η0 60 5 ≤ η0 60 4 ∧ η0 60 7 = η0 60 5 ∧ η0 60 8 = 0 := hpp
            have hig : yp_wI η0 x1 η := hig
            have hs : η 60 7 = η0 60 5 := by
              obtain ⟨a, _, _, q, _⟩ := hig
              rw [q]
              exact hpp.2.1
            have e2 : x2 = η 60 5 := e2
            have e3 : x3 = η 60 4 := e3
            have e4 : x4 = η 60 5 := e4
            have e5 : x5 = η 1 (Int.toNat x4) := e5
            have e6 : x6 = η 60 5 := e6
            have e7 : x7 = η 60 7 := e7
            rw [zd_s ⟨by omega, by omega⟩] at e8
            refine fun _ => ?_
            rw [eη1]
            exact ywJ_w hig b5.1 hs p0.1 hpp.2.2 (Or.inr ⟨show η 60 5 < η 60 4 by omega, yl_n (Or.inl (by rw [← show x4 = η 60 5 from e4, ← e5]; exact c2))⟩) (by omega)
          · refine zden_L (n := 2) (ρ := [x1, 0]) rfl ?_
            show ∀ x2 : Int, x2 = η 60 (Int.toNat 5) → zok 0 x2 → ∀ x3 : Int, x3 = η 60 (Int.toNat 4) → zok 0 x3 → (x2 < x3) → ∀ x4 : Int, x4 = η 60 (Int.toNat 5) → zok 0 x4 → ∀ x5 : Int, x5 = η 1 (Int.toNat x4) → zok 4 x5 → (97 ≤ x5) → ∀ x6 : Int, x6 = η 60 (Int.toNat 5) → zok 0 x6 → ∀ x7 : Int, x7 = η 1 (Int.toNat x6) → zok 4 x7 → (122 < x7) → ∀ x8 : Int, x8 = η 60 (Int.toNat 5) → zok 0 x8 → ∀ x9 : Int, x9 = η 60 (Int.toNat 7) → zok 0 x9 → ∀ x10 : Int, x10 = zd 0 2 x8 x9 → (x10 ≤ 6) → ∀ η1 : zE, η1 = zup η 60 (Int.toNat 6) 20 → ∀ η2 : zE, η2 = zup η1 60 (Int.toNat 8) x1 → (iCu_nextWord xs η0) 1 [x1, 0] η2 ∧ (fun (_ : Nat) (_ : List Int) (_ : zE) => (0 : Nat)) 1 [x1, 0] η2 < 1
            intro x2 e2 r2 x3 e3 r3 c1 x4 e4 r4 x5 e5 r5 c2 x6 e6 r6 x7 e7 r7 c3 x8 e8 r8 x9 e9 r9 x10 e10 c4 η1 eη1 η2 eη2
            have b5 : (0 : Int) ≤ η 60 5 ∧ η 60 5 ≤ 700 := wf_ok (a := 5) (b := 5) (z := (0, 700)) hI.1.1 (by decide +kernel) (Nat.le_refl _) (Nat.le_refl _)
            have b4 : (0 : Int) ≤ η 60 4 ∧ η 60 4 ≤ 700 := wf_ok (a := 4) (b := 4) (z := (0, 700)) hI.1.1 (by decide +kernel) (Nat.le_refl _) (Nat.le_refl _)
            have p0 : (0 : Int) ≤ η0 60 5 ∧ η0 60 5 ≤ 700 := wf_ok (a := 5) (b := 5) (z := (0, 700)) hp.1 (by decide +kernel) (Nat.le_refl _) (Nat.le_refl _)
            have hpp : η0 60 5 ≤ η0 60 4 ∧ η0 60 7 = η0 60 5 ∧ η0 60 8 = 0 := hpp
            have hig : yp_wI η0 x1 η := hig
            have hs : η 60 7 = η0 60 5 := by
              obtain ⟨a, _, _, q, _⟩ := hig
              rw [q]
              exact hpp.2.1
            have e2 : x2 = η 60 5 := e2
            have e3 : x3 = η 60 4 := e3
            have e4 : x4 = η 60 5 := e4
            have e5 : x5 = η 1 (Int.toNat x4) := e5
            have e6 : x6 = η 60 5 := e6
            have e7 : x7 = η 1 (Int.toNat x6) := e7
            have e8 : x8 = η 60 5 := e8
            have e9 : x9 = η 60 7 := e9
            rw [zd_s ⟨by omega, by omega⟩] at e10
            exact ⟨fun _ => by rw [eη2, eη1]; exact ywJ_0 hig b5.1 hs p0.1 (Or.inr ⟨show η 60 5 < η 60 4 by omega, yl_n (Or.inr (by rw [← show x6 = η 60 5 from e6, ← e7]; exact c3))⟩) (by omega), Nat.zero_lt_one⟩
          · refine zden_L (n := 2) (ρ := [x1, 0]) rfl ?_
            show ∀ x2 : Int, x2 = η 60 (Int.toNat 5) → zok 0 x2 → ∀ x3 : Int, x3 = η 60 (Int.toNat 4) → zok 0 x3 → (x2 < x3) → ∀ x4 : Int, x4 = η 60 (Int.toNat 5) → zok 0 x4 → ∀ x5 : Int, x5 = η 1 (Int.toNat x4) → zok 4 x5 → (97 ≤ x5) → ∀ x6 : Int, x6 = η 60 (Int.toNat 5) → zok 0 x6 → ∀ x7 : Int, x7 = η 1 (Int.toNat x6) → zok 4 x7 → (122 < x7) → ∀ x8 : Int, x8 = η 60 (Int.toNat 5) → zok 0 x8 → ∀ x9 : Int, x9 = η 60 (Int.toNat 7) → zok 0 x9 → ∀ x10 : Int, x10 = zd 0 2 x8 x9 → (6 < x10) → ∀ η1 : zE, η1 = zup η 60 (Int.toNat 6) 22 → (fun (_ : Nat) (y : Int) (η' : zE) => pQu_nextWord xs η0 y η') 0 0 η1
            intro x2 e2 r2 x3 e3 r3 c1 x4 e4 r4 x5 e5 r5 c2 x6 e6 r6 x7 e7 r7 c3 x8 e8 r8 x9 e9 r9 x10 e10 c4 η1 eη1
            have b5 : (0 : Int) ≤ η 60 5 ∧ η 60 5 ≤ 700 := wf_ok (a := 5) (b := 5) (z := (0, 700)) hI.1.1 (by decide +kernel) (Nat.le_refl _) (Nat.le_refl _)
            have b4 : (0 : Int) ≤ η 60 4 ∧ η 60 4 ≤ 700 := wf_ok (a := 4) (b := 4) (z := (0, 700)) hI.1.1 (by decide +kernel) (Nat.le_refl _) (Nat.le_refl _)
            have p0 : (0 : Int) ≤ η0 60 5 ∧ η0 60 5 ≤ 700 := wf_ok (a := 5) (b := 5) (z := (0, 700)) hp.1 (by decide +kernel) (Nat.le_refl _) (Nat.le_refl _)
            have hpp : η0 60 5 ≤ η0 60 4 ∧ η0 60 7 = η0 60 5 ∧ η0 60 8 = 0 := hpp
            have hig : yp_wI η0 x1 η := hig
            have hs : η 60 7 = η0 60 5 := by
              obtain ⟨a, _, _, q, _⟩ := hig
              rw [q]
              exact hpp.2.1
            have e2 : x2 = η 60 5 := e2
            have e3 : x3 = η 60 4 := e3
            have e4 : x4 = η 60 5 := e4
            have e5 : x5 = η 1 (Int.toNat x4) := e5
            have e6 : x6 = η 60 5 := e6
            have e7 : x7 = η 1 (Int.toNat x6) := e7
            have e8 : x8 = η 60 5 := e8
            have e9 : x9 = η 60 7 := e9
            rw [zd_s ⟨by omega, by omega⟩] at e10
            refine fun _ => ?_
            rw [eη1]
            exact ywJ_w hig b5.1 hs p0.1 hpp.2.2 (Or.inr ⟨show η 60 5 < η 60 4 by omega, yl_n (Or.inr (by rw [← show x6 = η 60 5 from e6, ← e7]; exact c3))⟩) (by omega)
          · refine zden_L (n := 2) (ρ := [x1, 0]) rfl ?_
            show ∀ x2 : Int, x2 = η 60 (Int.toNat 5) → zok 0 x2 → ∀ x3 : Int, x3 = η 60 (Int.toNat 4) → zok 0 x3 → (x2 < x3) → ∀ x4 : Int, x4 = η 60 (Int.toNat 5) → zok 0 x4 → ∀ x5 : Int, x5 = η 1 (Int.toNat x4) → zok 4 x5 → (97 ≤ x5) → ∀ x6 : Int, x6 = η 60 (Int.toNat 5) → zok 0 x6 → ∀ x7 : Int, x7 = η 1 (Int.toNat x6) → zok 4 x7 → (x7 ≤ 122) → ∀ x8 : Int, x8 = η 60 (Int.toNat 5) → zok 0 x8 → ∀ x9 : Int, x9 = η 60 (Int.toNat 7) → zok 0 x9 → ∀ x10 : Int, x10 = zd 0 2 x8 x9 → (6 ≤ x10) → ∀ x11 : Int, x11 = η 60 (Int.toNat 5) → zok 0 x11 → ∀ x12 : Int, x12 = zd 0 1 x11 1 → ∀ η1 : zE, η1 = zup η 60 (Int.toNat 5) x12 → (iCu_nextWord xs η0) 0 [x1] η1 ∧ (fun (_ : Nat) (_ : List Int) (_ : zE) => (0 : Nat)) 0 [x1] η1 < 1
            intro x2 e2 r2 x3 e3 r3 c1 x4 e4 r4 x5 e5 r5 c2 x6 e6 r6 x7 e7 r7 c3 x8 e8 r8 x9 e9 r9 x10 e10 c4 x11 e11 r11 x12 e12 η1 eη1
            have b5 : (0 : Int) ≤ η 60 5 ∧ η 60 5 ≤ 700 := wf_ok (a := 5) (b := 5) (z := (0, 700)) hI.1.1 (by decide +kernel) (Nat.le_refl _) (Nat.le_refl _)
            have b4 : (0 : Int) ≤ η 60 4 ∧ η 60 4 ≤ 700 := wf_ok (a := 4) (b := 4) (z := (0, 700)) hI.1.1 (by decide +kernel) (Nat.le_refl _) (Nat.le_refl _)
            have p0 : (0 : Int) ≤ η0 60 5 ∧ η0 60 5 ≤ 700 := wf_ok (a := 5) (b := 5) (z := (0, 700)) hp.1 (by decide +kernel) (Nat.le_refl _) (Nat.le_refl _)
            have hpp : η0 60 5 ≤ η0 60 4 ∧ η0 60 7 = η0 60 5 ∧ η0 60 8 = 0 := hpp
            have hig : yp_wI η0 x1 η := hig
            have hs : η 60 7 = η0 60 5 := by
              obtain ⟨a, _, _, q, _⟩ := hig
              rw [q]
              exact hpp.2.1
            have e2 : x2 = η 60 5 := e2
            have e3 : x3 = η 60 4 := e3
            have e4 : x4 = η 60 5 := e4
            have e5 : x5 = η 1 (Int.toNat x4) := e5
            have e6 : x6 = η 60 5 := e6
            have e7 : x7 = η 1 (Int.toNat x6) := e7
            have e8 : x8 = η 60 5 := e8
            have e9 : x9 = η 60 7 := e9
            rw [zd_s ⟨by omega, by omega⟩] at e10
            rw [e4] at e5
            rw [e6] at e7
            have e11 : x11 = η 60 5 := e11
            rw [zd_a ⟨by omega, by omega⟩] at e12
            exact ⟨by rw [eη1, e12, e11]; exact ywI_s (y := x1) hig b5.1 hs p0.1 (by omega) (by omega) (by omega) (if_neg (by omega)).symm, Nat.zero_lt_one⟩
          · refine zden_L (n := 2) (ρ := [x1, 0]) rfl ?_
            show ∀ x2 : Int, x2 = η 60 (Int.toNat 5) → zok 0 x2 → ∀ x3 : Int, x3 = η 60 (Int.toNat 4) → zok 0 x3 → (x2 < x3) → ∀ x4 : Int, x4 = η 60 (Int.toNat 5) → zok 0 x4 → ∀ x5 : Int, x5 = η 1 (Int.toNat x4) → zok 4 x5 → (97 ≤ x5) → ∀ x6 : Int, x6 = η 60 (Int.toNat 5) → zok 0 x6 → ∀ x7 : Int, x7 = η 1 (Int.toNat x6) → zok 4 x7 → (x7 ≤ 122) → ∀ x8 : Int, x8 = η 60 (Int.toNat 5) → zok 0 x8 → ∀ x9 : Int, x9 = η 60 (Int.toNat 7) → zok 0 x9 → ∀ x10 : Int, x10 = zd 0 2 x8 x9 → (x10 < 6) → ∀ x11 : Int, x11 = η 60 (Int.toNat 5) → zok 0 x11 → ∀ x12 : Int, x12 = η 1 (Int.toNat x11) → zok 4 x12 → ∀ x13 : Int, x13 = zd 0 2 x12 97 → ∀ x14 : Int, x14 = zd 0 1 x13 1 → ∀ x15 : Int, x15 = η 60 (Int.toNat 5) → zok 0 x15 → ∀ x16 : Int, x16 = η 60 (Int.toNat 7) → zok 0 x16 → ∀ x17 : Int, x17 = zd 0 2 x15 x16 → ∀ x18 : Int, x18 = zd 0 2 5 x17 → ∀ x19 : Int, x19 = zd 0 3 5 x18 → ∀ x20 : Int, x20 = zd 0 6 x14 x19 → ∀ x21 : Int, x21 = zd 0 5 x1 x20 → ∀ x22 : Int, x22 = η 60 (Int.toNat 5) → zok 0 x22 → ∀ x23 : Int, x23 = zd 0 1 x22 1 → ∀ η1 : zE, η1 = zup η 60 (Int.toNat 5) x23 → (iCu_nextWord xs η0) 0 [x21] η1 ∧ (fun (_ : Nat) (_ : List Int) (_ : zE) => (0 : Nat)) 0 [x21] η1 < 1
            intro x2 e2 r2 x3 e3 r3 c1 x4 e4 r4 x5 e5 r5 c2 x6 e6 r6 x7 e7 r7 c3 x8 e8 r8 x9 e9 r9 x10 e10 c4 x11 e11 r11 x12 e12 r12 x13 e13 x14 e14 x15 e15 r15 x16 e16 r16 x17 e17 x18 e18 x19 e19 x20 e20 x21 e21 x22 e22 r22 x23 e23 η1 eη1
            have b5 : (0 : Int) ≤ η 60 5 ∧ η 60 5 ≤ 700 := wf_ok (a := 5) (b := 5) (z := (0, 700)) hI.1.1 (by decide +kernel) (Nat.le_refl _) (Nat.le_refl _)
            have b4 : (0 : Int) ≤ η 60 4 ∧ η 60 4 ≤ 700 := wf_ok (a := 4) (b := 4) (z := (0, 700)) hI.1.1 (by decide +kernel) (Nat.le_refl _) (Nat.le_refl _)
            have p0 : (0 : Int) ≤ η0 60 5 ∧ η0 60 5 ≤ 700 := wf_ok (a := 5) (b := 5) (z := (0, 700)) hp.1 (by decide +kernel) (Nat.le_refl _) (Nat.le_refl _)
            have hpp : η0 60 5 ≤ η0 60 4 ∧ η0 60 7 = η0 60 5 ∧ η0 60 8 = 0 := hpp
            have hig : yp_wI η0 x1 η := hig
            have hs : η 60 7 = η0 60 5 := by
              obtain ⟨a, _, _, q, _⟩ := hig
              rw [q]
              exact hpp.2.1
            have e2 : x2 = η 60 5 := e2
            have e3 : x3 = η 60 4 := e3
            have e4 : x4 = η 60 5 := e4
            have e5 : x5 = η 1 (Int.toNat x4) := e5
            have e6 : x6 = η 60 5 := e6
            have e7 : x7 = η 1 (Int.toNat x6) := e7
            have e8 : x8 = η 60 5 := e8
            have e9 : x9 = η 60 7 := e9
            rw [zd_s ⟨by omega, by omega⟩] at e10
            rw [e4] at e5
            rw [e6] at e7
            have e11 : x11 = η 60 5 := e11
            have e12 : x12 = η 1 (Int.toNat x11) := e12
            have e15 : x15 = η 60 5 := e15
            have e16 : x16 = η 60 7 := e16
            have e22 : x22 = η 60 5 := e22
            rw [e11] at e12
            rw [zd_s ⟨by omega, by omega⟩] at e13
            rw [zd_a ⟨by omega, by omega⟩] at e14
            rw [zd_s ⟨by omega, by omega⟩] at e17
            rw [zd_s ⟨by omega, by omega⟩] at e18
            rw [zd_m ⟨by omega, by omega⟩] at e19
            rw [zd_a ⟨by omega, by omega⟩] at e23
            have q19 : x19 = 5 * (5 - (η 60 5 - η 60 7)) := by omega
            have q14 : x14 = η 1 (Int.toNat (η 60 5)) - 97 + 1 := by omega
            refine ⟨?_, Nat.zero_lt_one⟩
            rw [eη1, e23, e22]
            exact ywI_s (y := x21) hig b5.1 hs p0.1 (by omega) (by omega) (by omega) (by rw [if_pos (by omega), e21, e20, q19, q14])
        · exact fun _ h => nomatch h
      )⟩, (List.forall_mem_cons.mpr ⟨⟨zDu_nextWord_1, zEu_nextWord_1, zFu_nextWord_1, 19, by decide +kernel, (by
      intro xs η0 hlx hp hpp ys η hr hl hI hig
      match ys, hl, hI, hig with
      | [x1, x2], _, hI, hig =>
        refine ⟨?_, ?_⟩
        · refine List.forall_mem_cons.mpr ⟨?_, List.forall_mem_cons.mpr ⟨?_, List.forall_mem_cons.mpr ⟨?_, List.forall_mem_cons.mpr ⟨?_, fun _ h => nomatch h⟩⟩⟩⟩
          · refine zden_L (n := 3) (ρ := [x2, x1, 0]) rfl ?_
            show (20 ≤ x2) → (fun (_ : Nat) (y : Int) (η' : zE) => pQu_nextWord xs η0 y η') 0 0 η
            intro c1
            refine fun w => ?_
            have hig : yp_wJ η0 x1 x2 η := hig w
            have hb : (0 : Int) ≤ x2 ∧ x2 ≤ 20 := hI.1.2.1.2.1
            exact ywJ_x hig (by omega)
          · refine zden_L (n := 3) (ρ := [x2, x1, 0]) rfl ?_
            show (x2 < 20) → ∀ x3 : Int, x3 = η 62 (Int.toNat x2) → zok 0 x3 → (¬ x3 = x1) → ∀ x4 : Int, x4 = zd 0 1 x2 1 → (iCu_nextWord xs η0) 1 [x1, x4] η ∧ (fun (_ : Nat) (_ : List Int) (_ : zE) => (0 : Nat)) 1 [x1, x4] η < 1
            intro c1 x3 e3 r3 c2 x4 e4
            refine ⟨fun w => ?_, Nat.zero_lt_one⟩
            have hig : yp_wJ η0 x1 x2 η := hig w
            have hb : (0 : Int) ≤ x2 ∧ x2 ≤ 20 := hI.1.2.1.2.1
            rw [zd_a ⟨by omega, by omega⟩] at e4
            have e3 : x3 = yp_wd.getD x2.toNat 0 := by
              obtain ⟨q, _, _, _, z⟩ := hig
              rw [z] at e3
              exact e3.trans (w x2.toNat (by omega))
            show yp_wJ η0 x1 x4 η
            rw [e4]
            exact ywJ_s hig hb.1 c1 (by rw [← e3]; exact c2)
          · refine zden_L (n := 3) (ρ := [x2, x1, 0]) rfl ?_
            show (x2 < 20) → ∀ x3 : Int, x3 = η 62 (Int.toNat x2) → zok 0 x3 → (x3 = x1) → ((gC2 wl_u [(nat_lit 0, zPu_takeLanguageWord, zOu_takeLanguageWord, zMu_takeLanguageWord)] pCu_nextWord qCu_nextWord) 0).1 [x2] η
            intro c1 x3 e3 r3 c2
            exact trivial
          · refine zden_L (n := 3) (ρ := [x2, x1, 0]) rfl ?_
            show (x2 < 20) → ∀ x3 : Int, x3 = η 62 (Int.toNat x2) → zok 0 x3 → (x3 = x1) → ∀ (x4 : Int) (η1 : zE), ((gC2 wl_u [(nat_lit 0, zPu_takeLanguageWord, zOu_takeLanguageWord, zMu_takeLanguageWord)] pCu_nextWord qCu_nextWord) 0).2 [x2] η x4 η1 → ∀ x5 : Int, x5 = zd 0 1 x2 1 → (iCu_nextWord xs η0) 1 [x1, x5] η1 ∧ (fun (_ : Nat) (_ : List Int) (_ : zE) => (0 : Nat)) 1 [x1, x5] η1 < 1
            intro c1 x3 e3 r3 c2 x4 η1 h4 x5 e5
            have k4 : sQ wl_u zTr zOu_takeLanguageWord zMu_takeLanguageWord [x2] η x4 η1 ∧ pQu_takeLanguageWord [x2] η x4 η1 := h4
            refine ⟨fun w => ?_, Nat.zero_lt_one⟩
            have hig : yp_wJ η0 x1 x2 η := hig w
            have hb : (0 : Int) ≤ x2 ∧ x2 ≤ 20 := hI.1.2.1.2.1
            rw [zd_a ⟨by omega, by omega⟩] at e5
            have e3 : x3 = yp_wd.getD x2.toNat 0 := by
              obtain ⟨q, _, _, _, z⟩ := hig
              rw [z] at e3
              exact e3.trans (w x2.toNat (by omega))
            have k : η1 = yp_tlw x2 η := k4.2
            show yp_wJ η0 x1 x5 η1
            rw [e5, k]
            exact ywJ_t hig hb.1 c1 (by rw [← e3]; exact c2)
        · exact fun _ h => nomatch h
      )⟩, (fun _ h => nomatch h)⟩)⟩))
def zPu_next : zPq := ([], [])
def zOu_next : zPo := (((.ofNat (nat_lit 0)), (.ofNat (nat_lit 0))), [], [])
def zMu_next : List zCe := [(nat_lit 60, nat_lit 7), (nat_lit 60, nat_lit 9), (nat_lit 60, nat_lit 6), (nat_lit 60, nat_lit 8)]
def pPu_next : List Int → zE → Prop := (fun _ η => G_u η)
def pQu_next : List Int → zE → Int → zE → Prop := fun xs η y η' => yp_wk η → η' = (yp_adv η)
def pCu_next : Nat → List Int → zE → Prop := fun c => match c with
  | 0 => pPu_nextWord
  | 1 => pPu_nextNumber
  | 2 => pPu_sign
  | _ => fun _ _ => True
def qCu_next : Nat → List Int → zE → Int → zE → Prop := fun c => match c with
  | 0 => pQu_nextWord
  | 1 => pQu_nextNumber
  | 2 => pQu_sign
  | _ => fun _ _ _ _ => True
def iCu_next : List Int → zE → Nat → List Int → zE → Prop := fun xs η0 c => match c with
  | 0 => fun ys η => (yp_zI η0 η)
  | _ => fun _ _ => True
def zVu_next : List zIv := [(nat_lit 0, ([], []), ((.ofNat (nat_lit 800)), [((.negSucc (nat_lit 0)), nat_lit 1, nat_lit 60, nat_lit 5)]))]
def zUu_next : List zCu := [(nat_lit 0, nat_lit 0, [(nat_lit 0, (.inr (.inr (.inl (nat_lit 60)))))], [])]
def zDu_next : List (List zK) := []
def zEu_next : List (List zK) := [[(nat_lit 12, nat_lit 0, [])]]
def zFu_next : List (List zK) := []
def zDu_next_0 : List (List zK) := [[(nat_lit 7, nat_lit 3, []), (nat_lit 6, nat_lit 2, [(nat_lit 4, (.ofNat (nat_lit 0))), (nat_lit 5, (.ofNat (nat_lit 0)))]), (nat_lit 4, nat_lit 0, [(nat_lit 60, (.ofNat (nat_lit 0))), (nat_lit 0, (.ofNat (nat_lit 4)))]), (nat_lit 4, nat_lit 0, [(nat_lit 60, (.ofNat (nat_lit 0))), (nat_lit 0, (.ofNat (nat_lit 5)))]), (nat_lit 5, nat_lit 0, [(nat_lit 60, (.ofNat (nat_lit 0))), (nat_lit 0, (.ofNat (nat_lit 8))), (nat_lit 0, (.ofNat (nat_lit 0)))]), (nat_lit 5, nat_lit 0, [(nat_lit 60, (.ofNat (nat_lit 0))), (nat_lit 0, (.ofNat (nat_lit 7))), (nat_lit 3, (.ofNat (nat_lit 0)))]), (nat_lit 4, nat_lit 0, [(nat_lit 60, (.ofNat (nat_lit 0))), (nat_lit 0, (.ofNat (nat_lit 5)))]), (nat_lit 6, nat_lit 3, [(nat_lit 1, (.ofNat (nat_lit 0))), (nat_lit 2, (.ofNat (nat_lit 0)))]), (nat_lit 4, nat_lit 0, [(nat_lit 60, (.ofNat (nat_lit 0))), (nat_lit 0, (.ofNat (nat_lit 4)))]), (nat_lit 4, nat_lit 0, [(nat_lit 60, (.ofNat (nat_lit 0))), (nat_lit 0, (.ofNat (nat_lit 5)))])],
  [(nat_lit 7, nat_lit 0, [(nat_lit 3, (.ofNat (nat_lit 0))), (nat_lit 0, (.ofNat (nat_lit 700)))]), (nat_lit 4, nat_lit 0, [(nat_lit 60, (.ofNat (nat_lit 0))), (nat_lit 0, (.ofNat (nat_lit 5)))]), (nat_lit 6, nat_lit 2, [(nat_lit 1, (.ofNat (nat_lit 0))), (nat_lit 2, (.ofNat (nat_lit 0)))]), (nat_lit 4, nat_lit 0, [(nat_lit 60, (.ofNat (nat_lit 0))), (nat_lit 0, (.ofNat (nat_lit 4)))]), (nat_lit 4, nat_lit 0, [(nat_lit 60, (.ofNat (nat_lit 0))), (nat_lit 0, (.ofNat (nat_lit 5)))])],
  [(nat_lit 7, nat_lit 0, [(nat_lit 5, (.ofNat (nat_lit 0))), (nat_lit 0, (.ofNat (nat_lit 700)))]), (nat_lit 4, nat_lit 0, [(nat_lit 60, (.ofNat (nat_lit 0))), (nat_lit 0, (.ofNat (nat_lit 5)))]), (nat_lit 6, nat_lit 1, [(nat_lit 4, (.ofNat (nat_lit 0))), (nat_lit 0, (.ofNat (nat_lit 10)))]), (nat_lit 4, nat_lit 4, [(nat_lit 1, (.ofNat (nat_lit 0))), (nat_lit 3, (.ofNat (nat_lit 0)))]), (nat_lit 4, nat_lit 0, [(nat_lit 60, (.ofNat (nat_lit 0))), (nat_lit 0, (.ofNat (nat_lit 5)))]), (nat_lit 6, nat_lit 2, [(nat_lit 1, (.ofNat (nat_lit 0))), (nat_lit 2, (.ofNat (nat_lit 0)))]), (nat_lit 4, nat_lit 0, [(nat_lit 60, (.ofNat (nat_lit 0))), (nat_lit 0, (.ofNat (nat_lit 4)))]), (nat_lit 4, nat_lit 0, [(nat_lit 60, (.ofNat (nat_lit 0))), (nat_lit 0, (.ofNat (nat_lit 5)))])],
  [(nat_lit 7, nat_lit 0, [(nat_lit 10, (.ofNat (nat_lit 0))), (nat_lit 0, (.ofNat (nat_lit 700)))]), (nat_lit 4, nat_lit 0, [(nat_lit 60, (.ofNat (nat_lit 0))), (nat_lit 0, (.ofNat (nat_lit 5)))]), (nat_lit 6, nat_lit 2, [(nat_lit 8, (.ofNat (nat_lit 0))), (nat_lit 9, (.ofNat (nat_lit 0)))]), (nat_lit 4, nat_lit 0, [(nat_lit 60, (.ofNat (nat_lit 0))), (nat_lit 0, (.ofNat (nat_lit 4)))]), (nat_lit 4, nat_lit 0, [(nat_lit 60, (.ofNat (nat_lit 0))), (nat_lit 0, (.ofNat (nat_lit 5)))]), (nat_lit 5, nat_lit 0, [(nat_lit 60, (.ofNat (nat_lit 0))), (nat_lit 0, (.ofNat (nat_lit 8))), (nat_lit 0, (.ofNat (nat_lit 0)))]), (nat_lit 5, nat_lit 0, [(nat_lit 60, (.ofNat (nat_lit 0))), (nat_lit 0, (.ofNat (nat_lit 7))), (nat_lit 7, (.ofNat (nat_lit 0)))]), (nat_lit 4, nat_lit 0, [(nat_lit 60, (.ofNat (nat_lit 0))), (nat_lit 0, (.ofNat (nat_lit 5)))]), (nat_lit 6, nat_lit 1, [(nat_lit 6, (.ofNat (nat_lit 0))), (nat_lit 0, (.ofNat (nat_lit 32)))]), (nat_lit 4, nat_lit 4, [(nat_lit 1, (.ofNat (nat_lit 0))), (nat_lit 5, (.ofNat (nat_lit 0)))]), (nat_lit 4, nat_lit 0, [(nat_lit 60, (.ofNat (nat_lit 0))), (nat_lit 0, (.ofNat (nat_lit 5)))]), (nat_lit 6, nat_lit 1, [(nat_lit 4, (.ofNat (nat_lit 0))), (nat_lit 0, (.ofNat (nat_lit 10)))]), (nat_lit 4, nat_lit 4, [(nat_lit 1, (.ofNat (nat_lit 0))), (nat_lit 3, (.ofNat (nat_lit 0)))]), (nat_lit 4, nat_lit 0, [(nat_lit 60, (.ofNat (nat_lit 0))), (nat_lit 0, (.ofNat (nat_lit 5)))]), (nat_lit 6, nat_lit 2, [(nat_lit 1, (.ofNat (nat_lit 0))), (nat_lit 2, (.ofNat (nat_lit 0)))]), (nat_lit 4, nat_lit 0, [(nat_lit 60, (.ofNat (nat_lit 0))), (nat_lit 0, (.ofNat (nat_lit 4)))]), (nat_lit 4, nat_lit 0, [(nat_lit 60, (.ofNat (nat_lit 0))), (nat_lit 0, (.ofNat (nat_lit 5)))])],
  [(nat_lit 7, nat_lit 3, []), (nat_lit 6, nat_lit 2, [(nat_lit 11, (.ofNat (nat_lit 0))), (nat_lit 0, (.ofNat (nat_lit 48)))]), (nat_lit 6, nat_lit 4, [(nat_lit 11, (.ofNat (nat_lit 0))), (nat_lit 0, (.ofNat (nat_lit 122)))]), (nat_lit 6, nat_lit 3, [(nat_lit 11, (.ofNat (nat_lit 0))), (nat_lit 0, (.ofNat (nat_lit 97)))]), (nat_lit 4, nat_lit 4, [(nat_lit 1, (.ofNat (nat_lit 0))), (nat_lit 10, (.ofNat (nat_lit 0)))]), (nat_lit 4, nat_lit 0, [(nat_lit 60, (.ofNat (nat_lit 0))), (nat_lit 0, (.ofNat (nat_lit 5)))]), (nat_lit 6, nat_lit 2, [(nat_lit 8, (.ofNat (nat_lit 0))), (nat_lit 9, (.ofNat (nat_lit 0)))]), (nat_lit 4, nat_lit 0, [(nat_lit 60, (.ofNat (nat_lit 0))), (nat_lit 0, (.ofNat (nat_lit 4)))]), (nat_lit 4, nat_lit 0, [(nat_lit 60, (.ofNat (nat_lit 0))), (nat_lit 0, (.ofNat (nat_lit 5)))]), (nat_lit 5, nat_lit 0, [(nat_lit 60, (.ofNat (nat_lit 0))), (nat_lit 0, (.ofNat (nat_lit 8))), (nat_lit 0, (.ofNat (nat_lit 0)))]), (nat_lit 5, nat_lit 0, [(nat_lit 60, (.ofNat (nat_lit 0))), (nat_lit 0, (.ofNat (nat_lit 7))), (nat_lit 7, (.ofNat (nat_lit 0)))]), (nat_lit 4, nat_lit 0, [(nat_lit 60, (.ofNat (nat_lit 0))), (nat_lit 0, (.ofNat (nat_lit 5)))]), (nat_lit 6, nat_lit 1, [(nat_lit 6, (.ofNat (nat_lit 0))), (nat_lit 0, (.ofNat (nat_lit 32)))]), (nat_lit 4, nat_lit 4, [(nat_lit 1, (.ofNat (nat_lit 0))), (nat_lit 5, (.ofNat (nat_lit 0)))]), (nat_lit 4, nat_lit 0, [(nat_lit 60, (.ofNat (nat_lit 0))), (nat_lit 0, (.ofNat (nat_lit 5)))]), (nat_lit 6, nat_lit 1, [(nat_lit 4, (.ofNat (nat_lit 0))), (nat_lit 0, (.ofNat (nat_lit 10)))]), (nat_lit 4, nat_lit 4, [(nat_lit 1, (.ofNat (nat_lit 0))), (nat_lit 3, (.ofNat (nat_lit 0)))]), (nat_lit 4, nat_lit 0, [(nat_lit 60, (.ofNat (nat_lit 0))), (nat_lit 0, (.ofNat (nat_lit 5)))]), (nat_lit 6, nat_lit 2, [(nat_lit 1, (.ofNat (nat_lit 0))), (nat_lit 2, (.ofNat (nat_lit 0)))]), (nat_lit 4, nat_lit 0, [(nat_lit 60, (.ofNat (nat_lit 0))), (nat_lit 0, (.ofNat (nat_lit 4)))]), (nat_lit 4, nat_lit 0, [(nat_lit 60, (.ofNat (nat_lit 0))), (nat_lit 0, (.ofNat (nat_lit 5)))])],
  [(nat_lit 7, nat_lit 3, []), (nat_lit 6, nat_lit 5, [(nat_lit 11, (.ofNat (nat_lit 0))), (nat_lit 0, (.ofNat (nat_lit 57)))]), (nat_lit 6, nat_lit 3, [(nat_lit 11, (.ofNat (nat_lit 0))), (nat_lit 0, (.ofNat (nat_lit 48)))]), (nat_lit 6, nat_lit 4, [(nat_lit 11, (.ofNat (nat_lit 0))), (nat_lit 0, (.ofNat (nat_lit 122)))]), (nat_lit 6, nat_lit 3, [(nat_lit 11, (.ofNat (nat_lit 0))), (nat_lit 0, (.ofNat (nat_lit 97)))]), (nat_lit 4, nat_lit 4, [(nat_lit 1, (.ofNat (nat_lit 0))), (nat_lit 10, (.ofNat (nat_lit 0)))]), (nat_lit 4, nat_lit 0, [(nat_lit 60, (.ofNat (nat_lit 0))), (nat_lit 0, (.ofNat (nat_lit 5)))]), (nat_lit 6, nat_lit 2, [(nat_lit 8, (.ofNat (nat_lit 0))), (nat_lit 9, (.ofNat (nat_lit 0)))]), (nat_lit 4, nat_lit 0, [(nat_lit 60, (.ofNat (nat_lit 0))), (nat_lit 0, (.ofNat (nat_lit 4)))]), (nat_lit 4, nat_lit 0, [(nat_lit 60, (.ofNat (nat_lit 0))), (nat_lit 0, (.ofNat (nat_lit 5)))]), (nat_lit 5, nat_lit 0, [(nat_lit 60, (.ofNat (nat_lit 0))), (nat_lit 0, (.ofNat (nat_lit 8))), (nat_lit 0, (.ofNat (nat_lit 0)))]), (nat_lit 5, nat_lit 0, [(nat_lit 60, (.ofNat (nat_lit 0))), (nat_lit 0, (.ofNat (nat_lit 7))), (nat_lit 7, (.ofNat (nat_lit 0)))]), (nat_lit 4, nat_lit 0, [(nat_lit 60, (.ofNat (nat_lit 0))), (nat_lit 0, (.ofNat (nat_lit 5)))]), (nat_lit 6, nat_lit 1, [(nat_lit 6, (.ofNat (nat_lit 0))), (nat_lit 0, (.ofNat (nat_lit 32)))]), (nat_lit 4, nat_lit 4, [(nat_lit 1, (.ofNat (nat_lit 0))), (nat_lit 5, (.ofNat (nat_lit 0)))]), (nat_lit 4, nat_lit 0, [(nat_lit 60, (.ofNat (nat_lit 0))), (nat_lit 0, (.ofNat (nat_lit 5)))]), (nat_lit 6, nat_lit 1, [(nat_lit 4, (.ofNat (nat_lit 0))), (nat_lit 0, (.ofNat (nat_lit 10)))]), (nat_lit 4, nat_lit 4, [(nat_lit 1, (.ofNat (nat_lit 0))), (nat_lit 3, (.ofNat (nat_lit 0)))]), (nat_lit 4, nat_lit 0, [(nat_lit 60, (.ofNat (nat_lit 0))), (nat_lit 0, (.ofNat (nat_lit 5)))]), (nat_lit 6, nat_lit 2, [(nat_lit 1, (.ofNat (nat_lit 0))), (nat_lit 2, (.ofNat (nat_lit 0)))]), (nat_lit 4, nat_lit 0, [(nat_lit 60, (.ofNat (nat_lit 0))), (nat_lit 0, (.ofNat (nat_lit 4)))]), (nat_lit 4, nat_lit 0, [(nat_lit 60, (.ofNat (nat_lit 0))), (nat_lit 0, (.ofNat (nat_lit 5)))])],
  [(nat_lit 7, nat_lit 3, []), (nat_lit 6, nat_lit 3, [(nat_lit 8, (.ofNat (nat_lit 0))), (nat_lit 9, (.ofNat (nat_lit 0)))]), (nat_lit 4, nat_lit 0, [(nat_lit 60, (.ofNat (nat_lit 0))), (nat_lit 0, (.ofNat (nat_lit 4)))]), (nat_lit 4, nat_lit 0, [(nat_lit 60, (.ofNat (nat_lit 0))), (nat_lit 0, (.ofNat (nat_lit 5)))]), (nat_lit 5, nat_lit 0, [(nat_lit 60, (.ofNat (nat_lit 0))), (nat_lit 0, (.ofNat (nat_lit 8))), (nat_lit 0, (.ofNat (nat_lit 0)))]), (nat_lit 5, nat_lit 0, [(nat_lit 60, (.ofNat (nat_lit 0))), (nat_lit 0, (.ofNat (nat_lit 7))), (nat_lit 7, (.ofNat (nat_lit 0)))]), (nat_lit 4, nat_lit 0, [(nat_lit 60, (.ofNat (nat_lit 0))), (nat_lit 0, (.ofNat (nat_lit 5)))]), (nat_lit 6, nat_lit 1, [(nat_lit 6, (.ofNat (nat_lit 0))), (nat_lit 0, (.ofNat (nat_lit 32)))]), (nat_lit 4, nat_lit 4, [(nat_lit 1, (.ofNat (nat_lit 0))), (nat_lit 5, (.ofNat (nat_lit 0)))]), (nat_lit 4, nat_lit 0, [(nat_lit 60, (.ofNat (nat_lit 0))), (nat_lit 0, (.ofNat (nat_lit 5)))]), (nat_lit 6, nat_lit 1, [(nat_lit 4, (.ofNat (nat_lit 0))), (nat_lit 0, (.ofNat (nat_lit 10)))]), (nat_lit 4, nat_lit 4, [(nat_lit 1, (.ofNat (nat_lit 0))), (nat_lit 3, (.ofNat (nat_lit 0)))]), (nat_lit 4, nat_lit 0, [(nat_lit 60, (.ofNat (nat_lit 0))), (nat_lit 0, (.ofNat (nat_lit 5)))]), (nat_lit 6, nat_lit 2, [(nat_lit 1, (.ofNat (nat_lit 0))), (nat_lit 2, (.ofNat (nat_lit 0)))]), (nat_lit 4, nat_lit 0, [(nat_lit 60, (.ofNat (nat_lit 0))), (nat_lit 0, (.ofNat (nat_lit 4)))]), (nat_lit 4, nat_lit 0, [(nat_lit 60, (.ofNat (nat_lit 0))), (nat_lit 0, (.ofNat (nat_lit 5)))])]]
def zEu_next_0 : List (List zK) := [[(nat_lit 11, nat_lit 0, [(nat_lit 0, (.ofNat (nat_lit 0)))]), (nat_lit 5, nat_lit 0, [(nat_lit 60, (.ofNat (nat_lit 0))), (nat_lit 0, (.ofNat (nat_lit 6))), (nat_lit 0, (.ofNat (nat_lit 21)))]), (nat_lit 6, nat_lit 3, [(nat_lit 4, (.ofNat (nat_lit 0))), (nat_lit 5, (.ofNat (nat_lit 0)))]), (nat_lit 4, nat_lit 0, [(nat_lit 60, (.ofNat (nat_lit 0))), (nat_lit 0, (.ofNat (nat_lit 4)))]), (nat_lit 4, nat_lit 0, [(nat_lit 60, (.ofNat (nat_lit 0))), (nat_lit 0, (.ofNat (nat_lit 5)))]), (nat_lit 5, nat_lit 0, [(nat_lit 60, (.ofNat (nat_lit 0))), (nat_lit 0, (.ofNat (nat_lit 8))), (nat_lit 0, (.ofNat (nat_lit 0)))]), (nat_lit 5, nat_lit 0, [(nat_lit 60, (.ofNat (nat_lit 0))), (nat_lit 0, (.ofNat (nat_lit 7))), (nat_lit 3, (.ofNat (nat_lit 0)))]), (nat_lit 4, nat_lit 0, [(nat_lit 60, (.ofNat (nat_lit 0))), (nat_lit 0, (.ofNat (nat_lit 5)))]), (nat_lit 6, nat_lit 3, [(nat_lit 1, (.ofNat (nat_lit 0))), (nat_lit 2, (.ofNat (nat_lit 0)))]), (nat_lit 4, nat_lit 0, [(nat_lit 60, (.ofNat (nat_lit 0))), (nat_lit 0, (.ofNat (nat_lit 4)))]), (nat_lit 4, nat_lit 0, [(nat_lit 60, (.ofNat (nat_lit 0))), (nat_lit 0, (.ofNat (nat_lit 5)))])],
  [(nat_lit 10, nat_lit 0, []), (nat_lit 5, nat_lit 0, [(nat_lit 60, (.ofNat (nat_lit 0))), (nat_lit 0, (.ofNat (nat_lit 5))), (nat_lit 6, (.ofNat (nat_lit 0)))]), (nat_lit 0, nat_lit 1, [(nat_lit 5, (.ofNat (nat_lit 0))), (nat_lit 0, (.ofNat (nat_lit 1)))]), (nat_lit 4, nat_lit 0, [(nat_lit 60, (.ofNat (nat_lit 0))), (nat_lit 0, (.ofNat (nat_lit 5)))]), (nat_lit 6, nat_lit 0, [(nat_lit 4, (.ofNat (nat_lit 0))), (nat_lit 0, (.ofNat (nat_lit 10)))]), (nat_lit 4, nat_lit 4, [(nat_lit 1, (.ofNat (nat_lit 0))), (nat_lit 3, (.ofNat (nat_lit 0)))]), (nat_lit 4, nat_lit 0, [(nat_lit 60, (.ofNat (nat_lit 0))), (nat_lit 0, (.ofNat (nat_lit 5)))]), (nat_lit 6, nat_lit 2, [(nat_lit 1, (.ofNat (nat_lit 0))), (nat_lit 2, (.ofNat (nat_lit 0)))]), (nat_lit 4, nat_lit 0, [(nat_lit 60, (.ofNat (nat_lit 0))), (nat_lit 0, (.ofNat (nat_lit 4)))]), (nat_lit 4, nat_lit 0, [(nat_lit 60, (.ofNat (nat_lit 0))), (nat_lit 0, (.ofNat (nat_lit 5)))])],
  [(nat_lit 13, nat_lit 2, [(nat_lit 11, (.ofNat (nat_lit 0)))]), (nat_lit 5, nat_lit 0, [(nat_lit 60, (.ofNat (nat_lit 0))), (nat_lit 0, (.ofNat (nat_lit 5))), (nat_lit 13, (.ofNat (nat_lit 0)))]), (nat_lit 0, nat_lit 1, [(nat_lit 12, (.ofNat (nat_lit 0))), (nat_lit 0, (.ofNat (nat_lit 1)))]), (nat_lit 4, nat_lit 0, [(nat_lit 60, (.ofNat (nat_lit 0))), (nat_lit 0, (.ofNat (nat_lit 5)))]), (nat_lit 6, nat_lit 2, [(nat_lit 11, (.ofNat (nat_lit 0))), (nat_lit 0, (.ofNat (nat_lit 48)))]), (nat_lit 6, nat_lit 2, [(nat_lit 11, (.ofNat (nat_lit 0))), (nat_lit 0, (.ofNat (nat_lit 97)))]), (nat_lit 4, nat_lit 4, [(nat_lit 1, (.ofNat (nat_lit 0))), (nat_lit 10, (.ofNat (nat_lit 0)))]), (nat_lit 4, nat_lit 0, [(nat_lit 60, (.ofNat (nat_lit 0))), (nat_lit 0, (.ofNat (nat_lit 5)))]), (nat_lit 6, nat_lit 2, [(nat_lit 8, (.ofNat (nat_lit 0))), (nat_lit 9, (.ofNat (nat_lit 0)))]), (nat_lit 4, nat_lit 0, [(nat_lit 60, (.ofNat (nat_lit 0))), (nat_lit 0, (.ofNat (nat_lit 4)))]), (nat_lit 4, nat_lit 0, [(nat_lit 60, (.ofNat (nat_lit 0))), (nat_lit 0, (.ofNat (nat_lit 5)))]), (nat_lit 5, nat_lit 0, [(nat_lit 60, (.ofNat (nat_lit 0))), (nat_lit 0, (.ofNat (nat_lit 8))), (nat_lit 0, (.ofNat (nat_lit 0)))]), (nat_lit 5, nat_lit 0, [(nat_lit 60, (.ofNat (nat_lit 0))), (nat_lit 0, (.ofNat (nat_lit 7))), (nat_lit 7, (.ofNat (nat_lit 0)))]), (nat_lit 4, nat_lit 0, [(nat_lit 60, (.ofNat (nat_lit 0))), (nat_lit 0, (.ofNat (nat_lit 5)))]), (nat_lit 6, nat_lit 1, [(nat_lit 6, (.ofNat (nat_lit 0))), (nat_lit 0, (.ofNat (nat_lit 32)))]), (nat_lit 4, nat_lit 4, [(nat_lit 1, (.ofNat (nat_lit 0))), (nat_lit 5, (.ofNat (nat_lit 0)))]), (nat_lit 4, nat_lit 0, [(nat_lit 60, (.ofNat (nat_lit 0))), (nat_lit 0, (.ofNat (nat_lit 5)))]), (nat_lit 6, nat_lit 1, [(nat_lit 4, (.ofNat (nat_lit 0))), (nat_lit 0, (.ofNat (nat_lit 10)))]), (nat_lit 4, nat_lit 4, [(nat_lit 1, (.ofNat (nat_lit 0))), (nat_lit 3, (.ofNat (nat_lit 0)))]), (nat_lit 4, nat_lit 0, [(nat_lit 60, (.ofNat (nat_lit 0))), (nat_lit 0, (.ofNat (nat_lit 5)))]), (nat_lit 6, nat_lit 2, [(nat_lit 1, (.ofNat (nat_lit 0))), (nat_lit 2, (.ofNat (nat_lit 0)))]), (nat_lit 4, nat_lit 0, [(nat_lit 60, (.ofNat (nat_lit 0))), (nat_lit 0, (.ofNat (nat_lit 4)))]), (nat_lit 4, nat_lit 0, [(nat_lit 60, (.ofNat (nat_lit 0))), (nat_lit 0, (.ofNat (nat_lit 5)))])],
  [(nat_lit 11, nat_lit 0, [(nat_lit 0, (.ofNat (nat_lit 0)))]), (nat_lit 5, nat_lit 0, [(nat_lit 60, (.ofNat (nat_lit 0))), (nat_lit 0, (.ofNat (nat_lit 6))), (nat_lit 14, (.ofNat (nat_lit 0)))]), (nat_lit 8, nat_lit 2, [(nat_lit 11, (.ofNat (nat_lit 0)))]), (nat_lit 5, nat_lit 0, [(nat_lit 60, (.ofNat (nat_lit 0))), (nat_lit 0, (.ofNat (nat_lit 5))), (nat_lit 13, (.ofNat (nat_lit 0)))]), (nat_lit 0, nat_lit 1, [(nat_lit 12, (.ofNat (nat_lit 0))), (nat_lit 0, (.ofNat (nat_lit 1)))]), (nat_lit 4, nat_lit 0, [(nat_lit 60, (.ofNat (nat_lit 0))), (nat_lit 0, (.ofNat (nat_lit 5)))]), (nat_lit 6, nat_lit 2, [(nat_lit 11, (.ofNat (nat_lit 0))), (nat_lit 0, (.ofNat (nat_lit 48)))]), (nat_lit 6, nat_lit 2, [(nat_lit 11, (.ofNat (nat_lit 0))), (nat_lit 0, (.ofNat (nat_lit 97)))]), (nat_lit 4, nat_lit 4, [(nat_lit 1, (.ofNat (nat_lit 0))), (nat_lit 10, (.ofNat (nat_lit 0)))]), (nat_lit 4, nat_lit 0, [(nat_lit 60, (.ofNat (nat_lit 0))), (nat_lit 0, (.ofNat (nat_lit 5)))]), (nat_lit 6, nat_lit 2, [(nat_lit 8, (.ofNat (nat_lit 0))), (nat_lit 9, (.ofNat (nat_lit 0)))]), (nat_lit 4, nat_lit 0, [(nat_lit 60, (.ofNat (nat_lit 0))), (nat_lit 0, (.ofNat (nat_lit 4)))]), (nat_lit 4, nat_lit 0, [(nat_lit 60, (.ofNat (nat_lit 0))), (nat_lit 0, (.ofNat (nat_lit 5)))]), (nat_lit 5, nat_lit 0, [(nat_lit 60, (.ofNat (nat_lit 0))), (nat_lit 0, (.ofNat (nat_lit 8))), (nat_lit 0, (.ofNat (nat_lit 0)))]), (nat_lit 5, nat_lit 0, [(nat_lit 60, (.ofNat (nat_lit 0))), (nat_lit 0, (.ofNat (nat_lit 7))), (nat_lit 7, (.ofNat (nat_lit 0)))]), (nat_lit 4, nat_lit 0, [(nat_lit 60, (.ofNat (nat_lit 0))), (nat_lit 0, (.ofNat (nat_lit 5)))]), (nat_lit 6, nat_lit 1, [(nat_lit 6, (.ofNat (nat_lit 0))), (nat_lit 0, (.ofNat (nat_lit 32)))]), (nat_lit 4, nat_lit 4, [(nat_lit 1, (.ofNat (nat_lit 0))), (nat_lit 5, (.ofNat (nat_lit 0)))]), (nat_lit 4, nat_lit 0, [(nat_lit 60, (.ofNat (nat_lit 0))), (nat_lit 0, (.ofNat (nat_lit 5)))]), (nat_lit 6, nat_lit 1, [(nat_lit 4, (.ofNat (nat_lit 0))), (nat_lit 0, (.ofNat (nat_lit 10)))]), (nat_lit 4, nat_lit 4, [(nat_lit 1, (.ofNat (nat_lit 0))), (nat_lit 3, (.ofNat (nat_lit 0)))]), (nat_lit 4, nat_lit 0, [(nat_lit 60, (.ofNat (nat_lit 0))), (nat_lit 0, (.ofNat (nat_lit 5)))]), (nat_lit 6, nat_lit 2, [(nat_lit 1, (.ofNat (nat_lit 0))), (nat_lit 2, (.ofNat (nat_lit 0)))]), (nat_lit 4, nat_lit 0, [(nat_lit 60, (.ofNat (nat_lit 0))), (nat_lit 0, (.ofNat (nat_lit 4)))]), (nat_lit 4, nat_lit 0, [(nat_lit 60, (.ofNat (nat_lit 0))), (nat_lit 0, (.ofNat (nat_lit 5)))])],
  [(nat_lit 13, nat_lit 2, [(nat_lit 11, (.ofNat (nat_lit 0)))]), (nat_lit 5, nat_lit 0, [(nat_lit 60, (.ofNat (nat_lit 0))), (nat_lit 0, (.ofNat (nat_lit 5))), (nat_lit 13, (.ofNat (nat_lit 0)))]), (nat_lit 0, nat_lit 1, [(nat_lit 12, (.ofNat (nat_lit 0))), (nat_lit 0, (.ofNat (nat_lit 1)))]), (nat_lit 4, nat_lit 0, [(nat_lit 60, (.ofNat (nat_lit 0))), (nat_lit 0, (.ofNat (nat_lit 5)))]), (nat_lit 6, nat_lit 4, [(nat_lit 11, (.ofNat (nat_lit 0))), (nat_lit 0, (.ofNat (nat_lit 57)))]), (nat_lit 6, nat_lit 3, [(nat_lit 11, (.ofNat (nat_lit 0))), (nat_lit 0, (.ofNat (nat_lit 48)))]), (nat_lit 6, nat_lit 2, [(nat_lit 11, (.ofNat (nat_lit 0))), (nat_lit 0, (.ofNat (nat_lit 97)))]), (nat_lit 4, nat_lit 4, [(nat_lit 1, (.ofNat (nat_lit 0))), (nat_lit 10, (.ofNat (nat_lit 0)))]), (nat_lit 4, nat_lit 0, [(nat_lit 60, (.ofNat (nat_lit 0))), (nat_lit 0, (.ofNat (nat_lit 5)))]), (nat_lit 6, nat_lit 2, [(nat_lit 8, (.ofNat (nat_lit 0))), (nat_lit 9, (.ofNat (nat_lit 0)))]), (nat_lit 4, nat_lit 0, [(nat_lit 60, (.ofNat (nat_lit 0))), (nat_lit 0, (.ofNat (nat_lit 4)))]), (nat_lit 4, nat_lit 0, [(nat_lit 60, (.ofNat (nat_lit 0))), (nat_lit 0, (.ofNat (nat_lit 5)))]), (nat_lit 5, nat_lit 0, [(nat_lit 60, (.ofNat (nat_lit 0))), (nat_lit 0, (.ofNat (nat_lit 8))), (nat_lit 0, (.ofNat (nat_lit 0)))]), (nat_lit 5, nat_lit 0, [(nat_lit 60, (.ofNat (nat_lit 0))), (nat_lit 0, (.ofNat (nat_lit 7))), (nat_lit 7, (.ofNat (nat_lit 0)))]), (nat_lit 4, nat_lit 0, [(nat_lit 60, (.ofNat (nat_lit 0))), (nat_lit 0, (.ofNat (nat_lit 5)))]), (nat_lit 6, nat_lit 1, [(nat_lit 6, (.ofNat (nat_lit 0))), (nat_lit 0, (.ofNat (nat_lit 32)))]), (nat_lit 4, nat_lit 4, [(nat_lit 1, (.ofNat (nat_lit 0))), (nat_lit 5, (.ofNat (nat_lit 0)))]), (nat_lit 4, nat_lit 0, [(nat_lit 60, (.ofNat (nat_lit 0))), (nat_lit 0, (.ofNat (nat_lit 5)))]), (nat_lit 6, nat_lit 1, [(nat_lit 4, (.ofNat (nat_lit 0))), (nat_lit 0, (.ofNat (nat_lit 10)))]), (nat_lit 4, nat_lit 4, [(nat_lit 1, (.ofNat (nat_lit 0))), (nat_lit 3, (.ofNat (nat_lit 0)))]), (nat_lit 4, nat_lit 0, [(nat_lit 60, (.ofNat (nat_lit 0))), (nat_lit 0, (.ofNat (nat_lit 5)))]), (nat_lit 6, nat_lit 2, [(nat_lit 1, (.ofNat (nat_lit 0))), (nat_lit 2, (.ofNat (nat_lit 0)))]), (nat_lit 4, nat_lit 0, [(nat_lit 60, (.ofNat (nat_lit 0))), (nat_lit 0, (.ofNat (nat_lit 4)))]), (nat_lit 4, nat_lit 0, [(nat_lit 60, (.ofNat (nat_lit 0))), (nat_lit 0, (.ofNat (nat_lit 5)))])],
  [(nat_lit 11, nat_lit 0, [(nat_lit 0, (.ofNat (nat_lit 0)))]), (nat_lit 5, nat_lit 0, [(nat_lit 60, (.ofNat (nat_lit 0))), (nat_lit 0, (.ofNat (nat_lit 6))), (nat_lit 14, (.ofNat (nat_lit 0)))]), (nat_lit 8, nat_lit 2, [(nat_lit 11, (.ofNat (nat_lit 0)))]), (nat_lit 5, nat_lit 0, [(nat_lit 60, (.ofNat (nat_lit 0))), (nat_lit 0, (.ofNat (nat_lit 5))), (nat_lit 13, (.ofNat (nat_lit 0)))]), (nat_lit 0, nat_lit 1, [(nat_lit 12, (.ofNat (nat_lit 0))), (nat_lit 0, (.ofNat (nat_lit 1)))]), (nat_lit 4, nat_lit 0, [(nat_lit 60, (.ofNat (nat_lit 0))), (nat_lit 0, (.ofNat (nat_lit 5)))]), (nat_lit 6, nat_lit 4, [(nat_lit 11, (.ofNat (nat_lit 0))), (nat_lit 0, (.ofNat (nat_lit 57)))]), (nat_lit 6, nat_lit 3, [(nat_lit 11, (.ofNat (nat_lit 0))), (nat_lit 0, (.ofNat (nat_lit 48)))]), (nat_lit 6, nat_lit 2, [(nat_lit 11, (.ofNat (nat_lit 0))), (nat_lit 0, (.ofNat (nat_lit 97)))]), (nat_lit 4, nat_lit 4, [(nat_lit 1, (.ofNat (nat_lit 0))), (nat_lit 10, (.ofNat (nat_lit 0)))]), (nat_lit 4, nat_lit 0, [(nat_lit 60, (.ofNat (nat_lit 0))), (nat_lit 0, (.ofNat (nat_lit 5)))]), (nat_lit 6, nat_lit 2, [(nat_lit 8, (.ofNat (nat_lit 0))), (nat_lit 9, (.ofNat (nat_lit 0)))]), (nat_lit 4, nat_lit 0, [(nat_lit 60, (.ofNat (nat_lit 0))), (nat_lit 0, (.ofNat (nat_lit 4)))]), (nat_lit 4, nat_lit 0, [(nat_lit 60, (.ofNat (nat_lit 0))), (nat_lit 0, (.ofNat (nat_lit 5)))]), (nat_lit 5, nat_lit 0, [(nat_lit 60, (.ofNat (nat_lit 0))), (nat_lit 0, (.ofNat (nat_lit 8))), (nat_lit 0, (.ofNat (nat_lit 0)))]), (nat_lit 5, nat_lit 0, [(nat_lit 60, (.ofNat (nat_lit 0))), (nat_lit 0, (.ofNat (nat_lit 7))), (nat_lit 7, (.ofNat (nat_lit 0)))]), (nat_lit 4, nat_lit 0, [(nat_lit 60, (.ofNat (nat_lit 0))), (nat_lit 0, (.ofNat (nat_lit 5)))]), (nat_lit 6, nat_lit 1, [(nat_lit 6, (.ofNat (nat_lit 0))), (nat_lit 0, (.ofNat (nat_lit 32)))]), (nat_lit 4, nat_lit 4, [(nat_lit 1, (.ofNat (nat_lit 0))), (nat_lit 5, (.ofNat (nat_lit 0)))]), (nat_lit 4, nat_lit 0, [(nat_lit 60, (.ofNat (nat_lit 0))), (nat_lit 0, (.ofNat (nat_lit 5)))]), (nat_lit 6, nat_lit 1, [(nat_lit 4, (.ofNat (nat_lit 0))), (nat_lit 0, (.ofNat (nat_lit 10)))]), (nat_lit 4, nat_lit 4, [(nat_lit 1, (.ofNat (nat_lit 0))), (nat_lit 3, (.ofNat (nat_lit 0)))]), (nat_lit 4, nat_lit 0, [(nat_lit 60, (.ofNat (nat_lit 0))), (nat_lit 0, (.ofNat (nat_lit 5)))]), (nat_lit 6, nat_lit 2, [(nat_lit 1, (.ofNat (nat_lit 0))), (nat_lit 2, (.ofNat (nat_lit 0)))]), (nat_lit 4, nat_lit 0, [(nat_lit 60, (.ofNat (nat_lit 0))), (nat_lit 0, (.ofNat (nat_lit 4)))]), (nat_lit 4, nat_lit 0, [(nat_lit 60, (.ofNat (nat_lit 0))), (nat_lit 0, (.ofNat (nat_lit 5)))])],
  [(nat_lit 13, nat_lit 1, []), (nat_lit 6, nat_lit 5, [(nat_lit 11, (.ofNat (nat_lit 0))), (nat_lit 0, (.ofNat (nat_lit 57)))]), (nat_lit 6, nat_lit 3, [(nat_lit 11, (.ofNat (nat_lit 0))), (nat_lit 0, (.ofNat (nat_lit 48)))]), (nat_lit 6, nat_lit 2, [(nat_lit 11, (.ofNat (nat_lit 0))), (nat_lit 0, (.ofNat (nat_lit 97)))]), (nat_lit 4, nat_lit 4, [(nat_lit 1, (.ofNat (nat_lit 0))), (nat_lit 10, (.ofNat (nat_lit 0)))]), (nat_lit 4, nat_lit 0, [(nat_lit 60, (.ofNat (nat_lit 0))), (nat_lit 0, (.ofNat (nat_lit 5)))]), (nat_lit 6, nat_lit 2, [(nat_lit 8, (.ofNat (nat_lit 0))), (nat_lit 9, (.ofNat (nat_lit 0)))]), (nat_lit 4, nat_lit 0, [(nat_lit 60, (.ofNat (nat_lit 0))), (nat_lit 0, (.ofNat (nat_lit 4)))]), (nat_lit 4, nat_lit 0, [(nat_lit 60, (.ofNat (nat_lit 0))), (nat_lit 0, (.ofNat (nat_lit 5)))]), (nat_lit 5, nat_lit 0, [(nat_lit 60, (.ofNat (nat_lit 0))), (nat_lit 0, (.ofNat (nat_lit 8))), (nat_lit 0, (.ofNat (nat_lit 0)))]), (nat_lit 5, nat_lit 0, [(nat_lit 60, (.ofNat (nat_lit 0))), (nat_lit 0, (.ofNat (nat_lit 7))), (nat_lit 7, (.ofNat (nat_lit 0)))]), (nat_lit 4, nat_lit 0, [(nat_lit 60, (.ofNat (nat_lit 0))), (nat_lit 0, (.ofNat (nat_lit 5)))]), (nat_lit 6, nat_lit 1, [(nat_lit 6, (.ofNat (nat_lit 0))), (nat_lit 0, (.ofNat (nat_lit 32)))]), (nat_lit 4, nat_lit 4, [(nat_lit 1, (.ofNat (nat_lit 0))), (nat_lit 5, (.ofNat (nat_lit 0)))]), (nat_lit 4, nat_lit 0, [(nat_lit 60, (.ofNat (nat_lit 0))), (nat_lit 0, (.ofNat (nat_lit 5)))]), (nat_lit 6, nat_lit 1, [(nat_lit 4, (.ofNat (nat_lit 0))), (nat_lit 0, (.ofNat (nat_lit 10)))]), (nat_lit 4, nat_lit 4, [(nat_lit 1, (.ofNat (nat_lit 0))), (nat_lit 3, (.ofNat (nat_lit 0)))]), (nat_lit 4, nat_lit 0, [(nat_lit 60, (.ofNat (nat_lit 0))), (nat_lit 0, (.ofNat (nat_lit 5)))]), (nat_lit 6, nat_lit 2, [(nat_lit 1, (.ofNat (nat_lit 0))), (nat_lit 2, (.ofNat (nat_lit 0)))]), (nat_lit 4, nat_lit 0, [(nat_lit 60, (.ofNat (nat_lit 0))), (nat_lit 0, (.ofNat (nat_lit 4)))]), (nat_lit 4, nat_lit 0, [(nat_lit 60, (.ofNat (nat_lit 0))), (nat_lit 0, (.ofNat (nat_lit 5)))])],
  [(nat_lit 11, nat_lit 0, [(nat_lit 0, (.ofNat (nat_lit 0)))]), (nat_lit 8, nat_lit 1, []), (nat_lit 6, nat_lit 5, [(nat_lit 11, (.ofNat (nat_lit 0))), (nat_lit 0, (.ofNat (nat_lit 57)))]), (nat_lit 6, nat_lit 3, [(nat_lit 11, (.ofNat (nat_lit 0))), (nat_lit 0, (.ofNat (nat_lit 48)))]), (nat_lit 6, nat_lit 2, [(nat_lit 11, (.ofNat (nat_lit 0))), (nat_lit 0, (.ofNat (nat_lit 97)))]), (nat_lit 4, nat_lit 4, [(nat_lit 1, (.ofNat (nat_lit 0))), (nat_lit 10, (.ofNat (nat_lit 0)))]), (nat_lit 4, nat_lit 0, [(nat_lit 60, (.ofNat (nat_lit 0))), (nat_lit 0, (.ofNat (nat_lit 5)))]), (nat_lit 6, nat_lit 2, [(nat_lit 8, (.ofNat (nat_lit 0))), (nat_lit 9, (.ofNat (nat_lit 0)))]), (nat_lit 4, nat_lit 0, [(nat_lit 60, (.ofNat (nat_lit 0))), (nat_lit 0, (.ofNat (nat_lit 4)))]), (nat_lit 4, nat_lit 0, [(nat_lit 60, (.ofNat (nat_lit 0))), (nat_lit 0, (.ofNat (nat_lit 5)))]), (nat_lit 5, nat_lit 0, [(nat_lit 60, (.ofNat (nat_lit 0))), (nat_lit 0, (.ofNat (nat_lit 8))), (nat_lit 0, (.ofNat (nat_lit 0)))]), (nat_lit 5, nat_lit 0, [(nat_lit 60, (.ofNat (nat_lit 0))), (nat_lit 0, (.ofNat (nat_lit 7))), (nat_lit 7, (.ofNat (nat_lit 0)))]), (nat_lit 4, nat_lit 0, [(nat_lit 60, (.ofNat (nat_lit 0))), (nat_lit 0, (.ofNat (nat_lit 5)))]), (nat_lit 6, nat_lit 1, [(nat_lit 6, (.ofNat (nat_lit 0))), (nat_lit 0, (.ofNat (nat_lit 32)))]), (nat_lit 4, nat_lit 4, [(nat_lit 1, (.ofNat (nat_lit 0))), (nat_lit 5, (.ofNat (nat_lit 0)))]), (nat_lit 4, nat_lit 0, [(nat_lit 60, (.ofNat (nat_lit 0))), (nat_lit 0, (.ofNat (nat_lit 5)))]), (nat_lit 6, nat_lit 1, [(nat_lit 4, (.ofNat (nat_lit 0))), (nat_lit 0, (.ofNat (nat_lit 10)))]), (nat_lit 4, nat_lit 4, [(nat_lit 1, (.ofNat (nat_lit 0))), (nat_lit 3, (.ofNat (nat_lit 0)))]), (nat_lit 4, nat_lit 0, [(nat_lit 60, (.ofNat (nat_lit 0))), (nat_lit 0, (.ofNat (nat_lit 5)))]), (nat_lit 6, nat_lit 2, [(nat_lit 1, (.ofNat (nat_lit 0))), (nat_lit 2, (.ofNat (nat_lit 0)))]), (nat_lit 4, nat_lit 0, [(nat_lit 60, (.ofNat (nat_lit 0))), (nat_lit 0, (.ofNat (nat_lit 4)))]), (nat_lit 4, nat_lit 0, [(nat_lit 60, (.ofNat (nat_lit 0))), (nat_lit 0, (.ofNat (nat_lit 5)))])],
  [(nat_lit 13, nat_lit 2, [(nat_lit 11, (.ofNat (nat_lit 0)))]), (nat_lit 5, nat_lit 0, [(nat_lit 60, (.ofNat (nat_lit 0))), (nat_lit 0, (.ofNat (nat_lit 5))), (nat_lit 13, (.ofNat (nat_lit 0)))]), (nat_lit 0, nat_lit 1, [(nat_lit 12, (.ofNat (nat_lit 0))), (nat_lit 0, (.ofNat (nat_lit 1)))]), (nat_lit 4, nat_lit 0, [(nat_lit 60, (.ofNat (nat_lit 0))), (nat_lit 0, (.ofNat (nat_lit 5)))]), (nat_lit 6, nat_lit 4, [(nat_lit 11, (.ofNat (nat_lit 0))), (nat_lit 0, (.ofNat (nat_lit 57)))]), (nat_lit 6, nat_lit 3, [(nat_lit 11, (.ofNat (nat_lit 0))), (nat_lit 0, (.ofNat (nat_lit 48)))]), (nat_lit 6, nat_lit 4, [(nat_lit 11, (.ofNat (nat_lit 0))), (nat_lit 0, (.ofNat (nat_lit 122)))]), (nat_lit 6, nat_lit 3, [(nat_lit 11, (.ofNat (nat_lit 0))), (nat_lit 0, (.ofNat (nat_lit 97)))]), (nat_lit 4, nat_lit 4, [(nat_lit 1, (.ofNat (nat_lit 0))), (nat_lit 10, (.ofNat (nat_lit 0)))]), (nat_lit 4, nat_lit 0, [(nat_lit 60, (.ofNat (nat_lit 0))), (nat_lit 0, (.ofNat (nat_lit 5)))]), (nat_lit 6, nat_lit 2, [(nat_lit 8, (.ofNat (nat_lit 0))), (nat_lit 9, (.ofNat (nat_lit 0)))]), (nat_lit 4, nat_lit 0, [(nat_lit 60, (.ofNat (nat_lit 0))), (nat_lit 0, (.ofNat (nat_lit 4)))]), (nat_lit 4, nat_lit 0, [(nat_lit 60, (.ofNat (nat_lit 0))), (nat_lit 0, (.ofNat (nat_lit 5)))]), (nat_lit 5, nat_lit 0, [(nat_lit 60, (.ofNat (nat_lit 0))), (nat_lit 0, (.ofNat (nat_lit 8))), (nat_lit 0, (.ofNat (nat_lit 0)))]), (nat_lit 5, nat_lit 0, [(nat_lit 60, (.ofNat (nat_lit 0))), (nat_lit 0, (.ofNat (nat_lit 7))), (nat_lit 7, (.ofNat (nat_lit 0)))]), (nat_lit 4, nat_lit 0, [(nat_lit 60, (.ofNat (nat_lit 0))), (nat_lit 0, (.ofNat (nat_lit 5)))]), (nat_lit 6, nat_lit 1, [(nat_lit 6, (.ofNat (nat_lit 0))), (nat_lit 0, (.ofNat (nat_lit 32)))]), (nat_lit 4, nat_lit 4, [(nat_lit 1, (.ofNat (nat_lit 0))), (nat_lit 5, (.ofNat (nat_lit 0)))]), (nat_lit 4, nat_lit 0, [(nat_lit 60, (.ofNat (nat_lit 0))), (nat_lit 0, (.ofNat (nat_lit 5)))]), (nat_lit 6, nat_lit 1, [(nat_lit 4, (.ofNat (nat_lit 0))), (nat_lit 0, (.ofNat (nat_lit 10)))]), (nat_lit 4, nat_lit 4, [(nat_lit 1, (.ofNat (nat_lit 0))), (nat_lit 3, (.ofNat (nat_lit 0)))]), (nat_lit 4, nat_lit 0, [(nat_lit 60, (.ofNat (nat_lit 0))), (nat_lit 0, (.ofNat (nat_lit 5)))]), (nat_lit 6, nat_lit 2, [(nat_lit 1, (.ofNat (nat_lit 0))), (nat_lit 2, (.ofNat (nat_lit 0)))]), (nat_lit 4, nat_lit 0, [(nat_lit 60, (.ofNat (nat_lit 0))), (nat_lit 0, (.ofNat (nat_lit 4)))]), (nat_lit 4, nat_lit 0, [(nat_lit 60, (.ofNat (nat_lit 0))), (nat_lit 0, (.ofNat (nat_lit 5)))])],
  [(nat_lit 11, nat_lit 0, [(nat_lit 0, (.ofNat (nat_lit 0)))]), (nat_lit 5, nat_lit 0, [(nat_lit 60, (.ofNat (nat_lit 0))), (nat_lit 0, (.ofNat (nat_lit 6))), (nat_lit 14, (.ofNat (nat_lit 0)))]), (nat_lit 8, nat_lit 2, [(nat_lit 11, (.ofNat (nat_lit 0)))]), (nat_lit 5, nat_lit 0, [(nat_lit 60, (.ofNat (nat_lit 0))), (nat_lit 0, (.ofNat (nat_lit 5))), (nat_lit 13, (.ofNat (nat_lit 0)))]), (nat_lit 0, nat_lit 1, [(nat_lit 12, (.ofNat (nat_lit 0))), (nat_lit 0, (.ofNat (nat_lit 1)))]), (nat_lit 4, nat_lit 0, [(nat_lit 60, (.ofNat (nat_lit 0))), (nat_lit 0, (.ofNat (nat_lit 5)))]), (nat_lit 6, nat_lit 4, [(nat_lit 11, (.ofNat (nat_lit 0))), (nat_lit 0, (.ofNat (nat_lit 57)))]), (nat_lit 6, nat_lit 3, [(nat_lit 11, (.ofNat (nat_lit 0))), (nat_lit 0, (.ofNat (nat_lit 48)))]), (nat_lit 6, nat_lit 4, [(nat_lit 11, (.ofNat (nat_lit 0))), (nat_lit 0, (.ofNat (nat_lit 122)))]), (nat_lit 6, nat_lit 3, [(nat_lit 11, (.ofNat (nat_lit 0))), (nat_lit 0, (.ofNat (nat_lit 97)))]), (nat_lit 4, nat_lit 4, [(nat_lit 1, (.ofNat (nat_lit 0))), (nat_lit 10, (.ofNat (nat_lit 0)))]), (nat_lit 4, nat_lit 0, [(nat_lit 60, (.ofNat (nat_lit 0))), (nat_lit 0, (.ofNat (nat_lit 5)))]), (nat_lit 6, nat_lit 2, [(nat_lit 8, (.ofNat (nat_lit 0))), (nat_lit 9, (.ofNat (nat_lit 0)))]), (nat_lit 4, nat_lit 0, [(nat_lit 60, (.ofNat (nat_lit 0))), (nat_lit 0, (.ofNat (nat_lit 4)))]), (nat_lit 4, nat_lit 0, [(nat_lit 60, (.ofNat (nat_lit 0))), (nat_lit 0, (.ofNat (nat_lit 5)))]), (nat_lit 5, nat_lit 0, [(nat_lit 60, (.ofNat (nat_lit 0))), (nat_lit 0, (.ofNat (nat_lit 8))), (nat_lit 0, (.ofNat (nat_lit 0)))]), (nat_lit 5, nat_lit 0, [(nat_lit 60, (.ofNat (nat_lit 0))), (nat_lit 0, (.ofNat (nat_lit 7))), (nat_lit 7, (.ofNat (nat_lit 0)))]), (nat_lit 4, nat_lit 0, [(nat_lit 60, (.ofNat (nat_lit 0))), (nat_lit 0, (.ofNat (nat_lit 5)))]), (nat_lit 6, nat_lit 1, [(nat_lit 6, (.ofNat (nat_lit 0))), (nat_lit 0, (.ofNat (nat_lit 32)))]), (nat_lit 4, nat_lit 4, [(nat_lit 1, (.ofNat (nat_lit 0))), (nat_lit 5, (.ofNat (nat_lit 0)))]), (nat_lit 4, nat_lit 0, [(nat_lit 60, (.ofNat (nat_lit 0))), (nat_lit 0, (.ofNat (nat_lit 5)))]), (nat_lit 6, nat_lit 1, [(nat_lit 4, (.ofNat (nat_lit 0))), (nat_lit 0, (.ofNat (nat_lit 10)))]), (nat_lit 4, nat_lit 4, [(nat_lit 1, (.ofNat (nat_lit 0))), (nat_lit 3, (.ofNat (nat_lit 0)))]), (nat_lit 4, nat_lit 0, [(nat_lit 60, (.ofNat (nat_lit 0))), (nat_lit 0, (.ofNat (nat_lit 5)))]), (nat_lit 6, nat_lit 2, [(nat_lit 1, (.ofNat (nat_lit 0))), (nat_lit 2, (.ofNat (nat_lit 0)))]), (nat_lit 4, nat_lit 0, [(nat_lit 60, (.ofNat (nat_lit 0))), (nat_lit 0, (.ofNat (nat_lit 4)))]), (nat_lit 4, nat_lit 0, [(nat_lit 60, (.ofNat (nat_lit 0))), (nat_lit 0, (.ofNat (nat_lit 5)))])],
  [(nat_lit 13, nat_lit 0, []), (nat_lit 6, nat_lit 5, [(nat_lit 11, (.ofNat (nat_lit 0))), (nat_lit 0, (.ofNat (nat_lit 122)))]), (nat_lit 6, nat_lit 3, [(nat_lit 11, (.ofNat (nat_lit 0))), (nat_lit 0, (.ofNat (nat_lit 97)))]), (nat_lit 4, nat_lit 4, [(nat_lit 1, (.ofNat (nat_lit 0))), (nat_lit 10, (.ofNat (nat_lit 0)))]), (nat_lit 4, nat_lit 0, [(nat_lit 60, (.ofNat (nat_lit 0))), (nat_lit 0, (.ofNat (nat_lit 5)))]), (nat_lit 6, nat_lit 2, [(nat_lit 8, (.ofNat (nat_lit 0))), (nat_lit 9, (.ofNat (nat_lit 0)))]), (nat_lit 4, nat_lit 0, [(nat_lit 60, (.ofNat (nat_lit 0))), (nat_lit 0, (.ofNat (nat_lit 4)))]), (nat_lit 4, nat_lit 0, [(nat_lit 60, (.ofNat (nat_lit 0))), (nat_lit 0, (.ofNat (nat_lit 5)))]), (nat_lit 5, nat_lit 0, [(nat_lit 60, (.ofNat (nat_lit 0))), (nat_lit 0, (.ofNat (nat_lit 8))), (nat_lit 0, (.ofNat (nat_lit 0)))]), (nat_lit 5, nat_lit 0, [(nat_lit 60, (.ofNat (nat_lit 0))), (nat_lit 0, (.ofNat (nat_lit 7))), (nat_lit 7, (.ofNat (nat_lit 0)))]), (nat_lit 4, nat_lit 0, [(nat_lit 60, (.ofNat (nat_lit 0))), (nat_lit 0, (.ofNat (nat_lit 5)))]), (nat_lit 6, nat_lit 1, [(nat_lit 6, (.ofNat (nat_lit 0))), (nat_lit 0, (.ofNat (nat_lit 32)))]), (nat_lit 4, nat_lit 4, [(nat_lit 1, (.ofNat (nat_lit 0))), (nat_lit 5, (.ofNat (nat_lit 0)))]), (nat_lit 4, nat_lit 0, [(nat_lit 60, (.ofNat (nat_lit 0))), (nat_lit 0, (.ofNat (nat_lit 5)))]), (nat_lit 6, nat_lit 1, [(nat_lit 4, (.ofNat (nat_lit 0))), (nat_lit 0, (.ofNat (nat_lit 10)))]), (nat_lit 4, nat_lit 4, [(nat_lit 1, (.ofNat (nat_lit 0))), (nat_lit 3, (.ofNat (nat_lit 0)))]), (nat_lit 4, nat_lit 0, [(nat_lit 60, (.ofNat (nat_lit 0))), (nat_lit 0, (.ofNat (nat_lit 5)))]), (nat_lit 6, nat_lit 2, [(nat_lit 1, (.ofNat (nat_lit 0))), (nat_lit 2, (.ofNat (nat_lit 0)))]), (nat_lit 4, nat_lit 0, [(nat_lit 60, (.ofNat (nat_lit 0))), (nat_lit 0, (.ofNat (nat_lit 4)))]), (nat_lit 4, nat_lit 0, [(nat_lit 60, (.ofNat (nat_lit 0))), (nat_lit 0, (.ofNat (nat_lit 5)))])],
  [(nat_lit 11, nat_lit 0, [(nat_lit 0, (.ofNat (nat_lit 0)))]), (nat_lit 8, nat_lit 0, []), (nat_lit 6, nat_lit 5, [(nat_lit 11, (.ofNat (nat_lit 0))), (nat_lit 0, (.ofNat (nat_lit 122)))]), (nat_lit 6, nat_lit 3, [(nat_lit 11, (.ofNat (nat_lit 0))), (nat_lit 0, (.ofNat (nat_lit 97)))]), (nat_lit 4, nat_lit 4, [(nat_lit 1, (.ofNat (nat_lit 0))), (nat_lit 10, (.ofNat (nat_lit 0)))]), (nat_lit 4, nat_lit 0, [(nat_lit 60, (.ofNat (nat_lit 0))), (nat_lit 0, (.ofNat (nat_lit 5)))]), (nat_lit 6, nat_lit 2, [(nat_lit 8, (.ofNat (nat_lit 0))), (nat_lit 9, (.ofNat (nat_lit 0)))]), (nat_lit 4, nat_lit 0, [(nat_lit 60, (.ofNat (nat_lit 0))), (nat_lit 0, (.ofNat (nat_lit 4)))]), (nat_lit 4, nat_lit 0, [(nat_lit 60, (.ofNat (nat_lit 0))), (nat_lit 0, (.ofNat (nat_lit 5)))]), (nat_lit 5, nat_lit 0, [(nat_lit 60, (.ofNat (nat_lit 0))), (nat_lit 0, (.ofNat (nat_lit 8))), (nat_lit 0, (.ofNat (nat_lit 0)))]), (nat_lit 5, nat_lit 0, [(nat_lit 60, (.ofNat (nat_lit 0))), (nat_lit 0, (.ofNat (nat_lit 7))), (nat_lit 7, (.ofNat (nat_lit 0)))]), (nat_lit 4, nat_lit 0, [(nat_lit 60, (.ofNat (nat_lit 0))), (nat_lit 0, (.ofNat (nat_lit 5)))]), (nat_lit 6, nat_lit 1, [(nat_lit 6, (.ofNat (nat_lit 0))), (nat_lit 0, (.ofNat (nat_lit 32)))]), (nat_lit 4, nat_lit 4, [(nat_lit 1, (.ofNat (nat_lit 0))), (nat_lit 5, (.ofNat (nat_lit 0)))]), (nat_lit 4, nat_lit 0, [(nat_lit 60, (.ofNat (nat_lit 0))), (nat_lit 0, (.ofNat (nat_lit 5)))]), (nat_lit 6, nat_lit 1, [(nat_lit 4, (.ofNat (nat_lit 0))), (nat_lit 0, (.ofNat (nat_lit 10)))]), (nat_lit 4, nat_lit 4, [(nat_lit 1, (.ofNat (nat_lit 0))), (nat_lit 3, (.ofNat (nat_lit 0)))]), (nat_lit 4, nat_lit 0, [(nat_lit 60, (.ofNat (nat_lit 0))), (nat_lit 0, (.ofNat (nat_lit 5)))]), (nat_lit 6, nat_lit 2, [(nat_lit 1, (.ofNat (nat_lit 0))), (nat_lit 2, (.ofNat (nat_lit 0)))]), (nat_lit 4, nat_lit 0, [(nat_lit 60, (.ofNat (nat_lit 0))), (nat_lit 0, (.ofNat (nat_lit 4)))]), (nat_lit 4, nat_lit 0, [(nat_lit 60, (.ofNat (nat_lit 0))), (nat_lit 0, (.ofNat (nat_lit 5)))])],
  [(nat_lit 10, nat_lit 0, []), (nat_lit 5, nat_lit 0, [(nat_lit 60, (.ofNat (nat_lit 0))), (nat_lit 0, (.ofNat (nat_lit 5))), (nat_lit 8, (.ofNat (nat_lit 0)))]), (nat_lit 0, nat_lit 1, [(nat_lit 7, (.ofNat (nat_lit 0))), (nat_lit 0, (.ofNat (nat_lit 1)))]), (nat_lit 4, nat_lit 0, [(nat_lit 60, (.ofNat (nat_lit 0))), (nat_lit 0, (.ofNat (nat_lit 5)))]), (nat_lit 6, nat_lit 0, [(nat_lit 6, (.ofNat (nat_lit 0))), (nat_lit 0, (.ofNat (nat_lit 32)))]), (nat_lit 4, nat_lit 4, [(nat_lit 1, (.ofNat (nat_lit 0))), (nat_lit 5, (.ofNat (nat_lit 0)))]), (nat_lit 4, nat_lit 0, [(nat_lit 60, (.ofNat (nat_lit 0))), (nat_lit 0, (.ofNat (nat_lit 5)))]), (nat_lit 6, nat_lit 1, [(nat_lit 4, (.ofNat (nat_lit 0))), (nat_lit 0, (.ofNat (nat_lit 10)))]), (nat_lit 4, nat_lit 4, [(nat_lit 1, (.ofNat (nat_lit 0))), (nat_lit 3, (.ofNat (nat_lit 0)))]), (nat_lit 4, nat_lit 0, [(nat_lit 60, (.ofNat (nat_lit 0))), (nat_lit 0, (.ofNat (nat_lit 5)))]), (nat_lit 6, nat_lit 2, [(nat_lit 1, (.ofNat (nat_lit 0))), (nat_lit 2, (.ofNat (nat_lit 0)))]), (nat_lit 4, nat_lit 0, [(nat_lit 60, (.ofNat (nat_lit 0))), (nat_lit 0, (.ofNat (nat_lit 4)))]), (nat_lit 4, nat_lit 0, [(nat_lit 60, (.ofNat (nat_lit 0))), (nat_lit 0, (.ofNat (nat_lit 5)))])]]
def zFu_next_0 : List (List zK) := []
set_option maxHeartbeats 8000000 in
theorem zu_next {ro : Nat → List Int32} : zMet pr_P pr_K pr_df ro (sm_X0 1 6) 2 45 tm_u [(.inr (.inr (.inl (nat_lit 60))))] 0 [(nat_lit 60, nat_lit 3, nat_lit 1), (nat_lit 60, nat_lit 9, nat_lit 61), (nat_lit 60, nat_lit 10, nat_lit 62), (nat_lit 60, nat_lit 11, nat_lit 63), (nat_lit 60, nat_lit 2, nat_lit 32), (nat_lit 32, nat_lit 8, nat_lit 33), (nat_lit 32, nat_lit 9, nat_lit 34), (nat_lit 32, nat_lit 10, nat_lit 35), (nat_lit 32, nat_lit 11, nat_lit 36), (nat_lit 32, nat_lit 12, nat_lit 41), (nat_lit 32, nat_lit 13, nat_lit 46), (nat_lit 32, nat_lit 14, nat_lit 47), (nat_lit 36, nat_lit 0, nat_lit 37), (nat_lit 41, nat_lit 0, nat_lit 42), (nat_lit 36, nat_lit 1, nat_lit 38), (nat_lit 41, nat_lit 1, nat_lit 43), (nat_lit 36, nat_lit 2, nat_lit 39), (nat_lit 41, nat_lit 2, nat_lit 44), (nat_lit 36, nat_lit 3, nat_lit 40), (nat_lit 41, nat_lit 3, nat_lit 45), (nat_lit 47, nat_lit 2, nat_lit 48), (nat_lit 47, nat_lit 3, nat_lit 49), (nat_lit 47, nat_lit 4, nat_lit 50), (nat_lit 47, nat_lit 5, nat_lit 51), (nat_lit 47, nat_lit 6, nat_lit 52)] [] (fun xs η => sP wl_u zTr zPu_next xs η ∧ pPu_next xs η) (fun xs η y η' => sQ wl_u zTr zOu_next zMu_next xs η y η' ∧ pQu_next xs η y η') :=
  zmet_alt (zmea_gen (mi := (nat_lit 0, nat_lit 1, nat_lit 3, nat_lit 2, nat_lit 0, tX3_next)) (cd := [(nat_lit 47, nat_lit 0, nat_lit 1, [(.inr (.inr (.inl (nat_lit 60))))], nat_lit 0, [(nat_lit 60, nat_lit 3, nat_lit 1), (nat_lit 60, nat_lit 9, nat_lit 61), (nat_lit 60, nat_lit 10, nat_lit 62), (nat_lit 60, nat_lit 11, nat_lit 63), (nat_lit 60, nat_lit 2, nat_lit 32), (nat_lit 32, nat_lit 8, nat_lit 33), (nat_lit 32, nat_lit 9, nat_lit 34), (nat_lit 32, nat_lit 10, nat_lit 35), (nat_lit 32, nat_lit 11, nat_lit 36), (nat_lit 32, nat_lit 12, nat_lit 41), (nat_lit 32, nat_lit 13, nat_lit 46), (nat_lit 32, nat_lit 14, nat_lit 47), (nat_lit 36, nat_lit 0, nat_lit 37), (nat_lit 41, nat_lit 0, nat_lit 42), (nat_lit 36, nat_lit 1, nat_lit 38), (nat_lit 41, nat_lit 1, nat_lit 43), (nat_lit 36, nat_lit 2, nat_lit 39), (nat_lit 41, nat_lit 2, nat_lit 44), (nat_lit 36, nat_lit 3, nat_lit 40), (nat_lit 41, nat_lit 3, nat_lit 45), (nat_lit 47, nat_lit 2, nat_lit 48), (nat_lit 47, nat_lit 3, nat_lit 49), (nat_lit 47, nat_lit 4, nat_lit 50), (nat_lit 47, nat_lit 5, nat_lit 51), (nat_lit 47, nat_lit 6, nat_lit 52)], []), (nat_lit 46, nat_lit 1, nat_lit 0, [(.inr (.inr (.inl (nat_lit 60))))], nat_lit 0, [(nat_lit 60, nat_lit 3, nat_lit 1), (nat_lit 60, nat_lit 9, nat_lit 61), (nat_lit 60, nat_lit 10, nat_lit 62), (nat_lit 60, nat_lit 11, nat_lit 63), (nat_lit 60, nat_lit 2, nat_lit 32), (nat_lit 32, nat_lit 8, nat_lit 33), (nat_lit 32, nat_lit 9, nat_lit 34), (nat_lit 32, nat_lit 10, nat_lit 35), (nat_lit 32, nat_lit 11, nat_lit 36), (nat_lit 32, nat_lit 12, nat_lit 41), (nat_lit 32, nat_lit 13, nat_lit 46), (nat_lit 32, nat_lit 14, nat_lit 47), (nat_lit 36, nat_lit 0, nat_lit 37), (nat_lit 41, nat_lit 0, nat_lit 42), (nat_lit 36, nat_lit 1, nat_lit 38), (nat_lit 41, nat_lit 1, nat_lit 43), (nat_lit 36, nat_lit 2, nat_lit 39), (nat_lit 41, nat_lit 2, nat_lit 44), (nat_lit 36, nat_lit 3, nat_lit 40), (nat_lit 41, nat_lit 3, nat_lit 45), (nat_lit 47, nat_lit 2, nat_lit 48), (nat_lit 47, nat_lit 3, nat_lit 49), (nat_lit 47, nat_lit 4, nat_lit 50), (nat_lit 47, nat_lit 5, nat_lit 51), (nat_lit 47, nat_lit 6, nat_lit 52)], []), (nat_lit 49, nat_lit 2, nat_lit 1, [(.inr (.inr (.inl (nat_lit 60)))), (.inl (nat_lit 1, (.ofNat (nat_lit 0))))], nat_lit 1, [(nat_lit 60, nat_lit 3, nat_lit 1), (nat_lit 60, nat_lit 9, nat_lit 61), (nat_lit 60, nat_lit 10, nat_lit 62), (nat_lit 60, nat_lit 11, nat_lit 63), (nat_lit 60, nat_lit 2, nat_lit 32), (nat_lit 32, nat_lit 8, nat_lit 33), (nat_lit 32, nat_lit 9, nat_lit 34), (nat_lit 32, nat_lit 10, nat_lit 35), (nat_lit 32, nat_lit 11, nat_lit 36), (nat_lit 32, nat_lit 12, nat_lit 41), (nat_lit 32, nat_lit 13, nat_lit 46), (nat_lit 32, nat_lit 14, nat_lit 47), (nat_lit 36, nat_lit 0, nat_lit 37), (nat_lit 41, nat_lit 0, nat_lit 42), (nat_lit 36, nat_lit 1, nat_lit 38), (nat_lit 41, nat_lit 1, nat_lit 43), (nat_lit 36, nat_lit 2, nat_lit 39), (nat_lit 41, nat_lit 2, nat_lit 44), (nat_lit 36, nat_lit 3, nat_lit 40), (nat_lit 41, nat_lit 3, nat_lit 45), (nat_lit 47, nat_lit 2, nat_lit 48), (nat_lit 47, nat_lit 3, nat_lit 49), (nat_lit 47, nat_lit 4, nat_lit 50), (nat_lit 47, nat_lit 5, nat_lit 51), (nat_lit 47, nat_lit 6, nat_lit 52)], [])]) (cu := zUu_next) (cs := [(nat_lit 0, zPu_nextWord, zOu_nextWord, zMu_nextWord), (nat_lit 1, zPu_nextNumber, zOu_nextNumber, zMu_nextNumber), (nat_lit 2, zPu_sign, zOu_sign, zMu_sign)]) (iv := zVu_next) (po := [zOu_next]) (pr := zPu_next) (mods := zMu_next) (D7 := zDu_next) (D0 := zEu_next) (Dm := zFu_next) (f0 := 5) pCu_next qCu_next iCu_next pPu_next (fun xs η _ y η' => pQu_next xs η y η') zX_low pr_mtR rfl (List.forall_mem_cons.mpr ⟨zu_nextWord, List.forall_mem_cons.mpr ⟨zu_nextNumber, List.forall_mem_cons.mpr ⟨zu_sign, fun _ h => nomatch h⟩⟩⟩) (by decide +kernel) (by decide +kernel) (by decide +kernel)
    (by
      intro xs η hr hl hp hpp
      match xs, hl, hp, hpp with
      | [], _, hp, hpp =>
        refine List.forall_mem_cons.mpr ⟨?_, fun _ h => nomatch h⟩
        · refine zden_L (n := 1) (ρ := [0]) rfl ?_
          show (iCu_next [] η) 0 [] η
          
          have b5 : (0 : Int) ≤ η 60 5 ∧ η 60 5 ≤ 700 := wf_ok (a := 5) (b := 5) (z := (0, 700)) hp.1 (by decide +kernel) (Nat.le_refl _) (Nat.le_refl _)
          have b4 : (0 : Int) ≤ η 60 4 ∧ η 60 4 ≤ 700 := wf_ok (a := 4) (b := 4) (z := (0, 700)) hp.1 (by decide +kernel) (Nat.le_refl _) (Nat.le_refl _)
          exact yzI_0 b5.1
      )
    (fun _ _ _ _ _ _ _ h => nomatch h)
    (List.forall_mem_cons.mpr ⟨⟨zDu_next_0, zEu_next_0, zFu_next_0, 65, by decide +kernel, (by
      intro xs η0 hlx hp hpp ys η hr hl hI hig
      match ys, hl, hI, hig with
      | [], _, hI, hig =>
        refine ⟨?_, ?_⟩
        · refine List.forall_mem_cons.mpr ⟨?_, List.forall_mem_cons.mpr ⟨?_, List.forall_mem_cons.mpr ⟨?_, List.forall_mem_cons.mpr ⟨?_, List.forall_mem_cons.mpr ⟨?_, List.forall_mem_cons.mpr ⟨?_, List.forall_mem_cons.mpr ⟨?_, List.forall_mem_cons.mpr ⟨?_, List.forall_mem_cons.mpr ⟨?_, List.forall_mem_cons.mpr ⟨?_, List.forall_mem_cons.mpr ⟨?_, List.forall_mem_cons.mpr ⟨?_, List.forall_mem_cons.mpr ⟨?_, fun _ h => nomatch h⟩⟩⟩⟩⟩⟩⟩⟩⟩⟩⟩⟩⟩
          · refine zden_L (n := 1) (ρ := [0]) rfl ?_
            show ∀ x1 : Int, x1 = η 60 (Int.toNat 5) → zok 0 x1 → ∀ x2 : Int, x2 = η 60 (Int.toNat 4) → zok 0 x2 → (x2 ≤ x1) → ∀ x3 : Int, x3 = η 60 (Int.toNat 5) → zok 0 x3 → ∀ η1 : zE, η1 = zup η 60 (Int.toNat 7) x3 → ∀ η2 : zE, η2 = zup η1 60 (Int.toNat 8) 0 → ∀ x4 : Int, x4 = η2 60 (Int.toNat 5) → zok 0 x4 → ∀ x5 : Int, x5 = η2 60 (Int.toNat 4) → zok 0 x5 → (x5 ≤ x4) → ∀ η3 : zE, η3 = zup η2 60 (Int.toNat 6) 21 → (fun (_ : Nat) (y : Int) (η' : zE) => pQu_next xs η0 y η') 0 0 η3
            intro x1 e1 r1 x2 e2 r2 c1 x3 e3 r3 η1 eη1 η2 eη2 x4 e4 r4 x5 e5 r5 c2 η3 eη3
            have b5 : (0 : Int) ≤ η 60 5 ∧ η 60 5 ≤ 700 := wf_ok (a := 5) (b := 5) (z := (0, 700)) hI.1.1 (by decide +kernel) (Nat.le_refl _) (Nat.le_refl _)
            have b4 : (0 : Int) ≤ η 60 4 ∧ η 60 4 ≤ 700 := wf_ok (a := 4) (b := 4) (z := (0, 700)) hI.1.1 (by decide +kernel) (Nat.le_refl _) (Nat.le_refl _)
            have e1 : x1 = η 60 5 := e1
            have e2 : x2 = η 60 4 := e2
            have e3 : x3 = η 60 5 := e3
            refine fun w => ?_
            rw [eη3, eη2, eη1, e3]
            exact adv_of hig b5.1 (Or.inl (by omega)) (adv_e b5.1 (by omega))
          · refine zden_L (n := 1) (ρ := [0]) rfl ?_
            show ∀ x1 : Int, x1 = η 60 (Int.toNat 5) → zok 0 x1 → ∀ x2 : Int, x2 = η 60 (Int.toNat 4) → zok 0 x2 → (x1 < x2) → ∀ x3 : Int, x3 = η 60 (Int.toNat 5) → zok 0 x3 → ∀ x4 : Int, x4 = η 1 (Int.toNat x3) → zok 4 x4 → (x4 = 10) → ∀ x5 : Int, x5 = η 60 (Int.toNat 5) → zok 0 x5 → ∀ x6 : Int, x6 = zd 0 1 x5 1 → ∀ η1 : zE, η1 = zup η 60 (Int.toNat 5) x6 → (iCu_next xs η0) 0 [] η1 ∧ (fun (_ : Nat) (_ : List Int) (_ : zE) => (0 : Nat)) 0 [] η1 < 1
            intro x1 e1 r1 x2 e2 r2 c1 x3 e3 r3 x4 e4 r4 c2 x5 e5 r5 x6 e6 η1 eη1
            have b5 : (0 : Int) ≤ η 60 5 ∧ η 60 5 ≤ 700 := wf_ok (a := 5) (b := 5) (z := (0, 700)) hI.1.1 (by decide +kernel) (Nat.le_refl _) (Nat.le_refl _)
            have b4 : (0 : Int) ≤ η 60 4 ∧ η 60 4 ≤ 700 := wf_ok (a := 4) (b := 4) (z := (0, 700)) hI.1.1 (by decide +kernel) (Nat.le_refl _) (Nat.le_refl _)
            have e1 : x1 = η 60 5 := e1
            have e2 : x2 = η 60 4 := e2
            have e3 : x3 = η 60 5 := e3
            have e4 : x4 = η 1 (Int.toNat x3) := e4
            have e5 : x5 = η 60 5 := e5
            rw [e3] at e4
            rw [zd_a ⟨by omega, by omega⟩] at e6
            exact ⟨by rw [eη1, e6, e5]; exact yzI_s hig b5.1 (by omega) (yb_10 (Or.inl (by omega))), Nat.zero_lt_one⟩
          · refine zden_L (n := 1) (ρ := [0]) rfl ?_
            show ∀ x1 : Int, x1 = η 60 (Int.toNat 5) → zok 0 x1 → ∀ x2 : Int, x2 = η 60 (Int.toNat 4) → zok 0 x2 → (x1 < x2) → ∀ x3 : Int, x3 = η 60 (Int.toNat 5) → zok 0 x3 → ∀ x4 : Int, x4 = η 1 (Int.toNat x3) → zok 4 x4 → (¬ x4 = 10) → ∀ x5 : Int, x5 = η 60 (Int.toNat 5) → zok 0 x5 → ∀ x6 : Int, x6 = η 1 (Int.toNat x5) → zok 4 x6 → (¬ x6 = 32) → ∀ x7 : Int, x7 = η 60 (Int.toNat 5) → zok 0 x7 → ∀ η1 : zE, η1 = zup η 60 (Int.toNat 7) x7 → ∀ η2 : zE, η2 = zup η1 60 (Int.toNat 8) 0 → ∀ x8 : Int, x8 = η2 60 (Int.toNat 5) → zok 0 x8 → ∀ x9 : Int, x9 = η2 60 (Int.toNat 4) → zok 0 x9 → (x8 < x9) → ∀ x10 : Int, x10 = η2 60 (Int.toNat 5) → zok 0 x10 → ∀ x11 : Int, x11 = η2 1 (Int.toNat x10) → zok 4 x11 → (x11 < 97) → (x11 < 48) → ∀ x12 : Int, x12 = η2 60 (Int.toNat 5) → zok 0 x12 → ∀ x13 : Int, x13 = zd 0 1 x12 1 → ∀ η3 : zE, η3 = zup η2 60 (Int.toNat 5) x13 → ((gC2 wl_u [(nat_lit 0, zPu_nextWord, zOu_nextWord, zMu_nextWord), (nat_lit 1, zPu_nextNumber, zOu_nextNumber, zMu_nextNumber), (nat_lit 2, zPu_sign, zOu_sign, zMu_sign)] pCu_next qCu_next) 2).1 [x11] η3
            intro x1 e1 r1 x2 e2 r2 c1 x3 e3 r3 x4 e4 r4 c2 x5 e5 r5 x6 e6 r6 c3 x7 e7 r7 η1 eη1 η2 eη2 x8 e8 r8 x9 e9 r9 c4 x10 e10 r10 x11 e11 r11 c5 c6 x12 e12 r12 x13 e13 η3 eη3
            exact trivial
          · refine zden_L (n := 1) (ρ := [0]) rfl ?_
            show ∀ x1 : Int, x1 = η 60 (Int.toNat 5) → zok 0 x1 → ∀ x2 : Int, x2 = η 60 (Int.toNat 4) → zok 0 x2 → (x1 < x2) → ∀ x3 : Int, x3 = η 60 (Int.toNat 5) → zok 0 x3 → ∀ x4 : Int, x4 = η 1 (Int.toNat x3) → zok 4 x4 → (¬ x4 = 10) → ∀ x5 : Int, x5 = η 60 (Int.toNat 5) → zok 0 x5 → ∀ x6 : Int, x6 = η 1 (Int.toNat x5) → zok 4 x6 → (¬ x6 = 32) → ∀ x7 : Int, x7 = η 60 (Int.toNat 5) → zok 0 x7 → ∀ η1 : zE, η1 = zup η 60 (Int.toNat 7) x7 → ∀ η2 : zE, η2 = zup η1 60 (Int.toNat 8) 0 → ∀ x8 : Int, x8 = η2 60 (Int.toNat 5) → zok 0 x8 → ∀ x9 : Int, x9 = η2 60 (Int.toNat 4) → zok 0 x9 → (x8 < x9) → ∀ x10 : Int, x10 = η2 60 (Int.toNat 5) → zok 0 x10 → ∀ x11 : Int, x11 = η2 1 (Int.toNat x10) → zok 4 x11 → (x11 < 97) → (x11 < 48) → ∀ x12 : Int, x12 = η2 60 (Int.toNat 5) → zok 0 x12 → ∀ x13 : Int, x13 = zd 0 1 x12 1 → ∀ η3 : zE, η3 = zup η2 60 (Int.toNat 5) x13 → ∀ (x14 : Int) (η4 : zE), ((gC2 wl_u [(nat_lit 0, zPu_nextWord, zOu_nextWord, zMu_nextWord), (nat_lit 1, zPu_nextNumber, zOu_nextNumber, zMu_nextNumber), (nat_lit 2, zPu_sign, zOu_sign, zMu_sign)] pCu_next qCu_next) 2).2 [x11] η3 x14 η4 → ∀ η5 : zE, η5 = zup η4 60 (Int.toNat 6) x14 → (fun (_ : Nat) (y : Int) (η' : zE) => pQu_next xs η0 y η') 0 0 η5
            intro x1 e1 r1 x2 e2 r2 c1 x3 e3 r3 x4 e4 r4 c2 x5 e5 r5 x6 e6 r6 c3 x7 e7 r7 η1 eη1 η2 eη2 x8 e8 r8 x9 e9 r9 c4 x10 e10 r10 x11 e11 r11 c5 c6 x12 e12 r12 x13 e13 η3 eη3 x14 η4 h14 η5 eη5
            have k14 : sQ wl_u zTr zOu_sign zMu_sign [x11] η3 x14 η4 ∧ pQu_sign [x11] η3 x14 η4 := h14
            have b5 : (0 : Int) ≤ η 60 5 ∧ η 60 5 ≤ 700 := wf_ok (a := 5) (b := 5) (z := (0, 700)) hI.1.1 (by decide +kernel) (Nat.le_refl _) (Nat.le_refl _)
            have b4 : (0 : Int) ≤ η 60 4 ∧ η 60 4 ≤ 700 := wf_ok (a := 4) (b := 4) (z := (0, 700)) hI.1.1 (by decide +kernel) (Nat.le_refl _) (Nat.le_refl _)
            have e1 : x1 = η 60 5 := e1
            have e2 : x2 = η 60 4 := e2
            have e3 : x3 = η 60 5 := e3
            have e4 : x4 = η 1 (Int.toNat x3) := e4
            have e5 : x5 = η 60 5 := e5
            have e6 : x6 = η 1 (Int.toNat x5) := e6
            have e7 : x7 = η 60 5 := e7
            have e8 : x8 = η2 60 5 := e8
            have e9 : x9 = η2 60 4 := e9
            have e10 : x10 = η2 60 5 := e10
            have e11 : x11 = η2 1 (Int.toNat x10) := e11
            rw [e3] at e4
            rw [e5] at e6
            have q5 : η2 60 5 = η 60 5 := by rw [eη2, eη1]; rfl
            have q1 : η2 1 = η 1 := by rw [eη2, eη1]; rfl
            rw [e10, q5, q1] at e11
            rw [e7] at eη1
            have eη2 : η2 = zup (zup η 60 7 (η 60 5)) 60 8 0 := by rw [eη2, eη1]; rfl
            have hc : η 60 5 < η 60 4 := by omega
            have hb : yp_bl (η 1 (Int.toNat (η 60 5))) = false := yb_n (by omega) (by omega)
            have e12 : x12 = η2 60 5 := e12
            rw [zd_a ⟨by omega, by omega⟩] at e13
            have eη3 : η3 = zup η2 60 5 x13 := eη3
            rw [e13, e12, q5, eη2] at eη3
            refine fun w => ?_
            obtain ⟨y, z⟩ : x14 = yp_snY x11 η3 ∧ η4 = yp_snS x11 η3 := k14.2
            rw [eη5, y, z, e11]
            exact adv_of hig b5.1 (Or.inr ⟨hc, hb⟩) (adv_s b5.1 hc (yl_n (by omega)) (yd_n (by omega)) eη3 ⟨by omega, by omega⟩)
          · refine zden_L (n := 1) (ρ := [0]) rfl ?_
            show ∀ x1 : Int, x1 = η 60 (Int.toNat 5) → zok 0 x1 → ∀ x2 : Int, x2 = η 60 (Int.toNat 4) → zok 0 x2 → (x1 < x2) → ∀ x3 : Int, x3 = η 60 (Int.toNat 5) → zok 0 x3 → ∀ x4 : Int, x4 = η 1 (Int.toNat x3) → zok 4 x4 → (¬ x4 = 10) → ∀ x5 : Int, x5 = η 60 (Int.toNat 5) → zok 0 x5 → ∀ x6 : Int, x6 = η 1 (Int.toNat x5) → zok 4 x6 → (¬ x6 = 32) → ∀ x7 : Int, x7 = η 60 (Int.toNat 5) → zok 0 x7 → ∀ η1 : zE, η1 = zup η 60 (Int.toNat 7) x7 → ∀ η2 : zE, η2 = zup η1 60 (Int.toNat 8) 0 → ∀ x8 : Int, x8 = η2 60 (Int.toNat 5) → zok 0 x8 → ∀ x9 : Int, x9 = η2 60 (Int.toNat 4) → zok 0 x9 → (x8 < x9) → ∀ x10 : Int, x10 = η2 60 (Int.toNat 5) → zok 0 x10 → ∀ x11 : Int, x11 = η2 1 (Int.toNat x10) → zok 4 x11 → (x11 < 97) → (48 ≤ x11) → (57 < x11) → ∀ x12 : Int, x12 = η2 60 (Int.toNat 5) → zok 0 x12 → ∀ x13 : Int, x13 = zd 0 1 x12 1 → ∀ η3 : zE, η3 = zup η2 60 (Int.toNat 5) x13 → ((gC2 wl_u [(nat_lit 0, zPu_nextWord, zOu_nextWord, zMu_nextWord), (nat_lit 1, zPu_nextNumber, zOu_nextNumber, zMu_nextNumber), (nat_lit 2, zPu_sign, zOu_sign, zMu_sign)] pCu_next qCu_next) 2).1 [x11] η3
            intro x1 e1 r1 x2 e2 r2 c1 x3 e3 r3 x4 e4 r4 c2 x5 e5 r5 x6 e6 r6 c3 x7 e7 r7 η1 eη1 η2 eη2 x8 e8 r8 x9 e9 r9 c4 x10 e10 r10 x11 e11 r11 c5 c6 c7 x12 e12 r12 x13 e13 η3 eη3
            exact trivial
          · refine zden_L (n := 1) (ρ := [0]) rfl ?_
            show ∀ x1 : Int, x1 = η 60 (Int.toNat 5) → zok 0 x1 → ∀ x2 : Int, x2 = η 60 (Int.toNat 4) → zok 0 x2 → (x1 < x2) → ∀ x3 : Int, x3 = η 60 (Int.toNat 5) → zok 0 x3 → ∀ x4 : Int, x4 = η 1 (Int.toNat x3) → zok 4 x4 → (¬ x4 = 10) → ∀ x5 : Int, x5 = η 60 (Int.toNat 5) → zok 0 x5 → ∀ x6 : Int, x6 = η 1 (Int.toNat x5) → zok 4 x6 → (¬ x6 = 32) → ∀ x7 : Int, x7 = η 60 (Int.toNat 5) → zok 0 x7 → ∀ η1 : zE, η1 = zup η 60 (Int.toNat 7) x7 → ∀ η2 : zE, η2 = zup η1 60 (Int.toNat 8) 0 → ∀ x8 : Int, x8 = η2 60 (Int.toNat 5) → zok 0 x8 → ∀ x9 : Int, x9 = η2 60 (Int.toNat 4) → zok 0 x9 → (x8 < x9) → ∀ x10 : Int, x10 = η2 60 (Int.toNat 5) → zok 0 x10 → ∀ x11 : Int, x11 = η2 1 (Int.toNat x10) → zok 4 x11 → (x11 < 97) → (48 ≤ x11) → (57 < x11) → ∀ x12 : Int, x12 = η2 60 (Int.toNat 5) → zok 0 x12 → ∀ x13 : Int, x13 = zd 0 1 x12 1 → ∀ η3 : zE, η3 = zup η2 60 (Int.toNat 5) x13 → ∀ (x14 : Int) (η4 : zE), ((gC2 wl_u [(nat_lit 0, zPu_nextWord, zOu_nextWord, zMu_nextWord), (nat_lit 1, zPu_nextNumber, zOu_nextNumber, zMu_nextNumber), (nat_lit 2, zPu_sign, zOu_sign, zMu_sign)] pCu_next qCu_next) 2).2 [x11] η3 x14 η4 → ∀ η5 : zE, η5 = zup η4 60 (Int.toNat 6) x14 → (fun (_ : Nat) (y : Int) (η' : zE) => pQu_next xs η0 y η') 0 0 η5
            intro x1 e1 r1 x2 e2 r2 c1 x3 e3 r3 x4 e4 r4 c2 x5 e5 r5 x6 e6 r6 c3 x7 e7 r7 η1 eη1 η2 eη2 x8 e8 r8 x9 e9 r9 c4 x10 e10 r10 x11 e11 r11 c5 c6 c7 x12 e12 r12 x13 e13 η3 eη3 x14 η4 h14 η5 eη5
            have k14 : sQ wl_u zTr zOu_sign zMu_sign [x11] η3 x14 η4 ∧ pQu_sign [x11] η3 x14 η4 := h14
            have b5 : (0 : Int) ≤ η 60 5 ∧ η 60 5 ≤ 700 := wf_ok (a := 5) (b := 5) (z := (0, 700)) hI.1.1 (by decide +kernel) (Nat.le_refl _) (Nat.le_refl _)
            have b4 : (0 : Int) ≤ η 60 4 ∧ η 60 4 ≤ 700 := wf_ok (a := 4) (b := 4) (z := (0, 700)) hI.1.1 (by decide +kernel) (Nat.le_refl _) (Nat.le_refl _)
            have e1 : x1 = η 60 5 := e1
            have e2 : x2 = η 60 4 := e2
            have e3 : x3 = η 60 5 := e3
            have e4 : x4 = η 1 (Int.toNat x3) := e4
            have e5 : x5 = η 60 5 := e5
            have e6 : x6 = η 1 (Int.toNat x5) := e6
            have e7 : x7 = η 60 5 := e7
            have e8 : x8 = η2 60 5 := e8
            have e9 : x9 = η2 60 4 := e9
            have e10 : x10 = η2 60 5 := e10
            have e11 : x11 = η2 1 (Int.toNat x10) := e11
            rw [e3] at e4
            rw [e5] at e6
            have q5 : η2 60 5 = η 60 5 := by rw [eη2, eη1]; rfl
            have q1 : η2 1 = η 1 := by rw [eη2, eη1]; rfl
            rw [e10, q5, q1] at e11
            rw [e7] at eη1
            have eη2 : η2 = zup (zup η 60 7 (η 60 5)) 60 8 0 := by rw [eη2, eη1]; rfl
            have hc : η 60 5 < η 60 4 := by omega
            have hb : yp_bl (η 1 (Int.toNat (η 60 5))) = false := yb_n (by omega) (by omega)
            have e12 : x12 = η2 60 5 := e12
            rw [zd_a ⟨by omega, by omega⟩] at e13
            have eη3 : η3 = zup η2 60 5 x13 := eη3
            rw [e13, e12, q5, eη2] at eη3
            refine fun w => ?_
            obtain ⟨y, z⟩ : x14 = yp_snY x11 η3 ∧ η4 = yp_snS x11 η3 := k14.2
            rw [eη5, y, z, e11]
            exact adv_of hig b5.1 (Or.inr ⟨hc, hb⟩) (adv_s b5.1 hc (yl_n (by omega)) (yd_n (by omega)) eη3 ⟨by omega, by omega⟩)
          · refine zden_L (n := 1) (ρ := [0]) rfl ?_
            show ∀ x1 : Int, x1 = η 60 (Int.toNat 5) → zok 0 x1 → ∀ x2 : Int, x2 = η 60 (Int.toNat 4) → zok 0 x2 → (x1 < x2) → ∀ x3 : Int, x3 = η 60 (Int.toNat 5) → zok 0 x3 → ∀ x4 : Int, x4 = η 1 (Int.toNat x3) → zok 4 x4 → (¬ x4 = 10) → ∀ x5 : Int, x5 = η 60 (Int.toNat 5) → zok 0 x5 → ∀ x6 : Int, x6 = η 1 (Int.toNat x5) → zok 4 x6 → (¬ x6 = 32) → ∀ x7 : Int, x7 = η 60 (Int.toNat 5) → zok 0 x7 → ∀ η1 : zE, η1 = zup η 60 (Int.toNat 7) x7 → ∀ η2 : zE, η2 = zup η1 60 (Int.toNat 8) 0 → ∀ x8 : Int, x8 = η2 60 (Int.toNat 5) → zok 0 x8 → ∀ x9 : Int, x9 = η2 60 (Int.toNat 4) → zok 0 x9 → (x8 < x9) → ∀ x10 : Int, x10 = η2 60 (Int.toNat 5) → zok 0 x10 → ∀ x11 : Int, x11 = η2 1 (Int.toNat x10) → zok 4 x11 → (x11 < 97) → (48 ≤ x11) → (x11 ≤ 57) → ((gC2 wl_u [(nat_lit 0, zPu_nextWord, zOu_nextWord, zMu_nextWord), (nat_lit 1, zPu_nextNumber, zOu_nextNumber, zMu_nextNumber), (nat_lit 2, zPu_sign, zOu_sign, zMu_sign)] pCu_next qCu_next) 1).1 [] η2
            intro x1 e1 r1 x2 e2 r2 c1 x3 e3 r3 x4 e4 r4 c2 x5 e5 r5 x6 e6 r6 c3 x7 e7 r7 η1 eη1 η2 eη2 x8 e8 r8 x9 e9 r9 c4 x10 e10 r10 x11 e11 r11 c5 c6 c7
            have b5 : (0 : Int) ≤ η 60 5 ∧ η 60 5 ≤ 700 := wf_ok (a := 5) (b := 5) (z := (0, 700)) hI.1.1 (by decide +kernel) (Nat.le_refl _) (Nat.le_refl _)
            have b4 : (0 : Int) ≤ η 60 4 ∧ η 60 4 ≤ 700 := wf_ok (a := 4) (b := 4) (z := (0, 700)) hI.1.1 (by decide +kernel) (Nat.le_refl _) (Nat.le_refl _)
            have e1 : x1 = η 60 5 := e1
            have e2 : x2 = η 60 4 := e2
            have e3 : x3 = η 60 5 := e3
            have e4 : x4 = η 1 (Int.toNat x3) := e4
            have e5 : x5 = η 60 5 := e5
            have e6 : x6 = η 1 (Int.toNat x5) := e6
            have e7 : x7 = η 60 5 := e7
            have e8 : x8 = η2 60 5 := e8
            have e9 : x9 = η2 60 4 := e9
            have e10 : x10 = η2 60 5 := e10
            have e11 : x11 = η2 1 (Int.toNat x10) := e11
            rw [e3] at e4
            rw [e5] at e6
            have q5 : η2 60 5 = η 60 5 := by rw [eη2, eη1]; rfl
            have q1 : η2 1 = η 1 := by rw [eη2, eη1]; rfl
            rw [e10, q5, q1] at e11
            rw [e7] at eη1
            have eη2 : η2 = zup (zup η 60 7 (η 60 5)) 60 8 0 := by rw [eη2, eη1]; rfl
            have hc : η 60 5 < η 60 4 := by omega
            have hb : yp_bl (η 1 (Int.toNat (η 60 5))) = false := yb_n (by omega) (by omega)
            show η2 60 5 ≤ η2 60 4
            omega
          · refine zden_L (n := 1) (ρ := [0]) rfl ?_
            show ∀ x1 : Int, x1 = η 60 (Int.toNat 5) → zok 0 x1 → ∀ x2 : Int, x2 = η 60 (Int.toNat 4) → zok 0 x2 → (x1 < x2) → ∀ x3 : Int, x3 = η 60 (Int.toNat 5) → zok 0 x3 → ∀ x4 : Int, x4 = η 1 (Int.toNat x3) → zok 4 x4 → (¬ x4 = 10) → ∀ x5 : Int, x5 = η 60 (Int.toNat 5) → zok 0 x5 → ∀ x6 : Int, x6 = η 1 (Int.toNat x5) → zok 4 x6 → (¬ x6 = 32) → ∀ x7 : Int, x7 = η 60 (Int.toNat 5) → zok 0 x7 → ∀ η1 : zE, η1 = zup η 60 (Int.toNat 7) x7 → ∀ η2 : zE, η2 = zup η1 60 (Int.toNat 8) 0 → ∀ x8 : Int, x8 = η2 60 (Int.toNat 5) → zok 0 x8 → ∀ x9 : Int, x9 = η2 60 (Int.toNat 4) → zok 0 x9 → (x8 < x9) → ∀ x10 : Int, x10 = η2 60 (Int.toNat 5) → zok 0 x10 → ∀ x11 : Int, x11 = η2 1 (Int.toNat x10) → zok 4 x11 → (x11 < 97) → (48 ≤ x11) → (x11 ≤ 57) → ∀ (x12 : Int) (η3 : zE), ((gC2 wl_u [(nat_lit 0, zPu_nextWord, zOu_nextWord, zMu_nextWord), (nat_lit 1, zPu_nextNumber, zOu_nextNumber, zMu_nextNumber), (nat_lit 2, zPu_sign, zOu_sign, zMu_sign)] pCu_next qCu_next) 1).2 [] η2 x12 η3 → (fun (_ : Nat) (y : Int) (η' : zE) => pQu_next xs η0 y η') 0 0 η3
            intro x1 e1 r1 x2 e2 r2 c1 x3 e3 r3 x4 e4 r4 c2 x5 e5 r5 x6 e6 r6 c3 x7 e7 r7 η1 eη1 η2 eη2 x8 e8 r8 x9 e9 r9 c4 x10 e10 r10 x11 e11 r11 c5 c6 c7 x12 η3 h12
            have k12 : sQ wl_u zTr zOu_nextNumber zMu_nextNumber [] η2 x12 η3 ∧ pQu_nextNumber [] η2 x12 η3 := h12
            have b5 : (0 : Int) ≤ η 60 5 ∧ η 60 5 ≤ 700 := wf_ok (a := 5) (b := 5) (z := (0, 700)) hI.1.1 (by decide +kernel) (Nat.le_refl _) (Nat.le_refl _)
            have b4 : (0 : Int) ≤ η 60 4 ∧ η 60 4 ≤ 700 := wf_ok (a := 4) (b := 4) (z := (0, 700)) hI.1.1 (by decide +kernel) (Nat.le_refl _) (Nat.le_refl _)
            have e1 : x1 = η 60 5 := e1
            have e2 : x2 = η 60 4 := e2
            have e3 : x3 = η 60 5 := e3
            have e4 : x4 = η 1 (Int.toNat x3) := e4
            have e5 : x5 = η 60 5 := e5
            have e6 : x6 = η 1 (Int.toNat x5) := e6
            have e7 : x7 = η 60 5 := e7
            have e8 : x8 = η2 60 5 := e8
            have e9 : x9 = η2 60 4 := e9
            have e10 : x10 = η2 60 5 := e10
            have e11 : x11 = η2 1 (Int.toNat x10) := e11
            rw [e3] at e4
            rw [e5] at e6
            have q5 : η2 60 5 = η 60 5 := by rw [eη2, eη1]; rfl
            have q1 : η2 1 = η 1 := by rw [eη2, eη1]; rfl
            rw [e10, q5, q1] at e11
            rw [e7] at eη1
            have eη2 : η2 = zup (zup η 60 7 (η 60 5)) 60 8 0 := by rw [eη2, eη1]; rfl
            have hc : η 60 5 < η 60 4 := by omega
            have hb : yp_bl (η 1 (Int.toNat (η 60 5))) = false := yb_n (by omega) (by omega)
            refine fun w => ?_
            have z : η3 = yp_nn η2 := k12.2
            rw [z, eη2]
            exact adv_of hig b5.1 (Or.inr ⟨hc, hb⟩) (adv_n b5.1 hc (by omega) (by omega))
          · refine zden_L (n := 1) (ρ := [0]) rfl ?_
            show ∀ x1 : Int, x1 = η 60 (Int.toNat 5) → zok 0 x1 → ∀ x2 : Int, x2 = η 60 (Int.toNat 4) → zok 0 x2 → (x1 < x2) → ∀ x3 : Int, x3 = η 60 (Int.toNat 5) → zok 0 x3 → ∀ x4 : Int, x4 = η 1 (Int.toNat x3) → zok 4 x4 → (¬ x4 = 10) → ∀ x5 : Int, x5 = η 60 (Int.toNat 5) → zok 0 x5 → ∀ x6 : Int, x6 = η 1 (Int.toNat x5) → zok 4 x6 → (¬ x6 = 32) → ∀ x7 : Int, x7 = η 60 (Int.toNat 5) → zok 0 x7 → ∀ η1 : zE, η1 = zup η 60 (Int.toNat 7) x7 → ∀ η2 : zE, η2 = zup η1 60 (Int.toNat 8) 0 → ∀ x8 : Int, x8 = η2 60 (Int.toNat 5) → zok 0 x8 → ∀ x9 : Int, x9 = η2 60 (Int.toNat 4) → zok 0 x9 → (x8 < x9) → ∀ x10 : Int, x10 = η2 60 (Int.toNat 5) → zok 0 x10 → ∀ x11 : Int, x11 = η2 1 (Int.toNat x10) → zok 4 x11 → (97 ≤ x11) → (122 < x11) → (48 ≤ x11) → (57 < x11) → ∀ x12 : Int, x12 = η2 60 (Int.toNat 5) → zok 0 x12 → ∀ x13 : Int, x13 = zd 0 1 x12 1 → ∀ η3 : zE, η3 = zup η2 60 (Int.toNat 5) x13 → ((gC2 wl_u [(nat_lit 0, zPu_nextWord, zOu_nextWord, zMu_nextWord), (nat_lit 1, zPu_nextNumber, zOu_nextNumber, zMu_nextNumber), (nat_lit 2, zPu_sign, zOu_sign, zMu_sign)] pCu_next qCu_next) 2).1 [x11] η3
            intro x1 e1 r1 x2 e2 r2 c1 x3 e3 r3 x4 e4 r4 c2 x5 e5 r5 x6 e6 r6 c3 x7 e7 r7 η1 eη1 η2 eη2 x8 e8 r8 x9 e9 r9 c4 x10 e10 r10 x11 e11 r11 c5 c6 c7 c8 x12 e12 r12 x13 e13 η3 eη3
            exact trivial
          · refine zden_L (n := 1) (ρ := [0]) rfl ?_
            show ∀ x1 : Int, x1 = η 60 (Int.toNat 5) → zok 0 x1 → ∀ x2 : Int, x2 = η 60 (Int.toNat 4) → zok 0 x2 → (x1 < x2) → ∀ x3 : Int, x3 = η 60 (Int.toNat 5) → zok 0 x3 → ∀ x4 : Int, x4 = η 1 (Int.toNat x3) → zok 4 x4 → (¬ x4 = 10) → ∀ x5 : Int, x5 = η 60 (Int.toNat 5) → zok 0 x5 → ∀ x6 : Int, x6 = η 1 (Int.toNat x5) → zok 4 x6 → (¬ x6 = 32) → ∀ x7 : Int, x7 = η 60 (Int.toNat 5) → zok 0 x7 → ∀ η1 : zE, η1 = zup η 60 (Int.toNat 7) x7 → ∀ η2 : zE, η2 = zup η1 60 (Int.toNat 8) 0 → ∀ x8 : Int, x8 = η2 60 (Int.toNat 5) → zok 0 x8 → ∀ x9 : Int, x9 = η2 60 (Int.toNat 4) → zok 0 x9 → (x8 < x9) → ∀ x10 : Int, x10 = η2 60 (Int.toNat 5) → zok 0 x10 → ∀ x11 : Int, x11 = η2 1 (Int.toNat x10) → zok 4 x11 → (97 ≤ x11) → (122 < x11) → (48 ≤ x11) → (57 < x11) → ∀ x12 : Int, x12 = η2 60 (Int.toNat 5) → zok 0 x12 → ∀ x13 : Int, x13 = zd 0 1 x12 1 → ∀ η3 : zE, η3 = zup η2 60 (Int.toNat 5) x13 → ∀ (x14 : Int) (η4 : zE), ((gC2 wl_u [(nat_lit 0, zPu_nextWord, zOu_nextWord, zMu_nextWord), (nat_lit 1, zPu_nextNumber, zOu_nextNumber, zMu_nextNumber), (nat_lit 2, zPu_sign, zOu_sign, zMu_sign)] pCu_next qCu_next) 2).2 [x11] η3 x14 η4 → ∀ η5 : zE, η5 = zup η4 60 (Int.toNat 6) x14 → (fun (_ : Nat) (y : Int) (η' : zE) => pQu_next xs η0 y η') 0 0 η5
            intro x1 e1 r1 x2 e2 r2 c1 x3 e3 r3 x4 e4 r4 c2 x5 e5 r5 x6 e6 r6 c3 x7 e7 r7 η1 eη1 η2 eη2 x8 e8 r8 x9 e9 r9 c4 x10 e10 r10 x11 e11 r11 c5 c6 c7 c8 x12 e12 r12 x13 e13 η3 eη3 x14 η4 h14 η5 eη5
            have k14 : sQ wl_u zTr zOu_sign zMu_sign [x11] η3 x14 η4 ∧ pQu_sign [x11] η3 x14 η4 := h14
            have b5 : (0 : Int) ≤ η 60 5 ∧ η 60 5 ≤ 700 := wf_ok (a := 5) (b := 5) (z := (0, 700)) hI.1.1 (by decide +kernel) (Nat.le_refl _) (Nat.le_refl _)
            have b4 : (0 : Int) ≤ η 60 4 ∧ η 60 4 ≤ 700 := wf_ok (a := 4) (b := 4) (z := (0, 700)) hI.1.1 (by decide +kernel) (Nat.le_refl _) (Nat.le_refl _)
            have e1 : x1 = η 60 5 := e1
            have e2 : x2 = η 60 4 := e2
            have e3 : x3 = η 60 5 := e3
            have e4 : x4 = η 1 (Int.toNat x3) := e4
            have e5 : x5 = η 60 5 := e5
            have e6 : x6 = η 1 (Int.toNat x5) := e6
            have e7 : x7 = η 60 5 := e7
            have e8 : x8 = η2 60 5 := e8
            have e9 : x9 = η2 60 4 := e9
            have e10 : x10 = η2 60 5 := e10
            have e11 : x11 = η2 1 (Int.toNat x10) := e11
            rw [e3] at e4
            rw [e5] at e6
            have q5 : η2 60 5 = η 60 5 := by rw [eη2, eη1]; rfl
            have q1 : η2 1 = η 1 := by rw [eη2, eη1]; rfl
            rw [e10, q5, q1] at e11
            rw [e7] at eη1
            have eη2 : η2 = zup (zup η 60 7 (η 60 5)) 60 8 0 := by rw [eη2, eη1]; rfl
            have hc : η 60 5 < η 60 4 := by omega
            have hb : yp_bl (η 1 (Int.toNat (η 60 5))) = false := yb_n (by omega) (by omega)
            have e12 : x12 = η2 60 5 := e12
            rw [zd_a ⟨by omega, by omega⟩] at e13
            have eη3 : η3 = zup η2 60 5 x13 := eη3
            rw [e13, e12, q5, eη2] at eη3
            refine fun w => ?_
            obtain ⟨y, z⟩ : x14 = yp_snY x11 η3 ∧ η4 = yp_snS x11 η3 := k14.2
            rw [eη5, y, z, e11]
            exact adv_of hig b5.1 (Or.inr ⟨hc, hb⟩) (adv_s b5.1 hc (yl_n (by omega)) (yd_n (by omega)) eη3 ⟨by omega, by omega⟩)
          · refine zden_L (n := 1) (ρ := [0]) rfl ?_
            show ∀ x1 : Int, x1 = η 60 (Int.toNat 5) → zok 0 x1 → ∀ x2 : Int, x2 = η 60 (Int.toNat 4) → zok 0 x2 → (x1 < x2) → ∀ x3 : Int, x3 = η 60 (Int.toNat 5) → zok 0 x3 → ∀ x4 : Int, x4 = η 1 (Int.toNat x3) → zok 4 x4 → (¬ x4 = 10) → ∀ x5 : Int, x5 = η 60 (Int.toNat 5) → zok 0 x5 → ∀ x6 : Int, x6 = η 1 (Int.toNat x5) → zok 4 x6 → (¬ x6 = 32) → ∀ x7 : Int, x7 = η 60 (Int.toNat 5) → zok 0 x7 → ∀ η1 : zE, η1 = zup η 60 (Int.toNat 7) x7 → ∀ η2 : zE, η2 = zup η1 60 (Int.toNat 8) 0 → ∀ x8 : Int, x8 = η2 60 (Int.toNat 5) → zok 0 x8 → ∀ x9 : Int, x9 = η2 60 (Int.toNat 4) → zok 0 x9 → (x8 < x9) → ∀ x10 : Int, x10 = η2 60 (Int.toNat 5) → zok 0 x10 → ∀ x11 : Int, x11 = η2 1 (Int.toNat x10) → zok 4 x11 → (97 ≤ x11) → (x11 ≤ 122) → ((gC2 wl_u [(nat_lit 0, zPu_nextWord, zOu_nextWord, zMu_nextWord), (nat_lit 1, zPu_nextNumber, zOu_nextNumber, zMu_nextNumber), (nat_lit 2, zPu_sign, zOu_sign, zMu_sign)] pCu_next qCu_next) 0).1 [] η2
            intro x1 e1 r1 x2 e2 r2 c1 x3 e3 r3 x4 e4 r4 c2 x5 e5 r5 x6 e6 r6 c3 x7 e7 r7 η1 eη1 η2 eη2 x8 e8 r8 x9 e9 r9 c4 x10 e10 r10 x11 e11 r11 c5 c6
            have b5 : (0 : Int) ≤ η 60 5 ∧ η 60 5 ≤ 700 := wf_ok (a := 5) (b := 5) (z := (0, 700)) hI.1.1 (by decide +kernel) (Nat.le_refl _) (Nat.le_refl _)
            have b4 : (0 : Int) ≤ η 60 4 ∧ η 60 4 ≤ 700 := wf_ok (a := 4) (b := 4) (z := (0, 700)) hI.1.1 (by decide +kernel) (Nat.le_refl _) (Nat.le_refl _)
            have e1 : x1 = η 60 5 := e1
            have e2 : x2 = η 60 4 := e2
            have e3 : x3 = η 60 5 := e3
            have e4 : x4 = η 1 (Int.toNat x3) := e4
            have e5 : x5 = η 60 5 := e5
            have e6 : x6 = η 1 (Int.toNat x5) := e6
            have e7 : x7 = η 60 5 := e7
            have e8 : x8 = η2 60 5 := e8
            have e9 : x9 = η2 60 4 := e9
            have e10 : x10 = η2 60 5 := e10
            have e11 : x11 = η2 1 (Int.toNat x10) := e11
            rw [e3] at e4
            rw [e5] at e6
            have q5 : η2 60 5 = η 60 5 := by rw [eη2, eη1]; rfl
            have q1 : η2 1 = η 1 := by rw [eη2, eη1]; rfl
            rw [e10, q5, q1] at e11
            rw [e7] at eη1
            have eη2 : η2 = zup (zup η 60 7 (η 60 5)) 60 8 0 := by rw [eη2, eη1]; rfl
            have hc : η 60 5 < η 60 4 := by omega
            have hb : yp_bl (η 1 (Int.toNat (η 60 5))) = false := yb_n (by omega) (by omega)
            refine ⟨show η2 60 5 ≤ η2 60 4 by omega, ?_, ?_⟩
            · show η2 60 7 = η2 60 5
              rw [q5, eη2]
              rfl
            · show η2 60 8 = 0
              rw [eη2]
              rfl
          · refine zden_L (n := 1) (ρ := [0]) rfl ?_
            show ∀ x1 : Int, x1 = η 60 (Int.toNat 5) → zok 0 x1 → ∀ x2 : Int, x2 = η 60 (Int.toNat 4) → zok 0 x2 → (x1 < x2) → ∀ x3 : Int, x3 = η 60 (Int.toNat 5) → zok 0 x3 → ∀ x4 : Int, x4 = η 1 (Int.toNat x3) → zok 4 x4 → (¬ x4 = 10) → ∀ x5 : Int, x5 = η 60 (Int.toNat 5) → zok 0 x5 → ∀ x6 : Int, x6 = η 1 (Int.toNat x5) → zok 4 x6 → (¬ x6 = 32) → ∀ x7 : Int, x7 = η 60 (Int.toNat 5) → zok 0 x7 → ∀ η1 : zE, η1 = zup η 60 (Int.toNat 7) x7 → ∀ η2 : zE, η2 = zup η1 60 (Int.toNat 8) 0 → ∀ x8 : Int, x8 = η2 60 (Int.toNat 5) → zok 0 x8 → ∀ x9 : Int, x9 = η2 60 (Int.toNat 4) → zok 0 x9 → (x8 < x9) → ∀ x10 : Int, x10 = η2 60 (Int.toNat 5) → zok 0 x10 → ∀ x11 : Int, x11 = η2 1 (Int.toNat x10) → zok 4 x11 → (97 ≤ x11) → (x11 ≤ 122) → ∀ (x12 : Int) (η3 : zE), ((gC2 wl_u [(nat_lit 0, zPu_nextWord, zOu_nextWord, zMu_nextWord), (nat_lit 1, zPu_nextNumber, zOu_nextNumber, zMu_nextNumber), (nat_lit 2, zPu_sign, zOu_sign, zMu_sign)] pCu_next qCu_next) 0).2 [] η2 x12 η3 → (fun (_ : Nat) (y : Int) (η' : zE) => pQu_next xs η0 y η') 0 0 η3
            intro x1 e1 r1 x2 e2 r2 c1 x3 e3 r3 x4 e4 r4 c2 x5 e5 r5 x6 e6 r6 c3 x7 e7 r7 η1 eη1 η2 eη2 x8 e8 r8 x9 e9 r9 c4 x10 e10 r10 x11 e11 r11 c5 c6 x12 η3 h12
            have k12 : sQ wl_u zTr zOu_nextWord zMu_nextWord [] η2 x12 η3 ∧ pQu_nextWord [] η2 x12 η3 := h12
            have b5 : (0 : Int) ≤ η 60 5 ∧ η 60 5 ≤ 700 := wf_ok (a := 5) (b := 5) (z := (0, 700)) hI.1.1 (by decide +kernel) (Nat.le_refl _) (Nat.le_refl _)
            have b4 : (0 : Int) ≤ η 60 4 ∧ η 60 4 ≤ 700 := wf_ok (a := 4) (b := 4) (z := (0, 700)) hI.1.1 (by decide +kernel) (Nat.le_refl _) (Nat.le_refl _)
            have e1 : x1 = η 60 5 := e1
            have e2 : x2 = η 60 4 := e2
            have e3 : x3 = η 60 5 := e3
            have e4 : x4 = η 1 (Int.toNat x3) := e4
            have e5 : x5 = η 60 5 := e5
            have e6 : x6 = η 1 (Int.toNat x5) := e6
            have e7 : x7 = η 60 5 := e7
            have e8 : x8 = η2 60 5 := e8
            have e9 : x9 = η2 60 4 := e9
            have e10 : x10 = η2 60 5 := e10
            have e11 : x11 = η2 1 (Int.toNat x10) := e11
            rw [e3] at e4
            rw [e5] at e6
            have q5 : η2 60 5 = η 60 5 := by rw [eη2, eη1]; rfl
            have q1 : η2 1 = η 1 := by rw [eη2, eη1]; rfl
            rw [e10, q5, q1] at e11
            rw [e7] at eη1
            have eη2 : η2 = zup (zup η 60 7 (η 60 5)) 60 8 0 := by rw [eη2, eη1]; rfl
            have hc : η 60 5 < η 60 4 := by omega
            have hb : yp_bl (η 1 (Int.toNat (η 60 5))) = false := yb_n (by omega) (by omega)
            refine fun w => ?_
            have w2 : yp_wk η2 := by
              rw [eη2]
              obtain ⟨a, a1, _⟩ := hig
              rw [a1]
              exact w
            have z : η3 = yp_nw η2 := k12.2 w2
            rw [z, eη2]
            exact adv_of hig b5.1 (Or.inr ⟨hc, hb⟩) (adv_w b5.1 hc (by omega) (by omega))
          · refine zden_L (n := 1) (ρ := [0]) rfl ?_
            show ∀ x1 : Int, x1 = η 60 (Int.toNat 5) → zok 0 x1 → ∀ x2 : Int, x2 = η 60 (Int.toNat 4) → zok 0 x2 → (x1 < x2) → ∀ x3 : Int, x3 = η 60 (Int.toNat 5) → zok 0 x3 → ∀ x4 : Int, x4 = η 1 (Int.toNat x3) → zok 4 x4 → (¬ x4 = 10) → ∀ x5 : Int, x5 = η 60 (Int.toNat 5) → zok 0 x5 → ∀ x6 : Int, x6 = η 1 (Int.toNat x5) → zok 4 x6 → (x6 = 32) → ∀ x7 : Int, x7 = η 60 (Int.toNat 5) → zok 0 x7 → ∀ x8 : Int, x8 = zd 0 1 x7 1 → ∀ η1 : zE, η1 = zup η 60 (Int.toNat 5) x8 → (iCu_next xs η0) 0 [] η1 ∧ (fun (_ : Nat) (_ : List Int) (_ : zE) => (0 : Nat)) 0 [] η1 < 1
            intro x1 e1 r1 x2 e2 r2 c1 x3 e3 r3 x4 e4 r4 c2 x5 e5 r5 x6 e6 r6 c3 x7 e7 r7 x8 e8 η1 eη1
            have b5 : (0 : Int) ≤ η 60 5 ∧ η 60 5 ≤ 700 := wf_ok (a := 5) (b := 5) (z := (0, 700)) hI.1.1 (by decide +kernel) (Nat.le_refl _) (Nat.le_refl _)
            have b4 : (0 : Int) ≤ η 60 4 ∧ η 60 4 ≤ 700 := wf_ok (a := 4) (b := 4) (z := (0, 700)) hI.1.1 (by decide +kernel) (Nat.le_refl _) (Nat.le_refl _)
            have e1 : x1 = η 60 5 := e1
            have e2 : x2 = η 60 4 := e2
            have e3 : x3 = η 60 5 := e3
            have e4 : x4 = η 1 (Int.toNat x3) := e4
            have e5 : x5 = η 60 5 := e5
            have e6 : x6 = η 1 (Int.toNat x5) := e6
            have e7 : x7 = η 60 5 := e7
            rw [e5] at e6
            rw [zd_a ⟨by omega, by omega⟩] at e8
            exact ⟨by rw [eη1, e8, e7]; exact yzI_s hig b5.1 (by omega) (yb_10 (Or.inr (by omega))), Nat.zero_lt_one⟩
        · exact fun _ h => nomatch h
      )⟩, (fun _ h => nomatch h)⟩))
