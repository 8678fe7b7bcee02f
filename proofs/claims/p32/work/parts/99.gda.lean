def tm_hf : zTm := tm_k
def wl_hf : wL := wl_k
def zPhf_fault : zPq := ([((.negSucc (nat_lit 2147483647)), (.ofNat (nat_lit 2147483647)))], [])
def zOhf_fault : zPo := (((.negSucc (nat_lit 2147483647)), (.ofNat (nat_lit 2147483647))), [], [])
def zMhf_fault : List zCe := [(nat_lit 0, nat_lit 3)]
def pPhf_fault : List Int → zE → Prop := fun _ _ => True
def oQhf_fault : List Int → zE → Int → zE → Prop := fun _ _ _ _ => True
def fQhf_fault : List Int → zE → Int → zE → Prop := fun xs η y η' => y = (if (xs.getD 0 0) = 0 then η 0 4 else if (xs.getD 0 0) = 1 then η 0 5 else -1) ∧ η' = zup η 0 2 0
def pQhf_fault : List Int → zE → Int → zE → Prop := fun xs η y η' => oQhf_fault xs η y η' ∧ fQhf_fault xs η y η'
def pChf_fault : Nat → List Int → zE → Prop := fun c => match c with
  | _ => fun _ _ => True
def qChf_fault : Nat → List Int → zE → Int → zE → Prop := fun c => match c with
  | _ => fun _ _ _ _ => True
def iChf_fault : List Int → zE → Nat → List Int → zE → Prop := fun xs η0 c => match c with
  | _ => fun _ _ => True
def zVhf_fault : List zIv := []
def zDhf_fault : List (List zK) := []
def zEhf_fault : List (List zK) := [[(nat_lit 11, nat_lit 0, [(nat_lit 0, (.negSucc (nat_lit 0)))]), (nat_lit 6, nat_lit 1, [(nat_lit 1, (.ofNat (nat_lit 0))), (nat_lit 0, (.ofNat (nat_lit 1)))]), (nat_lit 6, nat_lit 1, [(nat_lit 1, (.ofNat (nat_lit 0))), (nat_lit 0, (.ofNat (nat_lit 0)))]), (nat_lit 5, nat_lit 0, [(nat_lit 0, (.ofNat (nat_lit 0))), (nat_lit 0, (.ofNat (nat_lit 2))), (nat_lit 0, (.ofNat (nat_lit 0)))])],
  [(nat_lit 11, nat_lit 0, [(nat_lit 2, (.ofNat (nat_lit 0)))]), (nat_lit 4, nat_lit 0, [(nat_lit 0, (.ofNat (nat_lit 0))), (nat_lit 0, (.ofNat (nat_lit 5)))]), (nat_lit 6, nat_lit 0, [(nat_lit 1, (.ofNat (nat_lit 0))), (nat_lit 0, (.ofNat (nat_lit 1)))]), (nat_lit 6, nat_lit 1, [(nat_lit 1, (.ofNat (nat_lit 0))), (nat_lit 0, (.ofNat (nat_lit 0)))]), (nat_lit 5, nat_lit 0, [(nat_lit 0, (.ofNat (nat_lit 0))), (nat_lit 0, (.ofNat (nat_lit 2))), (nat_lit 0, (.ofNat (nat_lit 0)))])],
  [(nat_lit 11, nat_lit 0, [(nat_lit 2, (.ofNat (nat_lit 0)))]), (nat_lit 4, nat_lit 0, [(nat_lit 0, (.ofNat (nat_lit 0))), (nat_lit 0, (.ofNat (nat_lit 4)))]), (nat_lit 6, nat_lit 0, [(nat_lit 1, (.ofNat (nat_lit 0))), (nat_lit 0, (.ofNat (nat_lit 0)))]), (nat_lit 5, nat_lit 0, [(nat_lit 0, (.ofNat (nat_lit 0))), (nat_lit 0, (.ofNat (nat_lit 2))), (nat_lit 0, (.ofNat (nat_lit 0)))])]]
def zFhf_fault : List (List zK) := []
set_option maxHeartbeats 8000000 in
theorem zhf_fault {ro : Nat → List Int32} : zMet pr_P pr_K pr_df ro (sm_X0 1 6) 0 138 tm_hf [(.inr (.inr (.inl (nat_lit 0)))), (.inl (nat_lit 1, (.ofNat (nat_lit 0))))] 1 [(nat_lit 0, nat_lit 0, nat_lit 1), (nat_lit 0, nat_lit 3, nat_lit 2), (nat_lit 0, nat_lit 20, nat_lit 3), (nat_lit 0, nat_lit 21, nat_lit 4), (nat_lit 0, nat_lit 22, nat_lit 5), (nat_lit 0, nat_lit 23, nat_lit 6), (nat_lit 0, nat_lit 24, nat_lit 7), (nat_lit 0, nat_lit 25, nat_lit 8), (nat_lit 0, nat_lit 26, nat_lit 9), (nat_lit 0, nat_lit 27, nat_lit 10), (nat_lit 0, nat_lit 28, nat_lit 11), (nat_lit 0, nat_lit 29, nat_lit 12), (nat_lit 0, nat_lit 30, nat_lit 13), (nat_lit 0, nat_lit 31, nat_lit 14), (nat_lit 0, nat_lit 32, nat_lit 15), (nat_lit 0, nat_lit 33, nat_lit 16), (nat_lit 0, nat_lit 34, nat_lit 17), (nat_lit 0, nat_lit 35, nat_lit 18), (nat_lit 0, nat_lit 36, nat_lit 19), (nat_lit 0, nat_lit 37, nat_lit 20), (nat_lit 0, nat_lit 38, nat_lit 21), (nat_lit 0, nat_lit 39, nat_lit 22), (nat_lit 0, nat_lit 40, nat_lit 23), (nat_lit 0, nat_lit 47, nat_lit 24), (nat_lit 0, nat_lit 48, nat_lit 25), (nat_lit 0, nat_lit 50, nat_lit 26), (nat_lit 0, nat_lit 51, nat_lit 27), (nat_lit 0, nat_lit 52, nat_lit 28), (nat_lit 0, nat_lit 53, nat_lit 29), (nat_lit 0, nat_lit 54, nat_lit 30), (nat_lit 0, nat_lit 55, nat_lit 31), (nat_lit 0, nat_lit 56, nat_lit 32), (nat_lit 0, nat_lit 57, nat_lit 33), (nat_lit 0, nat_lit 58, nat_lit 34), (nat_lit 0, nat_lit 59, nat_lit 35), (nat_lit 0, nat_lit 72, nat_lit 36), (nat_lit 0, nat_lit 73, nat_lit 37), (nat_lit 0, nat_lit 76, nat_lit 38), (nat_lit 0, nat_lit 77, nat_lit 39), (nat_lit 0, nat_lit 79, nat_lit 40), (nat_lit 0, nat_lit 81, nat_lit 41), (nat_lit 0, nat_lit 82, nat_lit 42)] [] (fun xs η => sP wl_hf zTr zPhf_fault xs η ∧ pPhf_fault xs η) (fun xs η y η' => sQ wl_hf zTr zOhf_fault zMhf_fault xs η y η' ∧ pQhf_fault xs η y η') :=
  zmet_alt (zmea_gen (mi := (nat_lit 1, nat_lit 1, nat_lit 8, nat_lit 2, nat_lit 1, tX8_fault)) (cd := []) (cu := []) (cs := []) (iv := zVhf_fault) (po := [zOhf_fault]) (pr := zPhf_fault) (mods := zMhf_fault) (D7 := zDhf_fault) (D0 := zEhf_fault) (Dm := zFhf_fault) (f0 := 16) pChf_fault qChf_fault iChf_fault pPhf_fault (fun xs η _ y η' => pQhf_fault xs η y η') zX_low pr_mtR rfl (fun _ h => nomatch h) (by decide +kernel) (by decide +kernel) (by decide +kernel)
    (by
      intro xs η hr hl hp hpp
      match xs, hl, hp, hpp with
      | [x1], _, hp, hpp =>
        refine List.forall_mem_cons.mpr ⟨?_, List.forall_mem_cons.mpr ⟨?_, List.forall_mem_cons.mpr ⟨?_, fun _ h => nomatch h⟩⟩⟩
        · refine zden_L (n := 2) (ρ := [x1, 0]) rfl ?_
          show ∀ η1 : zE, η1 = zup η 0 (Int.toNat 2) 0 → (¬ x1 = 0) → (¬ x1 = 1) → (fun (_ : Nat) (y : Int) (η' : zE) => pQhf_fault [x1] η y η') 0 (-1) η1
          intro η1 eη1 c1 c2
          refine yj_a ?_ ?_
          · exact trivial
          · have eη1 : η1 = zup η 0 2 0 := eη1
            show (-1) = (if x1 = 0 then η 0 4 else if x1 = 1 then η 0 5 else -1) ∧ η1 = zup η 0 2 0
            subst eη1
            refine ⟨?_, rfl⟩
            (repeat' split) <;> first | (exfalso; omega) | rfl
        · refine zden_L (n := 2) (ρ := [x1, 0]) rfl ?_
          show ∀ η1 : zE, η1 = zup η 0 (Int.toNat 2) 0 → (¬ x1 = 0) → (x1 = 1) → ∀ x2 : Int, x2 = η1 0 (Int.toNat 5) → zok 0 x2 → (fun (_ : Nat) (y : Int) (η' : zE) => pQhf_fault [x1] η y η') 0 x2 η1
          intro η1 eη1 c1 c2 x2 e2 r2
          refine yj_a ?_ ?_
          · exact trivial
          · have eη1 : η1 = zup η 0 2 0 := eη1
            have e2 : x2 = η1 0 5 := e2
            clear r2
            show x2 = (if x1 = 0 then η 0 4 else if x1 = 1 then η 0 5 else -1) ∧ η1 = zup η 0 2 0
            subst eη1
            subst e2
            refine ⟨?_, rfl⟩
            (repeat' split) <;> first | (exfalso; omega) | rfl
        · refine zden_L (n := 2) (ρ := [x1, 0]) rfl ?_
          show ∀ η1 : zE, η1 = zup η 0 (Int.toNat 2) 0 → (x1 = 0) → ∀ x2 : Int, x2 = η1 0 (Int.toNat 4) → zok 0 x2 → (fun (_ : Nat) (y : Int) (η' : zE) => pQhf_fault [x1] η y η') 0 x2 η1
          intro η1 eη1 c1 x2 e2 r2
          refine yj_a ?_ ?_
          · exact trivial
          · have eη1 : η1 = zup η 0 2 0 := eη1
            have e2 : x2 = η1 0 4 := e2
            clear r2
            show x2 = (if x1 = 0 then η 0 4 else if x1 = 1 then η 0 5 else -1) ∧ η1 = zup η 0 2 0
            subst eη1
            subst e2
            refine ⟨?_, rfl⟩
            (repeat' split) <;> first | (exfalso; omega) | rfl
      )
    (fun _ _ _ _ _ _ _ h => nomatch h)
    (fun _ h => nomatch h))
