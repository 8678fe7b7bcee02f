def tm_gf : zTm := tm_c
def wl_gf : wL := wl_c
def zPgf_fault : zPq := ([((.negSucc (nat_lit 2147483647)), (.ofNat (nat_lit 2147483647)))], [])
def zOgf_fault : zPo := (((.negSucc (nat_lit 2147483647)), (.ofNat (nat_lit 2147483647))), [], [])
def zMgf_fault : List zCe := []
def pPgf_fault : List Int → zE → Prop := fun _ _ => True
def oQgf_fault : List Int → zE → Int → zE → Prop := fun _ _ _ _ => True
def fQgf_fault : List Int → zE → Int → zE → Prop := fun xs η y η' => y = (if (xs.getD 0 0) = 0 then η 0 2 else if (xs.getD 0 0) = 1 then η 0 3 else -1) ∧ η' = η
def pQgf_fault : List Int → zE → Int → zE → Prop := fun xs η y η' => oQgf_fault xs η y η' ∧ fQgf_fault xs η y η'
def pCgf_fault : Nat → List Int → zE → Prop := fun c => match c with
  | _ => fun _ _ => True
def qCgf_fault : Nat → List Int → zE → Int → zE → Prop := fun c => match c with
  | _ => fun _ _ _ _ => True
def iCgf_fault : List Int → zE → Nat → List Int → zE → Prop := fun xs η0 c => match c with
  | _ => fun _ _ => True
def zVgf_fault : List zIv := []
def zDgf_fault : List (List zK) := []
def zEgf_fault : List (List zK) := [[(nat_lit 11, nat_lit 0, [(nat_lit 0, (.negSucc (nat_lit 0)))]), (nat_lit 6, nat_lit 1, [(nat_lit 1, (.ofNat (nat_lit 0))), (nat_lit 0, (.ofNat (nat_lit 1)))]), (nat_lit 6, nat_lit 1, [(nat_lit 1, (.ofNat (nat_lit 0))), (nat_lit 0, (.ofNat (nat_lit 0)))])],
  [(nat_lit 11, nat_lit 0, [(nat_lit 2, (.ofNat (nat_lit 0)))]), (nat_lit 4, nat_lit 0, [(nat_lit 0, (.ofNat (nat_lit 0))), (nat_lit 0, (.ofNat (nat_lit 3)))]), (nat_lit 6, nat_lit 0, [(nat_lit 1, (.ofNat (nat_lit 0))), (nat_lit 0, (.ofNat (nat_lit 1)))]), (nat_lit 6, nat_lit 1, [(nat_lit 1, (.ofNat (nat_lit 0))), (nat_lit 0, (.ofNat (nat_lit 0)))])],
  [(nat_lit 11, nat_lit 0, [(nat_lit 2, (.ofNat (nat_lit 0)))]), (nat_lit 4, nat_lit 0, [(nat_lit 0, (.ofNat (nat_lit 0))), (nat_lit 0, (.ofNat (nat_lit 2)))]), (nat_lit 6, nat_lit 0, [(nat_lit 1, (.ofNat (nat_lit 0))), (nat_lit 0, (.ofNat (nat_lit 0)))])]]
def zFgf_fault : List (List zK) := []
set_option maxHeartbeats 8000000 in
theorem zgf_fault {ro : Nat → List Int32} : zMet pr_P pr_K pr_df ro (sm_X0 1 6) 0 67 tm_gf [(.inr (.inr (.inl (nat_lit 0)))), (.inl (nat_lit 1, (.ofNat (nat_lit 0))))] 1 [(nat_lit 0, nat_lit 0, nat_lit 1), (nat_lit 0, nat_lit 4, nat_lit 2), (nat_lit 0, nat_lit 5, nat_lit 32), (nat_lit 0, nat_lit 6, nat_lit 60), (nat_lit 0, nat_lit 7, nat_lit 70), (nat_lit 0, nat_lit 8, nat_lit 74), (nat_lit 0, nat_lit 11, nat_lit 78), (nat_lit 0, nat_lit 12, nat_lit 82), (nat_lit 0, nat_lit 13, nat_lit 90), (nat_lit 0, nat_lit 14, nat_lit 91), (nat_lit 0, nat_lit 15, nat_lit 95), (nat_lit 0, nat_lit 16, nat_lit 101), (nat_lit 2, nat_lit 8, nat_lit 3), (nat_lit 2, nat_lit 9, nat_lit 4), (nat_lit 2, nat_lit 10, nat_lit 5), (nat_lit 2, nat_lit 11, nat_lit 6), (nat_lit 2, nat_lit 12, nat_lit 11), (nat_lit 2, nat_lit 13, nat_lit 16), (nat_lit 2, nat_lit 14, nat_lit 17), (nat_lit 6, nat_lit 0, nat_lit 7), (nat_lit 11, nat_lit 0, nat_lit 12), (nat_lit 6, nat_lit 1, nat_lit 8), (nat_lit 11, nat_lit 1, nat_lit 13), (nat_lit 6, nat_lit 2, nat_lit 9), (nat_lit 11, nat_lit 2, nat_lit 14), (nat_lit 6, nat_lit 3, nat_lit 10), (nat_lit 11, nat_lit 3, nat_lit 15), (nat_lit 17, nat_lit 2, nat_lit 18), (nat_lit 17, nat_lit 3, nat_lit 19), (nat_lit 17, nat_lit 4, nat_lit 20), (nat_lit 17, nat_lit 5, nat_lit 21), (nat_lit 17, nat_lit 6, nat_lit 22), (nat_lit 32, nat_lit 8, nat_lit 33), (nat_lit 32, nat_lit 9, nat_lit 34), (nat_lit 32, nat_lit 10, nat_lit 35), (nat_lit 32, nat_lit 11, nat_lit 36), (nat_lit 32, nat_lit 12, nat_lit 41), (nat_lit 32, nat_lit 13, nat_lit 46), (nat_lit 32, nat_lit 14, nat_lit 47), (nat_lit 36, nat_lit 0, nat_lit 37), (nat_lit 41, nat_lit 0, nat_lit 42), (nat_lit 36, nat_lit 1, nat_lit 38), (nat_lit 41, nat_lit 1, nat_lit 43), (nat_lit 36, nat_lit 2, nat_lit 39), (nat_lit 41, nat_lit 2, nat_lit 44), (nat_lit 36, nat_lit 3, nat_lit 40), (nat_lit 41, nat_lit 3, nat_lit 45), (nat_lit 47, nat_lit 2, nat_lit 48), (nat_lit 47, nat_lit 3, nat_lit 49), (nat_lit 47, nat_lit 4, nat_lit 50), (nat_lit 47, nat_lit 5, nat_lit 51), (nat_lit 47, nat_lit 6, nat_lit 52), (nat_lit 60, nat_lit 3, nat_lit 1), (nat_lit 60, nat_lit 9, nat_lit 61), (nat_lit 60, nat_lit 10, nat_lit 62), (nat_lit 60, nat_lit 11, nat_lit 63), (nat_lit 70, nat_lit 8, nat_lit 71), (nat_lit 70, nat_lit 9, nat_lit 72), (nat_lit 70, nat_lit 10, nat_lit 73), (nat_lit 74, nat_lit 8, nat_lit 75), (nat_lit 74, nat_lit 9, nat_lit 76), (nat_lit 74, nat_lit 10, nat_lit 77), (nat_lit 78, nat_lit 8, nat_lit 79), (nat_lit 78, nat_lit 9, nat_lit 80), (nat_lit 78, nat_lit 10, nat_lit 81), (nat_lit 82, nat_lit 8, nat_lit 83), (nat_lit 82, nat_lit 9, nat_lit 84), (nat_lit 82, nat_lit 10, nat_lit 85), (nat_lit 91, nat_lit 1, nat_lit 92), (nat_lit 91, nat_lit 2, nat_lit 93), (nat_lit 91, nat_lit 3, nat_lit 94), (nat_lit 95, nat_lit 2, nat_lit 96), (nat_lit 95, nat_lit 3, nat_lit 97), (nat_lit 95, nat_lit 4, nat_lit 98), (nat_lit 95, nat_lit 5, nat_lit 99), (nat_lit 95, nat_lit 6, nat_lit 100)] [] (fun xs η => sP wl_gf zTr zPgf_fault xs η ∧ pPgf_fault xs η) (fun xs η y η' => sQ wl_gf zTr zOgf_fault zMgf_fault xs η y η' ∧ pQgf_fault xs η y η') :=
  zmet_alt (zmea_gen (mi := (nat_lit 1, nat_lit 1, nat_lit 7, nat_lit 2, nat_lit 1, tX7_fault)) (cd := []) (cu := []) (cs := []) (iv := zVgf_fault) (po := [zOgf_fault]) (pr := zPgf_fault) (mods := zMgf_fault) (D7 := zDgf_fault) (D0 := zEgf_fault) (Dm := zFgf_fault) (f0 := 13) pCgf_fault qCgf_fault iCgf_fault pPgf_fault (fun xs η _ y η' => pQgf_fault xs η y η') zX_low pr_mtR rfl (fun _ h => nomatch h) (by decide +kernel) (by decide +kernel) (by decide +kernel)
    (by
      intro xs η hr hl hp hpp
      match xs, hl, hp, hpp with
      | [x1], _, hp, hpp =>
        refine List.forall_mem_cons.mpr ⟨?_, List.forall_mem_cons.mpr ⟨?_, List.forall_mem_cons.mpr ⟨?_, fun _ h => nomatch h⟩⟩⟩
        · refine zden_L (n := 2) (ρ := [x1, 0]) rfl ?_
          show (¬ x1 = 0) → (¬ x1 = 1) → (fun (_ : Nat) (y : Int) (η' : zE) => pQgf_fault [x1] η y η') 0 (-1) η
          intro c1 c2
          refine yj_a ?_ ?_
          · exact trivial
          · show (-1) = (if x1 = 0 then η 0 2 else if x1 = 1 then η 0 3 else -1) ∧ η = η
            refine ⟨?_, rfl⟩
            (repeat' split) <;> first | (exfalso; omega) | rfl
        · refine zden_L (n := 2) (ρ := [x1, 0]) rfl ?_
          show (¬ x1 = 0) → (x1 = 1) → ∀ x2 : Int, x2 = η 0 (Int.toNat 3) → zok 0 x2 → (fun (_ : Nat) (y : Int) (η' : zE) => pQgf_fault [x1] η y η') 0 x2 η
          intro c1 c2 x2 e2 r2
          refine yj_a ?_ ?_
          · exact trivial
          · have e2 : x2 = η 0 3 := e2
            clear r2
            show x2 = (if x1 = 0 then η 0 2 else if x1 = 1 then η 0 3 else -1) ∧ η = η
            subst e2
            refine ⟨?_, rfl⟩
            (repeat' split) <;> first | (exfalso; omega) | rfl
        · refine zden_L (n := 2) (ρ := [x1, 0]) rfl ?_
          show (x1 = 0) → ∀ x2 : Int, x2 = η 0 (Int.toNat 2) → zok 0 x2 → (fun (_ : Nat) (y : Int) (η' : zE) => pQgf_fault [x1] η y η') 0 x2 η
          intro c1 x2 e2 r2
          refine yj_a ?_ ?_
          · exact trivial
          · have e2 : x2 = η 0 2 := e2
            clear r2
            show x2 = (if x1 = 0 then η 0 2 else if x1 = 1 then η 0 3 else -1) ∧ η = η
            subst e2
            refine ⟨?_, rfl⟩
            (repeat' split) <;> first | (exfalso; omega) | rfl
      )
    (fun _ _ _ _ _ _ _ h => nomatch h)
    (fun _ h => nomatch h))
