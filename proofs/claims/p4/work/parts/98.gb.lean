def zPn_copies_7 : zPq := ([], [])
def zOn_copies_7 : zPo := (((.ofNat (nat_lit 0)), (.ofNat (nat_lit 0))), [], [])
def zMn_copies_7 : List zCe := [(nat_lit 7, nat_lit 0)]
def pPn_copies_7 : List Int → zE → Prop := fun _ _ => True
def pQn_copies_7 : List Int → zE → Int → zE → Prop := fun _ _ _ _ => True
def pCn_copies_7 : Nat → List Int → zE → Prop := fun c => match c with
  | _ => fun _ _ => True
def qCn_copies_7 : Nat → List Int → zE → Int → zE → Prop := fun c => match c with
  | _ => fun _ _ _ _ => True
def iCn_copies_7 : List Int → zE → Nat → List Int → zE → Prop := fun xs η0 c => match c with
  | 0 => fun ys η => True
  | _ => fun _ _ => True
def zVn_copies_7 : List zIv := [(nat_lit 0, ([((.ofNat (nat_lit 4)), (.ofNat (nat_lit 4))), ((.ofNat (nat_lit 0)), (.ofNat (nat_lit 4)))], []), ((.ofNat (nat_lit 4)), [((.negSucc (nat_lit 0)), nat_lit 0, nat_lit 1, nat_lit 0)]))]
def zUn_copies_7 : List zCu := [(nat_lit 2, nat_lit 0, [(nat_lit 0, (.inr (.inr (.inl (nat_lit 7))))), (nat_lit 1, (.inl (nat_lit 1, (.ofNat (nat_lit 0))))), (nat_lit 2, (.inl (nat_lit 2, (.ofNat (nat_lit 0)))))], [])]
def zDn_copies_7 : List (List zK) := []
def zEn_copies_7 : List (List zK) := [[(nat_lit 12, nat_lit 0, [(nat_lit 0, (.ofNat (nat_lit 4))), (nat_lit 0, (.ofNat (nat_lit 0)))])]]
def zFn_copies_7 : List (List zK) := []
def zDn_copies_7_0 : List (List zK) := [[(nat_lit 7, nat_lit 0, [(nat_lit 3, (.ofNat (nat_lit 0))), (nat_lit 0, (.ofNat (nat_lit 8)))]), (nat_lit 0, nat_lit 1, [(nat_lit 1, (.ofNat (nat_lit 0))), (nat_lit 2, (.ofNat (nat_lit 0)))]), (nat_lit 6, nat_lit 2, [(nat_lit 2, (.ofNat (nat_lit 0))), (nat_lit 1, (.ofNat (nat_lit 0)))])],
  [(nat_lit 7, nat_lit 0, [(nat_lit 2, (.ofNat (nat_lit 0))), (nat_lit 0, (.ofNat (nat_lit 8)))]), (nat_lit 4, nat_lit 0, [(nat_lit 7, (.ofNat (nat_lit 0))), (nat_lit 3, (.ofNat (nat_lit 0)))]), (nat_lit 0, nat_lit 1, [(nat_lit 1, (.ofNat (nat_lit 0))), (nat_lit 2, (.ofNat (nat_lit 0)))]), (nat_lit 6, nat_lit 2, [(nat_lit 2, (.ofNat (nat_lit 0))), (nat_lit 1, (.ofNat (nat_lit 0)))])]]
def zEn_copies_7_0 : List (List zK) := [[(nat_lit 11, nat_lit 0, [(nat_lit 0, (.ofNat (nat_lit 0)))]), (nat_lit 6, nat_lit 3, [(nat_lit 2, (.ofNat (nat_lit 0))), (nat_lit 1, (.ofNat (nat_lit 0)))])],
  [(nat_lit 10, nat_lit 0, [(nat_lit 1, (.ofNat (nat_lit 0))), (nat_lit 5, (.ofNat (nat_lit 0)))]), (nat_lit 0, nat_lit 1, [(nat_lit 2, (.ofNat (nat_lit 0))), (nat_lit 0, (.ofNat (nat_lit 1)))]), (nat_lit 5, nat_lit 0, [(nat_lit 7, (.ofNat (nat_lit 0))), (nat_lit 2, (.ofNat (nat_lit 0))), (nat_lit 4, (.ofNat (nat_lit 0)))]), (nat_lit 4, nat_lit 0, [(nat_lit 7, (.ofNat (nat_lit 0))), (nat_lit 3, (.ofNat (nat_lit 0)))]), (nat_lit 0, nat_lit 1, [(nat_lit 1, (.ofNat (nat_lit 0))), (nat_lit 2, (.ofNat (nat_lit 0)))]), (nat_lit 6, nat_lit 2, [(nat_lit 2, (.ofNat (nat_lit 0))), (nat_lit 1, (.ofNat (nat_lit 0)))])]]
def zFn_copies_7_0 : List (List zK) := []
set_option maxHeartbeats 8000000 in
theorem zn_copies_7 {ro : Nat → List Int32} : zMet pr_P pr_K pr_df ro (sm_X0 1 6) 0 129 tm_n [(.inr (.inr (.inl (nat_lit 7)))), (.inl (nat_lit 0, (.ofNat (nat_lit 4))))] 0 [] [] (fun xs η => sP wl_n zTr zPn_copies_7 xs η ∧ pPn_copies_7 xs η) (fun xs η y η' => sQ wl_n zTr zOn_copies_7 zMn_copies_7 xs η y η' ∧ pQn_copies_7 xs η y η') :=
  zmet_alt (zmea_gen (mi := (nat_lit 2, nat_lit 0, nat_lit 8, nat_lit 3, nat_lit 0, tX8_copies)) (cd := []) (cu := zUn_copies_7) (cs := []) (iv := zVn_copies_7) (po := [zOn_copies_7]) (pr := zPn_copies_7) (mods := zMn_copies_7) (D7 := zDn_copies_7) (D0 := zEn_copies_7) (Dm := zFn_copies_7) (f0 := 7) pCn_copies_7 qCn_copies_7 iCn_copies_7 pPn_copies_7 (fun xs η _ y η' => pQn_copies_7 xs η y η') zX_low pr_mtR rfl (fun _ h => nomatch h) (by decide +kernel) (by decide +kernel) (by decide +kernel)
    (by
      intro xs η hr hl hp hpp
      match xs, hl, hp, hpp with
      | [], _, hp, hpp =>
        refine List.forall_mem_cons.mpr ⟨?_, fun _ h => nomatch h⟩
        · refine zden_L (n := 1) (ρ := [0]) rfl ?_
          show (iCn_copies_7 [] η) 0 [4, 0] η
          
          exact trivial
      )
    (fun _ _ _ _ _ _ _ h => nomatch h)
    (List.forall_mem_cons.mpr ⟨⟨zDn_copies_7_0, zEn_copies_7_0, zFn_copies_7_0, 18, by decide +kernel, (by
      intro xs η0 hlx hp hpp ys η hr hl hI hig
      match ys, hl, hI, hig with
      | [x1, x2], _, hI, hig =>
        refine ⟨?_, ?_⟩
        · refine List.forall_mem_cons.mpr ⟨?_, List.forall_mem_cons.mpr ⟨?_, fun _ h => nomatch h⟩⟩
          · refine zden_L (n := 3) (ρ := [x2, x1, 0]) rfl ?_
            show (x1 ≤ x2) → (fun (_ : Nat) (y : Int) (η' : zE) => pQn_copies_7 xs η0 y η') 0 0 η
            intro c1
            exact trivial
          · refine zden_L (n := 3) (ρ := [x2, x1, 0]) rfl ?_
            show (x2 < x1) → ∀ x3 : Int, x3 = zd 0 1 x1 x2 → ∀ x4 : Int, x4 = η 7 (Int.toNat x3) → zok 0 x4 → ∀ η1 : zE, η1 = zup η 7 (Int.toNat x2) x4 → ∀ x5 : Int, x5 = zd 0 1 x2 1 → (iCn_copies_7 xs η0) 0 [x1, x5] η1 ∧ (fun (_ : Nat) (_ : List Int) (_ : zE) => (0 : Nat)) 0 [x1, x5] η1 < 1
            intro c1 x3 e3 x4 e4 r4 η1 eη1 x5 e5
            exact ⟨trivial, Nat.zero_lt_one⟩
        · exact fun _ h => nomatch h
      )⟩, (fun _ h => nomatch h)⟩))
def zPn_copies_8 : zPq := ([], [])
def zOn_copies_8 : zPo := (((.ofNat (nat_lit 0)), (.ofNat (nat_lit 0))), [], [])
def zMn_copies_8 : List zCe := [(nat_lit 8, nat_lit 0)]
def pPn_copies_8 : List Int → zE → Prop := fun _ _ => True
def pQn_copies_8 : List Int → zE → Int → zE → Prop := fun _ _ _ _ => True
def pCn_copies_8 : Nat → List Int → zE → Prop := fun c => match c with
  | _ => fun _ _ => True
def qCn_copies_8 : Nat → List Int → zE → Int → zE → Prop := fun c => match c with
  | _ => fun _ _ _ _ => True
def iCn_copies_8 : List Int → zE → Nat → List Int → zE → Prop := fun xs η0 c => match c with
  | 0 => fun ys η => True
  | _ => fun _ _ => True
def zVn_copies_8 : List zIv := [(nat_lit 0, ([((.ofNat (nat_lit 4)), (.ofNat (nat_lit 4))), ((.ofNat (nat_lit 0)), (.ofNat (nat_lit 4)))], []), ((.ofNat (nat_lit 4)), [((.negSucc (nat_lit 0)), nat_lit 0, nat_lit 1, nat_lit 0)]))]
def zUn_copies_8 : List zCu := [(nat_lit 2, nat_lit 0, [(nat_lit 0, (.inr (.inr (.inl (nat_lit 8))))), (nat_lit 1, (.inl (nat_lit 1, (.ofNat (nat_lit 0))))), (nat_lit 2, (.inl (nat_lit 2, (.ofNat (nat_lit 0)))))], [])]
def zDn_copies_8 : List (List zK) := []
def zEn_copies_8 : List (List zK) := [[(nat_lit 12, nat_lit 0, [(nat_lit 0, (.ofNat (nat_lit 4))), (nat_lit 0, (.ofNat (nat_lit 0)))])]]
def zFn_copies_8 : List (List zK) := []
def zDn_copies_8_0 : List (List zK) := [[(nat_lit 7, nat_lit 0, [(nat_lit 3, (.ofNat (nat_lit 0))), (nat_lit 0, (.ofNat (nat_lit 8)))]), (nat_lit 0, nat_lit 1, [(nat_lit 1, (.ofNat (nat_lit 0))), (nat_lit 2, (.ofNat (nat_lit 0)))]), (nat_lit 6, nat_lit 2, [(nat_lit 2, (.ofNat (nat_lit 0))), (nat_lit 1, (.ofNat (nat_lit 0)))])],
  [(nat_lit 7, nat_lit 0, [(nat_lit 2, (.ofNat (nat_lit 0))), (nat_lit 0, (.ofNat (nat_lit 8)))]), (nat_lit 4, nat_lit 0, [(nat_lit 8, (.ofNat (nat_lit 0))), (nat_lit 3, (.ofNat (nat_lit 0)))]), (nat_lit 0, nat_lit 1, [(nat_lit 1, (.ofNat (nat_lit 0))), (nat_lit 2, (.ofNat (nat_lit 0)))]), (nat_lit 6, nat_lit 2, [(nat_lit 2, (.ofNat (nat_lit 0))), (nat_lit 1, (.ofNat (nat_lit 0)))])]]
def zEn_copies_8_0 : List (List zK) := [[(nat_lit 11, nat_lit 0, [(nat_lit 0, (.ofNat (nat_lit 0)))]), (nat_lit 6, nat_lit 3, [(nat_lit 2, (.ofNat (nat_lit 0))), (nat_lit 1, (.ofNat (nat_lit 0)))])],
  [(nat_lit 10, nat_lit 0, [(nat_lit 1, (.ofNat (nat_lit 0))), (nat_lit 5, (.ofNat (nat_lit 0)))]), (nat_lit 0, nat_lit 1, [(nat_lit 2, (.ofNat (nat_lit 0))), (nat_lit 0, (.ofNat (nat_lit 1)))]), (nat_lit 5, nat_lit 0, [(nat_lit 8, (.ofNat (nat_lit 0))), (nat_lit 2, (.ofNat (nat_lit 0))), (nat_lit 4, (.ofNat (nat_lit 0)))]), (nat_lit 4, nat_lit 0, [(nat_lit 8, (.ofNat (nat_lit 0))), (nat_lit 3, (.ofNat (nat_lit 0)))]), (nat_lit 0, nat_lit 1, [(nat_lit 1, (.ofNat (nat_lit 0))), (nat_lit 2, (.ofNat (nat_lit 0)))]), (nat_lit 6, nat_lit 2, [(nat_lit 2, (.ofNat (nat_lit 0))), (nat_lit 1, (.ofNat (nat_lit 0)))])]]
def zFn_copies_8_0 : List (List zK) := []
set_option maxHeartbeats 8000000 in
theorem zn_copies_8 {ro : Nat → List Int32} : zMet pr_P pr_K pr_df ro (sm_X0 1 6) 0 129 tm_n [(.inr (.inr (.inl (nat_lit 8)))), (.inl (nat_lit 0, (.ofNat (nat_lit 4))))] 0 [] [] (fun xs η => sP wl_n zTr zPn_copies_8 xs η ∧ pPn_copies_8 xs η) (fun xs η y η' => sQ wl_n zTr zOn_copies_8 zMn_copies_8 xs η y η' ∧ pQn_copies_8 xs η y η') :=
  zmet_alt (zmea_gen (mi := (nat_lit 2, nat_lit 0, nat_lit 8, nat_lit 3, nat_lit 0, tX8_copies)) (cd := []) (cu := zUn_copies_8) (cs := []) (iv := zVn_copies_8) (po := [zOn_copies_8]) (pr := zPn_copies_8) (mods := zMn_copies_8) (D7 := zDn_copies_8) (D0 := zEn_copies_8) (Dm := zFn_copies_8) (f0 := 7) pCn_copies_8 qCn_copies_8 iCn_copies_8 pPn_copies_8 (fun xs η _ y η' => pQn_copies_8 xs η y η') zX_low pr_mtR rfl (fun _ h => nomatch h) (by decide +kernel) (by decide +kernel) (by decide +kernel)
    (by
      intro xs η hr hl hp hpp
      match xs, hl, hp, hpp with
      | [], _, hp, hpp =>
        refine List.forall_mem_cons.mpr ⟨?_, fun _ h => nomatch h⟩
        · refine zden_L (n := 1) (ρ := [0]) rfl ?_
          show (iCn_copies_8 [] η) 0 [4, 0] η
          
          exact trivial
      )
    (fun _ _ _ _ _ _ _ h => nomatch h)
    (List.forall_mem_cons.mpr ⟨⟨zDn_copies_8_0, zEn_copies_8_0, zFn_copies_8_0, 18, by decide +kernel, (by
      intro xs η0 hlx hp hpp ys η hr hl hI hig
      match ys, hl, hI, hig with
      | [x1, x2], _, hI, hig =>
        refine ⟨?_, ?_⟩
        · refine List.forall_mem_cons.mpr ⟨?_, List.forall_mem_cons.mpr ⟨?_, fun _ h => nomatch h⟩⟩
          · refine zden_L (n := 3) (ρ := [x2, x1, 0]) rfl ?_
            show (x1 ≤ x2) → (fun (_ : Nat) (y : Int) (η' : zE) => pQn_copies_8 xs η0 y η') 0 0 η
            intro c1
            exact trivial
          · refine zden_L (n := 3) (ρ := [x2, x1, 0]) rfl ?_
            show (x2 < x1) → ∀ x3 : Int, x3 = zd 0 1 x1 x2 → ∀ x4 : Int, x4 = η 8 (Int.toNat x3) → zok 0 x4 → ∀ η1 : zE, η1 = zup η 8 (Int.toNat x2) x4 → ∀ x5 : Int, x5 = zd 0 1 x2 1 → (iCn_copies_8 xs η0) 0 [x1, x5] η1 ∧ (fun (_ : Nat) (_ : List Int) (_ : zE) => (0 : Nat)) 0 [x1, x5] η1 < 1
            intro c1 x3 e3 x4 e4 r4 η1 eη1 x5 e5
            exact ⟨trivial, Nat.zero_lt_one⟩
        · exact fun _ h => nomatch h
      )⟩, (fun _ h => nomatch h)⟩))
def zPn_copies_9 : zPq := ([], [])
def zOn_copies_9 : zPo := (((.ofNat (nat_lit 0)), (.ofNat (nat_lit 0))), [], [])
def zMn_copies_9 : List zCe := [(nat_lit 9, nat_lit 0)]
def pPn_copies_9 : List Int → zE → Prop := fun _ _ => True
def pQn_copies_9 : List Int → zE → Int → zE → Prop := fun _ _ _ _ => True
def pCn_copies_9 : Nat → List Int → zE → Prop := fun c => match c with
  | _ => fun _ _ => True
def qCn_copies_9 : Nat → List Int → zE → Int → zE → Prop := fun c => match c with
  | _ => fun _ _ _ _ => True
def iCn_copies_9 : List Int → zE → Nat → List Int → zE → Prop := fun xs η0 c => match c with
  | 0 => fun ys η => True
  | _ => fun _ _ => True
def zVn_copies_9 : List zIv := [(nat_lit 0, ([((.ofNat (nat_lit 4)), (.ofNat (nat_lit 4))), ((.ofNat (nat_lit 0)), (.ofNat (nat_lit 4)))], []), ((.ofNat (nat_lit 4)), [((.negSucc (nat_lit 0)), nat_lit 0, nat_lit 1, nat_lit 0)]))]
def zUn_copies_9 : List zCu := [(nat_lit 2, nat_lit 0, [(nat_lit 0, (.inr (.inr (.inl (nat_lit 9))))), (nat_lit 1, (.inl (nat_lit 1, (.ofNat (nat_lit 0))))), (nat_lit 2, (.inl (nat_lit 2, (.ofNat (nat_lit 0)))))], [])]
def zDn_copies_9 : List (List zK) := []
def zEn_copies_9 : List (List zK) := [[(nat_lit 12, nat_lit 0, [(nat_lit 0, (.ofNat (nat_lit 4))), (nat_lit 0, (.ofNat (nat_lit 0)))])]]
def zFn_copies_9 : List (List zK) := []
def zDn_copies_9_0 : List (List zK) := [[(nat_lit 7, nat_lit 0, [(nat_lit 3, (.ofNat (nat_lit 0))), (nat_lit 0, (.ofNat (nat_lit 8)))]), (nat_lit 0, nat_lit 1, [(nat_lit 1, (.ofNat (nat_lit 0))), (nat_lit 2, (.ofNat (nat_lit 0)))]), (nat_lit 6, nat_lit 2, [(nat_lit 2, (.ofNat (nat_lit 0))), (nat_lit 1, (.ofNat (nat_lit 0)))])],
  [(nat_lit 7, nat_lit 0, [(nat_lit 2, (.ofNat (nat_lit 0))), (nat_lit 0, (.ofNat (nat_lit 8)))]), (nat_lit 4, nat_lit 0, [(nat_lit 9, (.ofNat (nat_lit 0))), (nat_lit 3, (.ofNat (nat_lit 0)))]), (nat_lit 0, nat_lit 1, [(nat_lit 1, (.ofNat (nat_lit 0))), (nat_lit 2, (.ofNat (nat_lit 0)))]), (nat_lit 6, nat_lit 2, [(nat_lit 2, (.ofNat (nat_lit 0))), (nat_lit 1, (.ofNat (nat_lit 0)))])]]
def zEn_copies_9_0 : List (List zK) := [[(nat_lit 11, nat_lit 0, [(nat_lit 0, (.ofNat (nat_lit 0)))]), (nat_lit 6, nat_lit 3, [(nat_lit 2, (.ofNat (nat_lit 0))), (nat_lit 1, (.ofNat (nat_lit 0)))])],
  [(nat_lit 10, nat_lit 0, [(nat_lit 1, (.ofNat (nat_lit 0))), (nat_lit 5, (.ofNat (nat_lit 0)))]), (nat_lit 0, nat_lit 1, [(nat_lit 2, (.ofNat (nat_lit 0))), (nat_lit 0, (.ofNat (nat_lit 1)))]), (nat_lit 5, nat_lit 0, [(nat_lit 9, (.ofNat (nat_lit 0))), (nat_lit 2, (.ofNat (nat_lit 0))), (nat_lit 4, (.ofNat (nat_lit 0)))]), (nat_lit 4, nat_lit 0, [(nat_lit 9, (.ofNat (nat_lit 0))), (nat_lit 3, (.ofNat (nat_lit 0)))]), (nat_lit 0, nat_lit 1, [(nat_lit 1, (.ofNat (nat_lit 0))), (nat_lit 2, (.ofNat (nat_lit 0)))]), (nat_lit 6, nat_lit 2, [(nat_lit 2, (.ofNat (nat_lit 0))), (nat_lit 1, (.ofNat (nat_lit 0)))])]]
def zFn_copies_9_0 : List (List zK) := []
set_option maxHeartbeats 8000000 in
theorem zn_copies_9 {ro : Nat → List Int32} : zMet pr_P pr_K pr_df ro (sm_X0 1 6) 0 129 tm_n [(.inr (.inr (.inl (nat_lit 9)))), (.inl (nat_lit 0, (.ofNat (nat_lit 4))))] 0 [] [] (fun xs η => sP wl_n zTr zPn_copies_9 xs η ∧ pPn_copies_9 xs η) (fun xs η y η' => sQ wl_n zTr zOn_copies_9 zMn_copies_9 xs η y η' ∧ pQn_copies_9 xs η y η') :=
  zmet_alt (zmea_gen (mi := (nat_lit 2, nat_lit 0, nat_lit 8, nat_lit 3, nat_lit 0, tX8_copies)) (cd := []) (cu := zUn_copies_9) (cs := []) (iv := zVn_copies_9) (po := [zOn_copies_9]) (pr := zPn_copies_9) (mods := zMn_copies_9) (D7 := zDn_copies_9) (D0 := zEn_copies_9) (Dm := zFn_copies_9) (f0 := 7) pCn_copies_9 qCn_copies_9 iCn_copies_9 pPn_copies_9 (fun xs η _ y η' => pQn_copies_9 xs η y η') zX_low pr_mtR rfl (fun _ h => nomatch h) (by decide +kernel) (by decide +kernel) (by decide +kernel)
    (by
      intro xs η hr hl hp hpp
      match xs, hl, hp, hpp with
      | [], _, hp, hpp =>
        refine List.forall_mem_cons.mpr ⟨?_, fun _ h => nomatch h⟩
        · refine zden_L (n := 1) (ρ := [0]) rfl ?_
          show (iCn_copies_9 [] η) 0 [4, 0] η
          
          exact trivial
      )
    (fun _ _ _ _ _ _ _ h => nomatch h)
    (List.forall_mem_cons.mpr ⟨⟨zDn_copies_9_0, zEn_copies_9_0, zFn_copies_9_0, 18, by decide +kernel, (by
      intro xs η0 hlx hp hpp ys η hr hl hI hig
      match ys, hl, hI, hig with
      | [x1, x2], _, hI, hig =>
        refine ⟨?_, ?_⟩
        · refine List.forall_mem_cons.mpr ⟨?_, List.forall_mem_cons.mpr ⟨?_, fun _ h => nomatch h⟩⟩
          · refine zden_L (n := 3) (ρ := [x2, x1, 0]) rfl ?_
            show (x1 ≤ x2) → (fun (_ : Nat) (y : Int) (η' : zE) => pQn_copies_9 xs η0 y η') 0 0 η
            intro c1
            exact trivial
          · refine zden_L (n := 3) (ρ := [x2, x1, 0]) rfl ?_
            show (x2 < x1) → ∀ x3 : Int, x3 = zd 0 1 x1 x2 → ∀ x4 : Int, x4 = η 9 (Int.toNat x3) → zok 0 x4 → ∀ η1 : zE, η1 = zup η 9 (Int.toNat x2) x4 → ∀ x5 : Int, x5 = zd 0 1 x2 1 → (iCn_copies_9 xs η0) 0 [x1, x5] η1 ∧ (fun (_ : Nat) (_ : List Int) (_ : zE) => (0 : Nat)) 0 [x1, x5] η1 < 1
            intro c1 x3 e3 x4 e4 r4 η1 eη1 x5 e5
            exact ⟨trivial, Nat.zero_lt_one⟩
        · exact fun _ h => nomatch h
      )⟩, (fun _ h => nomatch h)⟩))
def zPn_copies_10 : zPq := ([], [])
def zOn_copies_10 : zPo := (((.ofNat (nat_lit 0)), (.ofNat (nat_lit 0))), [], [])
def zMn_copies_10 : List zCe := [(nat_lit 10, nat_lit 0)]
def pPn_copies_10 : List Int → zE → Prop := fun _ _ => True
def pQn_copies_10 : List Int → zE → Int → zE → Prop := fun _ _ _ _ => True
def pCn_copies_10 : Nat → List Int → zE → Prop := fun c => match c with
  | _ => fun _ _ => True
def qCn_copies_10 : Nat → List Int → zE → Int → zE → Prop := fun c => match c with
  | _ => fun _ _ _ _ => True
def iCn_copies_10 : List Int → zE → Nat → List Int → zE → Prop := fun xs η0 c => match c with
  | 0 => fun ys η => True
  | _ => fun _ _ => True
def zVn_copies_10 : List zIv := [(nat_lit 0, ([((.ofNat (nat_lit 4)), (.ofNat (nat_lit 4))), ((.ofNat (nat_lit 0)), (.ofNat (nat_lit 4)))], []), ((.ofNat (nat_lit 4)), [((.negSucc (nat_lit 0)), nat_lit 0, nat_lit 1, nat_lit 0)]))]
def zUn_copies_10 : List zCu := [(nat_lit 2, nat_lit 0, [(nat_lit 0, (.inr (.inr (.inl (nat_lit 10))))), (nat_lit 1, (.inl (nat_lit 1, (.ofNat (nat_lit 0))))), (nat_lit 2, (.inl (nat_lit 2, (.ofNat (nat_lit 0)))))], [])]
def zDn_copies_10 : List (List zK) := []
def zEn_copies_10 : List (List zK) := [[(nat_lit 12, nat_lit 0, [(nat_lit 0, (.ofNat (nat_lit 4))), (nat_lit 0, (.ofNat (nat_lit 0)))])]]
def zFn_copies_10 : List (List zK) := []
def zDn_copies_10_0 : List (List zK) := [[(nat_lit 7, nat_lit 0, [(nat_lit 3, (.ofNat (nat_lit 0))), (nat_lit 0, (.ofNat (nat_lit 8)))]), (nat_lit 0, nat_lit 1, [(nat_lit 1, (.ofNat (nat_lit 0))), (nat_lit 2, (.ofNat (nat_lit 0)))]), (nat_lit 6, nat_lit 2, [(nat_lit 2, (.ofNat (nat_lit 0))), (nat_lit 1, (.ofNat (nat_lit 0)))])],
  [(nat_lit 7, nat_lit 0, [(nat_lit 2, (.ofNat (nat_lit 0))), (nat_lit 0, (.ofNat (nat_lit 8)))]), (nat_lit 4, nat_lit 0, [(nat_lit 10, (.ofNat (nat_lit 0))), (nat_lit 3, (.ofNat (nat_lit 0)))]), (nat_lit 0, nat_lit 1, [(nat_lit 1, (.ofNat (nat_lit 0))), (nat_lit 2, (.ofNat (nat_lit 0)))]), (nat_lit 6, nat_lit 2, [(nat_lit 2, (.ofNat (nat_lit 0))), (nat_lit 1, (.ofNat (nat_lit 0)))])]]
def zEn_copies_10_0 : List (List zK) := [[(nat_lit 11, nat_lit 0, [(nat_lit 0, (.ofNat (nat_lit 0)))]), (nat_lit 6, nat_lit 3, [(nat_lit 2, (.ofNat (nat_lit 0))), (nat_lit 1, (.ofNat (nat_lit 0)))])],
  [(nat_lit 10, nat_lit 0, [(nat_lit 1, (.ofNat (nat_lit 0))), (nat_lit 5, (.ofNat (nat_lit 0)))]), (nat_lit 0, nat_lit 1, [(nat_lit 2, (.ofNat (nat_lit 0))), (nat_lit 0, (.ofNat (nat_lit 1)))]), (nat_lit 5, nat_lit 0, [(nat_lit 10, (.ofNat (nat_lit 0))), (nat_lit 2, (.ofNat (nat_lit 0))), (nat_lit 4, (.ofNat (nat_lit 0)))]), (nat_lit 4, nat_lit 0, [(nat_lit 10, (.ofNat (nat_lit 0))), (nat_lit 3, (.ofNat (nat_lit 0)))]), (nat_lit 0, nat_lit 1, [(nat_lit 1, (.ofNat (nat_lit 0))), (nat_lit 2, (.ofNat (nat_lit 0)))]), (nat_lit 6, nat_lit 2, [(nat_lit 2, (.ofNat (nat_lit 0))), (nat_lit 1, (.ofNat (nat_lit 0)))])]]
def zFn_copies_10_0 : List (List zK) := []
set_option maxHeartbeats 8000000 in
theorem zn_copies_10 {ro : Nat → List Int32} : zMet pr_P pr_K pr_df ro (sm_X0 1 6) 0 129 tm_n [(.inr (.inr (.inl (nat_lit 10)))), (.inl (nat_lit 0, (.ofNat (nat_lit 4))))] 0 [] [] (fun xs η => sP wl_n zTr zPn_copies_10 xs η ∧ pPn_copies_10 xs η) (fun xs η y η' => sQ wl_n zTr zOn_copies_10 zMn_copies_10 xs η y η' ∧ pQn_copies_10 xs η y η') :=
  zmet_alt (zmea_gen (mi := (nat_lit 2, nat_lit 0, nat_lit 8, nat_lit 3, nat_lit 0, tX8_copies)) (cd := []) (cu := zUn_copies_10) (cs := []) (iv := zVn_copies_10) (po := [zOn_copies_10]) (pr := zPn_copies_10) (mods := zMn_copies_10) (D7 := zDn_copies_10) (D0 := zEn_copies_10) (Dm := zFn_copies_10) (f0 := 7) pCn_copies_10 qCn_copies_10 iCn_copies_10 pPn_copies_10 (fun xs η _ y η' => pQn_copies_10 xs η y η') zX_low pr_mtR rfl (fun _ h => nomatch h) (by decide +kernel) (by decide +kernel) (by decide +kernel)
    (by
      intro xs η hr hl hp hpp
      match xs, hl, hp, hpp with
      | [], _, hp, hpp =>
        refine List.forall_mem_cons.mpr ⟨?_, fun _ h => nomatch h⟩
        · refine zden_L (n := 1) (ρ := [0]) rfl ?_
          show (iCn_copies_10 [] η) 0 [4, 0] η
          
          exact trivial
      )
    (fun _ _ _ _ _ _ _ h => nomatch h)
    (List.forall_mem_cons.mpr ⟨⟨zDn_copies_10_0, zEn_copies_10_0, zFn_copies_10_0, 18, by decide +kernel, (by
      intro xs η0 hlx hp hpp ys η hr hl hI hig
      match ys, hl, hI, hig with
      | [x1, x2], _, hI, hig =>
        refine ⟨?_, ?_⟩
        · refine List.forall_mem_cons.mpr ⟨?_, List.forall_mem_cons.mpr ⟨?_, fun _ h => nomatch h⟩⟩
          · refine zden_L (n := 3) (ρ := [x2, x1, 0]) rfl ?_
            show (x1 ≤ x2) → (fun (_ : Nat) (y : Int) (η' : zE) => pQn_copies_10 xs η0 y η') 0 0 η
            intro c1
            exact trivial
          · refine zden_L (n := 3) (ρ := [x2, x1, 0]) rfl ?_
            show (x2 < x1) → ∀ x3 : Int, x3 = zd 0 1 x1 x2 → ∀ x4 : Int, x4 = η 10 (Int.toNat x3) → zok 0 x4 → ∀ η1 : zE, η1 = zup η 10 (Int.toNat x2) x4 → ∀ x5 : Int, x5 = zd 0 1 x2 1 → (iCn_copies_10 xs η0) 0 [x1, x5] η1 ∧ (fun (_ : Nat) (_ : List Int) (_ : zE) => (0 : Nat)) 0 [x1, x5] η1 < 1
            intro c1 x3 e3 x4 e4 r4 η1 eη1 x5 e5
            exact ⟨trivial, Nat.zero_lt_one⟩
        · exact fun _ h => nomatch h
      )⟩, (fun _ h => nomatch h)⟩))
def zPn_copies_11 : zPq := ([], [])
def zOn_copies_11 : zPo := (((.ofNat (nat_lit 0)), (.ofNat (nat_lit 0))), [], [])
def zMn_copies_11 : List zCe := [(nat_lit 11, nat_lit 0)]
def pPn_copies_11 : List Int → zE → Prop := fun _ _ => True
def pQn_copies_11 : List Int → zE → Int → zE → Prop := fun _ _ _ _ => True
def pCn_copies_11 : Nat → List Int → zE → Prop := fun c => match c with
  | _ => fun _ _ => True
def qCn_copies_11 : Nat → List Int → zE → Int → zE → Prop := fun c => match c with
  | _ => fun _ _ _ _ => True
def iCn_copies_11 : List Int → zE → Nat → List Int → zE → Prop := fun xs η0 c => match c with
  | 0 => fun ys η => True
  | _ => fun _ _ => True
def zVn_copies_11 : List zIv := [(nat_lit 0, ([((.ofNat (nat_lit 4)), (.ofNat (nat_lit 4))), ((.ofNat (nat_lit 0)), (.ofNat (nat_lit 4)))], []), ((.ofNat (nat_lit 4)), [((.negSucc (nat_lit 0)), nat_lit 0, nat_lit 1, nat_lit 0)]))]
def zUn_copies_11 : List zCu := [(nat_lit 2, nat_lit 0, [(nat_lit 0, (.inr (.inr (.inl (nat_lit 11))))), (nat_lit 1, (.inl (nat_lit 1, (.ofNat (nat_lit 0))))), (nat_lit 2, (.inl (nat_lit 2, (.ofNat (nat_lit 0)))))], [])]
def zDn_copies_11 : List (List zK) := []
def zEn_copies_11 : List (List zK) := [[(nat_lit 12, nat_lit 0, [(nat_lit 0, (.ofNat (nat_lit 4))), (nat_lit 0, (.ofNat (nat_lit 0)))])]]
def zFn_copies_11 : List (List zK) := []
def zDn_copies_11_0 : List (List zK) := [[(nat_lit 7, nat_lit 0, [(nat_lit 3, (.ofNat (nat_lit 0))), (nat_lit 0, (.ofNat (nat_lit 8)))]), (nat_lit 0, nat_lit 1, [(nat_lit 1, (.ofNat (nat_lit 0))), (nat_lit 2, (.ofNat (nat_lit 0)))]), (nat_lit 6, nat_lit 2, [(nat_lit 2, (.ofNat (nat_lit 0))), (nat_lit 1, (.ofNat (nat_lit 0)))])],
  [(nat_lit 7, nat_lit 0, [(nat_lit 2, (.ofNat (nat_lit 0))), (nat_lit 0, (.ofNat (nat_lit 8)))]), (nat_lit 4, nat_lit 0, [(nat_lit 11, (.ofNat (nat_lit 0))), (nat_lit 3, (.ofNat (nat_lit 0)))]), (nat_lit 0, nat_lit 1, [(nat_lit 1, (.ofNat (nat_lit 0))), (nat_lit 2, (.ofNat (nat_lit 0)))]), (nat_lit 6, nat_lit 2, [(nat_lit 2, (.ofNat (nat_lit 0))), (nat_lit 1, (.ofNat (nat_lit 0)))])]]
def zEn_copies_11_0 : List (List zK) := [[(nat_lit 11, nat_lit 0, [(nat_lit 0, (.ofNat (nat_lit 0)))]), (nat_lit 6, nat_lit 3, [(nat_lit 2, (.ofNat (nat_lit 0))), (nat_lit 1, (.ofNat (nat_lit 0)))])],
  [(nat_lit 10, nat_lit 0, [(nat_lit 1, (.ofNat (nat_lit 0))), (nat_lit 5, (.ofNat (nat_lit 0)))]), (nat_lit 0, nat_lit 1, [(nat_lit 2, (.ofNat (nat_lit 0))), (nat_lit 0, (.ofNat (nat_lit 1)))]), (nat_lit 5, nat_lit 0, [(nat_lit 11, (.ofNat (nat_lit 0))), (nat_lit 2, (.ofNat (nat_lit 0))), (nat_lit 4, (.ofNat (nat_lit 0)))]), (nat_lit 4, nat_lit 0, [(nat_lit 11, (.ofNat (nat_lit 0))), (nat_lit 3, (.ofNat (nat_lit 0)))]), (nat_lit 0, nat_lit 1, [(nat_lit 1, (.ofNat (nat_lit 0))), (nat_lit 2, (.ofNat (nat_lit 0)))]), (nat_lit 6, nat_lit 2, [(nat_lit 2, (.ofNat (nat_lit 0))), (nat_lit 1, (.ofNat (nat_lit 0)))])]]
def zFn_copies_11_0 : List (List zK) := []
set_option maxHeartbeats 8000000 in
theorem zn_copies_11 {ro : Nat → List Int32} : zMet pr_P pr_K pr_df ro (sm_X0 1 6) 0 129 tm_n [(.inr (.inr (.inl (nat_lit 11)))), (.inl (nat_lit 0, (.ofNat (nat_lit 4))))] 0 [] [] (fun xs η => sP wl_n zTr zPn_copies_11 xs η ∧ pPn_copies_11 xs η) (fun xs η y η' => sQ wl_n zTr zOn_copies_11 zMn_copies_11 xs η y η' ∧ pQn_copies_11 xs η y η') :=
  zmet_alt (zmea_gen (mi := (nat_lit 2, nat_lit 0, nat_lit 8, nat_lit 3, nat_lit 0, tX8_copies)) (cd := []) (cu := zUn_copies_11) (cs := []) (iv := zVn_copies_11) (po := [zOn_copies_11]) (pr := zPn_copies_11) (mods := zMn_copies_11) (D7 := zDn_copies_11) (D0 := zEn_copies_11) (Dm := zFn_copies_11) (f0 := 7) pCn_copies_11 qCn_copies_11 iCn_copies_11 pPn_copies_11 (fun xs η _ y η' => pQn_copies_11 xs η y η') zX_low pr_mtR rfl (fun _ h => nomatch h) (by decide +kernel) (by decide +kernel) (by decide +kernel)
    (by
      intro xs η hr hl hp hpp
      match xs, hl, hp, hpp with
      | [], _, hp, hpp =>
        refine List.forall_mem_cons.mpr ⟨?_, fun _ h => nomatch h⟩
        · refine zden_L (n := 1) (ρ := [0]) rfl ?_
          show (iCn_copies_11 [] η) 0 [4, 0] η
          
          exact trivial
      )
    (fun _ _ _ _ _ _ _ h => nomatch h)
    (List.forall_mem_cons.mpr ⟨⟨zDn_copies_11_0, zEn_copies_11_0, zFn_copies_11_0, 18, by decide +kernel, (by
      intro xs η0 hlx hp hpp ys η hr hl hI hig
      match ys, hl, hI, hig with
      | [x1, x2], _, hI, hig =>
        refine ⟨?_, ?_⟩
        · refine List.forall_mem_cons.mpr ⟨?_, List.forall_mem_cons.mpr ⟨?_, fun _ h => nomatch h⟩⟩
          · refine zden_L (n := 3) (ρ := [x2, x1, 0]) rfl ?_
            show (x1 ≤ x2) → (fun (_ : Nat) (y : Int) (η' : zE) => pQn_copies_11 xs η0 y η') 0 0 η
            intro c1
            exact trivial
          · refine zden_L (n := 3) (ρ := [x2, x1, 0]) rfl ?_
            show (x2 < x1) → ∀ x3 : Int, x3 = zd 0 1 x1 x2 → ∀ x4 : Int, x4 = η 11 (Int.toNat x3) → zok 0 x4 → ∀ η1 : zE, η1 = zup η 11 (Int.toNat x2) x4 → ∀ x5 : Int, x5 = zd 0 1 x2 1 → (iCn_copies_11 xs η0) 0 [x1, x5] η1 ∧ (fun (_ : Nat) (_ : List Int) (_ : zE) => (0 : Nat)) 0 [x1, x5] η1 < 1
            intro c1 x3 e3 x4 e4 r4 η1 eη1 x5 e5
            exact ⟨trivial, Nat.zero_lt_one⟩
        · exact fun _ h => nomatch h
      )⟩, (fun _ h => nomatch h)⟩))
def zPn_copies_12 : zPq := ([], [])
def zOn_copies_12 : zPo := (((.ofNat (nat_lit 0)), (.ofNat (nat_lit 0))), [], [])
def zMn_copies_12 : List zCe := [(nat_lit 12, nat_lit 0)]
def pPn_copies_12 : List Int → zE → Prop := fun _ _ => True
def pQn_copies_12 : List Int → zE → Int → zE → Prop := fun _ _ _ _ => True
def pCn_copies_12 : Nat → List Int → zE → Prop := fun c => match c with
  | _ => fun _ _ => True
def qCn_copies_12 : Nat → List Int → zE → Int → zE → Prop := fun c => match c with
  | _ => fun _ _ _ _ => True
def iCn_copies_12 : List Int → zE → Nat → List Int → zE → Prop := fun xs η0 c => match c with
  | 0 => fun ys η => True
  | _ => fun _ _ => True
def zVn_copies_12 : List zIv := [(nat_lit 0, ([((.ofNat (nat_lit 4)), (.ofNat (nat_lit 4))), ((.ofNat (nat_lit 0)), (.ofNat (nat_lit 4)))], []), ((.ofNat (nat_lit 4)), [((.negSucc (nat_lit 0)), nat_lit 0, nat_lit 1, nat_lit 0)]))]
def zUn_copies_12 : List zCu := [(nat_lit 2, nat_lit 0, [(nat_lit 0, (.inr (.inr (.inl (nat_lit 12))))), (nat_lit 1, (.inl (nat_lit 1, (.ofNat (nat_lit 0))))), (nat_lit 2, (.inl (nat_lit 2, (.ofNat (nat_lit 0)))))], [])]
def zDn_copies_12 : List (List zK) := []
def zEn_copies_12 : List (List zK) := [[(nat_lit 12, nat_lit 0, [(nat_lit 0, (.ofNat (nat_lit 4))), (nat_lit 0, (.ofNat (nat_lit 0)))])]]
def zFn_copies_12 : List (List zK) := []
def zDn_copies_12_0 : List (List zK) := [[(nat_lit 7, nat_lit 0, [(nat_lit 3, (.ofNat (nat_lit 0))), (nat_lit 0, (.ofNat (nat_lit 8)))]), (nat_lit 0, nat_lit 1, [(nat_lit 1, (.ofNat (nat_lit 0))), (nat_lit 2, (.ofNat (nat_lit 0)))]), (nat_lit 6, nat_lit 2, [(nat_lit 2, (.ofNat (nat_lit 0))), (nat_lit 1, (.ofNat (nat_lit 0)))])],
  [(nat_lit 7, nat_lit 0, [(nat_lit 2, (.ofNat (nat_lit 0))), (nat_lit 0, (.ofNat (nat_lit 8)))]), (nat_lit 4, nat_lit 0, [(nat_lit 12, (.ofNat (nat_lit 0))), (nat_lit 3, (.ofNat (nat_lit 0)))]), (nat_lit 0, nat_lit 1, [(nat_lit 1, (.ofNat (nat_lit 0))), (nat_lit 2, (.ofNat (nat_lit 0)))]), (nat_lit 6, nat_lit 2, [(nat_lit 2, (.ofNat (nat_lit 0))), (nat_lit 1, (.ofNat (nat_lit 0)))])]]
def zEn_copies_12_0 : List (List zK) := [[(nat_lit 11, nat_lit 0, [(nat_lit 0, (.ofNat (nat_lit 0)))]), (nat_lit 6, nat_lit 3, [(nat_lit 2, (.ofNat (nat_lit 0))), (nat_lit 1, (.ofNat (nat_lit 0)))])],
  [(nat_lit 10, nat_lit 0, [(nat_lit 1, (.ofNat (nat_lit 0))), (nat_lit 5, (.ofNat (nat_lit 0)))]), (nat_lit 0, nat_lit 1, [(nat_lit 2, (.ofNat (nat_lit 0))), (nat_lit 0, (.ofNat (nat_lit 1)))]), (nat_lit 5, nat_lit 0, [(nat_lit 12, (.ofNat (nat_lit 0))), (nat_lit 2, (.ofNat (nat_lit 0))), (nat_lit 4, (.ofNat (nat_lit 0)))]), (nat_lit 4, nat_lit 0, [(nat_lit 12, (.ofNat (nat_lit 0))), (nat_lit 3, (.ofNat (nat_lit 0)))]), (nat_lit 0, nat_lit 1, [(nat_lit 1, (.ofNat (nat_lit 0))), (nat_lit 2, (.ofNat (nat_lit 0)))]), (nat_lit 6, nat_lit 2, [(nat_lit 2, (.ofNat (nat_lit 0))), (nat_lit 1, (.ofNat (nat_lit 0)))])]]
def zFn_copies_12_0 : List (List zK) := []
set_option maxHeartbeats 8000000 in
theorem zn_copies_12 {ro : Nat → List Int32} : zMet pr_P pr_K pr_df ro (sm_X0 1 6) 0 129 tm_n [(.inr (.inr (.inl (nat_lit 12)))), (.inl (nat_lit 0, (.ofNat (nat_lit 4))))] 0 [] [] (fun xs η => sP wl_n zTr zPn_copies_12 xs η ∧ pPn_copies_12 xs η) (fun xs η y η' => sQ wl_n zTr zOn_copies_12 zMn_copies_12 xs η y η' ∧ pQn_copies_12 xs η y η') :=
  zmet_alt (zmea_gen (mi := (nat_lit 2, nat_lit 0, nat_lit 8, nat_lit 3, nat_lit 0, tX8_copies)) (cd := []) (cu := zUn_copies_12) (cs := []) (iv := zVn_copies_12) (po := [zOn_copies_12]) (pr := zPn_copies_12) (mods := zMn_copies_12) (D7 := zDn_copies_12) (D0 := zEn_copies_12) (Dm := zFn_copies_12) (f0 := 7) pCn_copies_12 qCn_copies_12 iCn_copies_12 pPn_copies_12 (fun xs η _ y η' => pQn_copies_12 xs η y η') zX_low pr_mtR rfl (fun _ h => nomatch h) (by decide +kernel) (by decide +kernel) (by decide +kernel)
    (by
      intro xs η hr hl hp hpp
      match xs, hl, hp, hpp with
      | [], _, hp, hpp =>
        refine List.forall_mem_cons.mpr ⟨?_, fun _ h => nomatch h⟩
        · refine zden_L (n := 1) (ρ := [0]) rfl ?_
          show (iCn_copies_12 [] η) 0 [4, 0] η
          
          exact trivial
      )
    (fun _ _ _ _ _ _ _ h => nomatch h)
    (List.forall_mem_cons.mpr ⟨⟨zDn_copies_12_0, zEn_copies_12_0, zFn_copies_12_0, 18, by decide +kernel, (by
      intro xs η0 hlx hp hpp ys η hr hl hI hig
      match ys, hl, hI, hig with
      | [x1, x2], _, hI, hig =>
        refine ⟨?_, ?_⟩
        · refine List.forall_mem_cons.mpr ⟨?_, List.forall_mem_cons.mpr ⟨?_, fun _ h => nomatch h⟩⟩
          · refine zden_L (n := 3) (ρ := [x2, x1, 0]) rfl ?_
            show (x1 ≤ x2) → (fun (_ : Nat) (y : Int) (η' : zE) => pQn_copies_12 xs η0 y η') 0 0 η
            intro c1
            exact trivial
          · refine zden_L (n := 3) (ρ := [x2, x1, 0]) rfl ?_
            show (x2 < x1) → ∀ x3 : Int, x3 = zd 0 1 x1 x2 → ∀ x4 : Int, x4 = η 12 (Int.toNat x3) → zok 0 x4 → ∀ η1 : zE, η1 = zup η 12 (Int.toNat x2) x4 → ∀ x5 : Int, x5 = zd 0 1 x2 1 → (iCn_copies_12 xs η0) 0 [x1, x5] η1 ∧ (fun (_ : Nat) (_ : List Int) (_ : zE) => (0 : Nat)) 0 [x1, x5] η1 < 1
            intro c1 x3 e3 x4 e4 r4 η1 eη1 x5 e5
            exact ⟨trivial, Nat.zero_lt_one⟩
        · exact fun _ h => nomatch h
      )⟩, (fun _ h => nomatch h)⟩))
def zPn_copies_13 : zPq := ([], [])
def zOn_copies_13 : zPo := (((.ofNat (nat_lit 0)), (.ofNat (nat_lit 0))), [], [])
def zMn_copies_13 : List zCe := [(nat_lit 13, nat_lit 0)]
def pPn_copies_13 : List Int → zE → Prop := fun _ _ => True
def pQn_copies_13 : List Int → zE → Int → zE → Prop := fun _ _ _ _ => True
def pCn_copies_13 : Nat → List Int → zE → Prop := fun c => match c with
  | _ => fun _ _ => True
def qCn_copies_13 : Nat → List Int → zE → Int → zE → Prop := fun c => match c with
  | _ => fun _ _ _ _ => True
def iCn_copies_13 : List Int → zE → Nat → List Int → zE → Prop := fun xs η0 c => match c with
  | 0 => fun ys η => True
  | _ => fun _ _ => True
def zVn_copies_13 : List zIv := [(nat_lit 0, ([((.ofNat (nat_lit 4)), (.ofNat (nat_lit 4))), ((.ofNat (nat_lit 0)), (.ofNat (nat_lit 4)))], []), ((.ofNat (nat_lit 4)), [((.negSucc (nat_lit 0)), nat_lit 0, nat_lit 1, nat_lit 0)]))]
def zUn_copies_13 : List zCu := [(nat_lit 2, nat_lit 0, [(nat_lit 0, (.inr (.inr (.inl (nat_lit 13))))), (nat_lit 1, (.inl (nat_lit 1, (.ofNat (nat_lit 0))))), (nat_lit 2, (.inl (nat_lit 2, (.ofNat (nat_lit 0)))))], [])]
def zDn_copies_13 : List (List zK) := []
def zEn_copies_13 : List (List zK) := [[(nat_lit 12, nat_lit 0, [(nat_lit 0, (.ofNat (nat_lit 4))), (nat_lit 0, (.ofNat (nat_lit 0)))])]]
def zFn_copies_13 : List (List zK) := []
def zDn_copies_13_0 : List (List zK) := [[(nat_lit 7, nat_lit 0, [(nat_lit 3, (.ofNat (nat_lit 0))), (nat_lit 0, (.ofNat (nat_lit 8)))]), (nat_lit 0, nat_lit 1, [(nat_lit 1, (.ofNat (nat_lit 0))), (nat_lit 2, (.ofNat (nat_lit 0)))]), (nat_lit 6, nat_lit 2, [(nat_lit 2, (.ofNat (nat_lit 0))), (nat_lit 1, (.ofNat (nat_lit 0)))])],
  [(nat_lit 7, nat_lit 0, [(nat_lit 2, (.ofNat (nat_lit 0))), (nat_lit 0, (.ofNat (nat_lit 8)))]), (nat_lit 4, nat_lit 0, [(nat_lit 13, (.ofNat (nat_lit 0))), (nat_lit 3, (.ofNat (nat_lit 0)))]), (nat_lit 0, nat_lit 1, [(nat_lit 1, (.ofNat (nat_lit 0))), (nat_lit 2, (.ofNat (nat_lit 0)))]), (nat_lit 6, nat_lit 2, [(nat_lit 2, (.ofNat (nat_lit 0))), (nat_lit 1, (.ofNat (nat_lit 0)))])]]
def zEn_copies_13_0 : List (List zK) := [[(nat_lit 11, nat_lit 0, [(nat_lit 0, (.ofNat (nat_lit 0)))]), (nat_lit 6, nat_lit 3, [(nat_lit 2, (.ofNat (nat_lit 0))), (nat_lit 1, (.ofNat (nat_lit 0)))])],
  [(nat_lit 10, nat_lit 0, [(nat_lit 1, (.ofNat (nat_lit 0))), (nat_lit 5, (.ofNat (nat_lit 0)))]), (nat_lit 0, nat_lit 1, [(nat_lit 2, (.ofNat (nat_lit 0))), (nat_lit 0, (.ofNat (nat_lit 1)))]), (nat_lit 5, nat_lit 0, [(nat_lit 13, (.ofNat (nat_lit 0))), (nat_lit 2, (.ofNat (nat_lit 0))), (nat_lit 4, (.ofNat (nat_lit 0)))]), (nat_lit 4, nat_lit 0, [(nat_lit 13, (.ofNat (nat_lit 0))), (nat_lit 3, (.ofNat (nat_lit 0)))]), (nat_lit 0, nat_lit 1, [(nat_lit 1, (.ofNat (nat_lit 0))), (nat_lit 2, (.ofNat (nat_lit 0)))]), (nat_lit 6, nat_lit 2, [(nat_lit 2, (.ofNat (nat_lit 0))), (nat_lit 1, (.ofNat (nat_lit 0)))])]]
def zFn_copies_13_0 : List (List zK) := []
set_option maxHeartbeats 8000000 in
theorem zn_copies_13 {ro : Nat → List Int32} : zMet pr_P pr_K pr_df ro (sm_X0 1 6) 0 129 tm_n [(.inr (.inr (.inl (nat_lit 13)))), (.inl (nat_lit 0, (.ofNat (nat_lit 4))))] 0 [] [] (fun xs η => sP wl_n zTr zPn_copies_13 xs η ∧ pPn_copies_13 xs η) (fun xs η y η' => sQ wl_n zTr zOn_copies_13 zMn_copies_13 xs η y η' ∧ pQn_copies_13 xs η y η') :=
  zmet_alt (zmea_gen (mi := (nat_lit 2, nat_lit 0, nat_lit 8, nat_lit 3, nat_lit 0, tX8_copies)) (cd := []) (cu := zUn_copies_13) (cs := []) (iv := zVn_copies_13) (po := [zOn_copies_13]) (pr := zPn_copies_13) (mods := zMn_copies_13) (D7 := zDn_copies_13) (D0 := zEn_copies_13) (Dm := zFn_copies_13) (f0 := 7) pCn_copies_13 qCn_copies_13 iCn_copies_13 pPn_copies_13 (fun xs η _ y η' => pQn_copies_13 xs η y η') zX_low pr_mtR rfl (fun _ h => nomatch h) (by decide +kernel) (by decide +kernel) (by decide +kernel)
    (by
      intro xs η hr hl hp hpp
      match xs, hl, hp, hpp with
      | [], _, hp, hpp =>
        refine List.forall_mem_cons.mpr ⟨?_, fun _ h => nomatch h⟩
        · refine zden_L (n := 1) (ρ := [0]) rfl ?_
          show (iCn_copies_13 [] η) 0 [4, 0] η
          
          exact trivial
      )
    (fun _ _ _ _ _ _ _ h => nomatch h)
    (List.forall_mem_cons.mpr ⟨⟨zDn_copies_13_0, zEn_copies_13_0, zFn_copies_13_0, 18, by decide +kernel, (by
      intro xs η0 hlx hp hpp ys η hr hl hI hig
      match ys, hl, hI, hig with
      | [x1, x2], _, hI, hig =>
        refine ⟨?_, ?_⟩
        · refine List.forall_mem_cons.mpr ⟨?_, List.forall_mem_cons.mpr ⟨?_, fun _ h => nomatch h⟩⟩
          · refine zden_L (n := 3) (ρ := [x2, x1, 0]) rfl ?_
            show (x1 ≤ x2) → (fun (_ : Nat) (y : Int) (η' : zE) => pQn_copies_13 xs η0 y η') 0 0 η
            intro c1
            exact trivial
          · refine zden_L (n := 3) (ρ := [x2, x1, 0]) rfl ?_
            show (x2 < x1) → ∀ x3 : Int, x3 = zd 0 1 x1 x2 → ∀ x4 : Int, x4 = η 13 (Int.toNat x3) → zok 0 x4 → ∀ η1 : zE, η1 = zup η 13 (Int.toNat x2) x4 → ∀ x5 : Int, x5 = zd 0 1 x2 1 → (iCn_copies_13 xs η0) 0 [x1, x5] η1 ∧ (fun (_ : Nat) (_ : List Int) (_ : zE) => (0 : Nat)) 0 [x1, x5] η1 < 1
            intro c1 x3 e3 x4 e4 r4 η1 eη1 x5 e5
            exact ⟨trivial, Nat.zero_lt_one⟩
        · exact fun _ h => nomatch h
      )⟩, (fun _ h => nomatch h)⟩))
def zPn_copies_14 : zPq := ([], [])
def zOn_copies_14 : zPo := (((.ofNat (nat_lit 0)), (.ofNat (nat_lit 0))), [], [])
def zMn_copies_14 : List zCe := [(nat_lit 14, nat_lit 0)]
def pPn_copies_14 : List Int → zE → Prop := fun _ _ => True
def pQn_copies_14 : List Int → zE → Int → zE → Prop := fun _ _ _ _ => True
def pCn_copies_14 : Nat → List Int → zE → Prop := fun c => match c with
  | _ => fun _ _ => True
def qCn_copies_14 : Nat → List Int → zE → Int → zE → Prop := fun c => match c with
  | _ => fun _ _ _ _ => True
def iCn_copies_14 : List Int → zE → Nat → List Int → zE → Prop := fun xs η0 c => match c with
  | 0 => fun ys η => True
  | _ => fun _ _ => True
def zVn_copies_14 : List zIv := [(nat_lit 0, ([((.ofNat (nat_lit 4)), (.ofNat (nat_lit 4))), ((.ofNat (nat_lit 0)), (.ofNat (nat_lit 4)))], []), ((.ofNat (nat_lit 4)), [((.negSucc (nat_lit 0)), nat_lit 0, nat_lit 1, nat_lit 0)]))]
def zUn_copies_14 : List zCu := [(nat_lit 2, nat_lit 0, [(nat_lit 0, (.inr (.inr (.inl (nat_lit 14))))), (nat_lit 1, (.inl (nat_lit 1, (.ofNat (nat_lit 0))))), (nat_lit 2, (.inl (nat_lit 2, (.ofNat (nat_lit 0)))))], [])]
def zDn_copies_14 : List (List zK) := []
def zEn_copies_14 : List (List zK) := [[(nat_lit 12, nat_lit 0, [(nat_lit 0, (.ofNat (nat_lit 4))), (nat_lit 0, (.ofNat (nat_lit 0)))])]]
def zFn_copies_14 : List (List zK) := []
def zDn_copies_14_0 : List (List zK) := [[(nat_lit 7, nat_lit 0, [(nat_lit 3, (.ofNat (nat_lit 0))), (nat_lit 0, (.ofNat (nat_lit 8)))]), (nat_lit 0, nat_lit 1, [(nat_lit 1, (.ofNat (nat_lit 0))), (nat_lit 2, (.ofNat (nat_lit 0)))]), (nat_lit 6, nat_lit 2, [(nat_lit 2, (.ofNat (nat_lit 0))), (nat_lit 1, (.ofNat (nat_lit 0)))])],
  [(nat_lit 7, nat_lit 0, [(nat_lit 2, (.ofNat (nat_lit 0))), (nat_lit 0, (.ofNat (nat_lit 8)))]), (nat_lit 4, nat_lit 0, [(nat_lit 14, (.ofNat (nat_lit 0))), (nat_lit 3, (.ofNat (nat_lit 0)))]), (nat_lit 0, nat_lit 1, [(nat_lit 1, (.ofNat (nat_lit 0))), (nat_lit 2, (.ofNat (nat_lit 0)))]), (nat_lit 6, nat_lit 2, [(nat_lit 2, (.ofNat (nat_lit 0))), (nat_lit 1, (.ofNat (nat_lit 0)))])]]
def zEn_copies_14_0 : List (List zK) := [[(nat_lit 11, nat_lit 0, [(nat_lit 0, (.ofNat (nat_lit 0)))]), (nat_lit 6, nat_lit 3, [(nat_lit 2, (.ofNat (nat_lit 0))), (nat_lit 1, (.ofNat (nat_lit 0)))])],
  [(nat_lit 10, nat_lit 0, [(nat_lit 1, (.ofNat (nat_lit 0))), (nat_lit 5, (.ofNat (nat_lit 0)))]), (nat_lit 0, nat_lit 1, [(nat_lit 2, (.ofNat (nat_lit 0))), (nat_lit 0, (.ofNat (nat_lit 1)))]), (nat_lit 5, nat_lit 0, [(nat_lit 14, (.ofNat (nat_lit 0))), (nat_lit 2, (.ofNat (nat_lit 0))), (nat_lit 4, (.ofNat (nat_lit 0)))]), (nat_lit 4, nat_lit 0, [(nat_lit 14, (.ofNat (nat_lit 0))), (nat_lit 3, (.ofNat (nat_lit 0)))]), (nat_lit 0, nat_lit 1, [(nat_lit 1, (.ofNat (nat_lit 0))), (nat_lit 2, (.ofNat (nat_lit 0)))]), (nat_lit 6, nat_lit 2, [(nat_lit 2, (.ofNat (nat_lit 0))), (nat_lit 1, (.ofNat (nat_lit 0)))])]]
def zFn_copies_14_0 : List (List zK) := []
set_option maxHeartbeats 8000000 in
theorem zn_copies_14 {ro : Nat → List Int32} : zMet pr_P pr_K pr_df ro (sm_X0 1 6) 0 129 tm_n [(.inr (.inr (.inl (nat_lit 14)))), (.inl (nat_lit 0, (.ofNat (nat_lit 4))))] 0 [] [] (fun xs η => sP wl_n zTr zPn_copies_14 xs η ∧ pPn_copies_14 xs η) (fun xs η y η' => sQ wl_n zTr zOn_copies_14 zMn_copies_14 xs η y η' ∧ pQn_copies_14 xs η y η') :=
  zmet_alt (zmea_gen (mi := (nat_lit 2, nat_lit 0, nat_lit 8, nat_lit 3, nat_lit 0, tX8_copies)) (cd := []) (cu := zUn_copies_14) (cs := []) (iv := zVn_copies_14) (po := [zOn_copies_14]) (pr := zPn_copies_14) (mods := zMn_copies_14) (D7 := zDn_copies_14) (D0 := zEn_copies_14) (Dm := zFn_copies_14) (f0 := 7) pCn_copies_14 qCn_copies_14 iCn_copies_14 pPn_copies_14 (fun xs η _ y η' => pQn_copies_14 xs η y η') zX_low pr_mtR rfl (fun _ h => nomatch h) (by decide +kernel) (by decide +kernel) (by decide +kernel)
    (by
      intro xs η hr hl hp hpp
      match xs, hl, hp, hpp with
      | [], _, hp, hpp =>
        refine List.forall_mem_cons.mpr ⟨?_, fun _ h => nomatch h⟩
        · refine zden_L (n := 1) (ρ := [0]) rfl ?_
          show (iCn_copies_14 [] η) 0 [4, 0] η
          
          exact trivial
      )
    (fun _ _ _ _ _ _ _ h => nomatch h)
    (List.forall_mem_cons.mpr ⟨⟨zDn_copies_14_0, zEn_copies_14_0, zFn_copies_14_0, 18, by decide +kernel, (by
      intro xs η0 hlx hp hpp ys η hr hl hI hig
      match ys, hl, hI, hig with
      | [x1, x2], _, hI, hig =>
        refine ⟨?_, ?_⟩
        · refine List.forall_mem_cons.mpr ⟨?_, List.forall_mem_cons.mpr ⟨?_, fun _ h => nomatch h⟩⟩
          · refine zden_L (n := 3) (ρ := [x2, x1, 0]) rfl ?_
            show (x1 ≤ x2) → (fun (_ : Nat) (y : Int) (η' : zE) => pQn_copies_14 xs η0 y η') 0 0 η
            intro c1
            exact trivial
          · refine zden_L (n := 3) (ρ := [x2, x1, 0]) rfl ?_
            show (x2 < x1) → ∀ x3 : Int, x3 = zd 0 1 x1 x2 → ∀ x4 : Int, x4 = η 14 (Int.toNat x3) → zok 0 x4 → ∀ η1 : zE, η1 = zup η 14 (Int.toNat x2) x4 → ∀ x5 : Int, x5 = zd 0 1 x2 1 → (iCn_copies_14 xs η0) 0 [x1, x5] η1 ∧ (fun (_ : Nat) (_ : List Int) (_ : zE) => (0 : Nat)) 0 [x1, x5] η1 < 1
            intro c1 x3 e3 x4 e4 r4 η1 eη1 x5 e5
            exact ⟨trivial, Nat.zero_lt_one⟩
        · exact fun _ h => nomatch h
      )⟩, (fun _ h => nomatch h)⟩))
def zPn_copies_15 : zPq := ([], [])
def zOn_copies_15 : zPo := (((.ofNat (nat_lit 0)), (.ofNat (nat_lit 0))), [], [])
def zMn_copies_15 : List zCe := [(nat_lit 15, nat_lit 0)]
def pPn_copies_15 : List Int → zE → Prop := fun _ _ => True
def pQn_copies_15 : List Int → zE → Int → zE → Prop := fun _ _ _ _ => True
def pCn_copies_15 : Nat → List Int → zE → Prop := fun c => match c with
  | _ => fun _ _ => True
def qCn_copies_15 : Nat → List Int → zE → Int → zE → Prop := fun c => match c with
  | _ => fun _ _ _ _ => True
def iCn_copies_15 : List Int → zE → Nat → List Int → zE → Prop := fun xs η0 c => match c with
  | 0 => fun ys η => True
  | _ => fun _ _ => True
def zVn_copies_15 : List zIv := [(nat_lit 0, ([((.ofNat (nat_lit 4)), (.ofNat (nat_lit 4))), ((.ofNat (nat_lit 0)), (.ofNat (nat_lit 4)))], []), ((.ofNat (nat_lit 4)), [((.negSucc (nat_lit 0)), nat_lit 0, nat_lit 1, nat_lit 0)]))]
def zUn_copies_15 : List zCu := [(nat_lit 2, nat_lit 0, [(nat_lit 0, (.inr (.inr (.inl (nat_lit 15))))), (nat_lit 1, (.inl (nat_lit 1, (.ofNat (nat_lit 0))))), (nat_lit 2, (.inl (nat_lit 2, (.ofNat (nat_lit 0)))))], [])]
def zDn_copies_15 : List (List zK) := []
def zEn_copies_15 : List (List zK) := [[(nat_lit 12, nat_lit 0, [(nat_lit 0, (.ofNat (nat_lit 4))), (nat_lit 0, (.ofNat (nat_lit 0)))])]]
def zFn_copies_15 : List (List zK) := []
def zDn_copies_15_0 : List (List zK) := [[(nat_lit 7, nat_lit 0, [(nat_lit 3, (.ofNat (nat_lit 0))), (nat_lit 0, (.ofNat (nat_lit 8)))]), (nat_lit 0, nat_lit 1, [(nat_lit 1, (.ofNat (nat_lit 0))), (nat_lit 2, (.ofNat (nat_lit 0)))]), (nat_lit 6, nat_lit 2, [(nat_lit 2, (.ofNat (nat_lit 0))), (nat_lit 1, (.ofNat (nat_lit 0)))])],
  [(nat_lit 7, nat_lit 0, [(nat_lit 2, (.ofNat (nat_lit 0))), (nat_lit 0, (.ofNat (nat_lit 8)))]), (nat_lit 4, nat_lit 0, [(nat_lit 15, (.ofNat (nat_lit 0))), (nat_lit 3, (.ofNat (nat_lit 0)))]), (nat_lit 0, nat_lit 1, [(nat_lit 1, (.ofNat (nat_lit 0))), (nat_lit 2, (.ofNat (nat_lit 0)))]), (nat_lit 6, nat_lit 2, [(nat_lit 2, (.ofNat (nat_lit 0))), (nat_lit 1, (.ofNat (nat_lit 0)))])]]
def zEn_copies_15_0 : List (List zK) := [[(nat_lit 11, nat_lit 0, [(nat_lit 0, (.ofNat (nat_lit 0)))]), (nat_lit 6, nat_lit 3, [(nat_lit 2, (.ofNat (nat_lit 0))), (nat_lit 1, (.ofNat (nat_lit 0)))])],
  [(nat_lit 10, nat_lit 0, [(nat_lit 1, (.ofNat (nat_lit 0))), (nat_lit 5, (.ofNat (nat_lit 0)))]), (nat_lit 0, nat_lit 1, [(nat_lit 2, (.ofNat (nat_lit 0))), (nat_lit 0, (.ofNat (nat_lit 1)))]), (nat_lit 5, nat_lit 0, [(nat_lit 15, (.ofNat (nat_lit 0))), (nat_lit 2, (.ofNat (nat_lit 0))), (nat_lit 4, (.ofNat (nat_lit 0)))]), (nat_lit 4, nat_lit 0, [(nat_lit 15, (.ofNat (nat_lit 0))), (nat_lit 3, (.ofNat (nat_lit 0)))]), (nat_lit 0, nat_lit 1, [(nat_lit 1, (.ofNat (nat_lit 0))), (nat_lit 2, (.ofNat (nat_lit 0)))]), (nat_lit 6, nat_lit 2, [(nat_lit 2, (.ofNat (nat_lit 0))), (nat_lit 1, (.ofNat (nat_lit 0)))])]]
def zFn_copies_15_0 : List (List zK) := []
set_option maxHeartbeats 8000000 in
theorem zn_copies_15 {ro : Nat → List Int32} : zMet pr_P pr_K pr_df ro (sm_X0 1 6) 0 129 tm_n [(.inr (.inr (.inl (nat_lit 15)))), (.inl (nat_lit 0, (.ofNat (nat_lit 4))))] 0 [] [] (fun xs η => sP wl_n zTr zPn_copies_15 xs η ∧ pPn_copies_15 xs η) (fun xs η y η' => sQ wl_n zTr zOn_copies_15 zMn_copies_15 xs η y η' ∧ pQn_copies_15 xs η y η') :=
  zmet_alt (zmea_gen (mi := (nat_lit 2, nat_lit 0, nat_lit 8, nat_lit 3, nat_lit 0, tX8_copies)) (cd := []) (cu := zUn_copies_15) (cs := []) (iv := zVn_copies_15) (po := [zOn_copies_15]) (pr := zPn_copies_15) (mods := zMn_copies_15) (D7 := zDn_copies_15) (D0 := zEn_copies_15) (Dm := zFn_copies_15) (f0 := 7) pCn_copies_15 qCn_copies_15 iCn_copies_15 pPn_copies_15 (fun xs η _ y η' => pQn_copies_15 xs η y η') zX_low pr_mtR rfl (fun _ h => nomatch h) (by decide +kernel) (by decide +kernel) (by decide +kernel)
    (by
      intro xs η hr hl hp hpp
      match xs, hl, hp, hpp with
      | [], _, hp, hpp =>
        refine List.forall_mem_cons.mpr ⟨?_, fun _ h => nomatch h⟩
        · refine zden_L (n := 1) (ρ := [0]) rfl ?_
          show (iCn_copies_15 [] η) 0 [4, 0] η
          
          exact trivial
      )
    (fun _ _ _ _ _ _ _ h => nomatch h)
    (List.forall_mem_cons.mpr ⟨⟨zDn_copies_15_0, zEn_copies_15_0, zFn_copies_15_0, 18, by decide +kernel, (by
      intro xs η0 hlx hp hpp ys η hr hl hI hig
      match ys, hl, hI, hig with
      | [x1, x2], _, hI, hig =>
        refine ⟨?_, ?_⟩
        · refine List.forall_mem_cons.mpr ⟨?_, List.forall_mem_cons.mpr ⟨?_, fun _ h => nomatch h⟩⟩
          · refine zden_L (n := 3) (ρ := [x2, x1, 0]) rfl ?_
            show (x1 ≤ x2) → (fun (_ : Nat) (y : Int) (η' : zE) => pQn_copies_15 xs η0 y η') 0 0 η
            intro c1
            exact trivial
          · refine zden_L (n := 3) (ρ := [x2, x1, 0]) rfl ?_
            show (x2 < x1) → ∀ x3 : Int, x3 = zd 0 1 x1 x2 → ∀ x4 : Int, x4 = η 15 (Int.toNat x3) → zok 0 x4 → ∀ η1 : zE, η1 = zup η 15 (Int.toNat x2) x4 → ∀ x5 : Int, x5 = zd 0 1 x2 1 → (iCn_copies_15 xs η0) 0 [x1, x5] η1 ∧ (fun (_ : Nat) (_ : List Int) (_ : zE) => (0 : Nat)) 0 [x1, x5] η1 < 1
            intro c1 x3 e3 x4 e4 r4 η1 eη1 x5 e5
            exact ⟨trivial, Nat.zero_lt_one⟩
        · exact fun _ h => nomatch h
      )⟩, (fun _ h => nomatch h)⟩))
def zPn_copies_5 : zPq := ([], [])
def zOn_copies_5 : zPo := (((.ofNat (nat_lit 0)), (.ofNat (nat_lit 0))), [], [])
def zMn_copies_5 : List zCe := [(nat_lit 5, nat_lit 0)]
def pPn_copies_5 : List Int → zE → Prop := fun _ _ => True
def pQn_copies_5 : List Int → zE → Int → zE → Prop := fun _ _ _ _ => True
def pCn_copies_5 : Nat → List Int → zE → Prop := fun c => match c with
  | _ => fun _ _ => True
def qCn_copies_5 : Nat → List Int → zE → Int → zE → Prop := fun c => match c with
  | _ => fun _ _ _ _ => True
def iCn_copies_5 : List Int → zE → Nat → List Int → zE → Prop := fun xs η0 c => match c with
  | 0 => fun ys η => True
  | _ => fun _ _ => True
def zVn_copies_5 : List zIv := [(nat_lit 0, ([((.ofNat (nat_lit 12)), (.ofNat (nat_lit 12))), ((.ofNat (nat_lit 0)), (.ofNat (nat_lit 12)))], []), ((.ofNat (nat_lit 12)), [((.negSucc (nat_lit 0)), nat_lit 0, nat_lit 1, nat_lit 0)]))]
def zUn_copies_5 : List zCu := [(nat_lit 2, nat_lit 0, [(nat_lit 0, (.inr (.inr (.inl (nat_lit 5))))), (nat_lit 1, (.inl (nat_lit 1, (.ofNat (nat_lit 0))))), (nat_lit 2, (.inl (nat_lit 2, (.ofNat (nat_lit 0)))))], [])]
def zDn_copies_5 : List (List zK) := []
def zEn_copies_5 : List (List zK) := [[(nat_lit 12, nat_lit 0, [(nat_lit 0, (.ofNat (nat_lit 12))), (nat_lit 0, (.ofNat (nat_lit 0)))])]]
def zFn_copies_5 : List (List zK) := []
def zDn_copies_5_0 : List (List zK) := [[(nat_lit 7, nat_lit 0, [(nat_lit 3, (.ofNat (nat_lit 0))), (nat_lit 0, (.ofNat (nat_lit 24)))]), (nat_lit 0, nat_lit 1, [(nat_lit 1, (.ofNat (nat_lit 0))), (nat_lit 2, (.ofNat (nat_lit 0)))]), (nat_lit 6, nat_lit 2, [(nat_lit 2, (.ofNat (nat_lit 0))), (nat_lit 1, (.ofNat (nat_lit 0)))])],
  [(nat_lit 7, nat_lit 0, [(nat_lit 2, (.ofNat (nat_lit 0))), (nat_lit 0, (.ofNat (nat_lit 24)))]), (nat_lit 4, nat_lit 0, [(nat_lit 5, (.ofNat (nat_lit 0))), (nat_lit 3, (.ofNat (nat_lit 0)))]), (nat_lit 0, nat_lit 1, [(nat_lit 1, (.ofNat (nat_lit 0))), (nat_lit 2, (.ofNat (nat_lit 0)))]), (nat_lit 6, nat_lit 2, [(nat_lit 2, (.ofNat (nat_lit 0))), (nat_lit 1, (.ofNat (nat_lit 0)))])]]
def zEn_copies_5_0 : List (List zK) := [[(nat_lit 11, nat_lit 0, [(nat_lit 0, (.ofNat (nat_lit 0)))]), (nat_lit 6, nat_lit 3, [(nat_lit 2, (.ofNat (nat_lit 0))), (nat_lit 1, (.ofNat (nat_lit 0)))])],
  [(nat_lit 10, nat_lit 0, [(nat_lit 1, (.ofNat (nat_lit 0))), (nat_lit 5, (.ofNat (nat_lit 0)))]), (nat_lit 0, nat_lit 1, [(nat_lit 2, (.ofNat (nat_lit 0))), (nat_lit 0, (.ofNat (nat_lit 1)))]), (nat_lit 5, nat_lit 0, [(nat_lit 5, (.ofNat (nat_lit 0))), (nat_lit 2, (.ofNat (nat_lit 0))), (nat_lit 4, (.ofNat (nat_lit 0)))]), (nat_lit 4, nat_lit 0, [(nat_lit 5, (.ofNat (nat_lit 0))), (nat_lit 3, (.ofNat (nat_lit 0)))]), (nat_lit 0, nat_lit 1, [(nat_lit 1, (.ofNat (nat_lit 0))), (nat_lit 2, (.ofNat (nat_lit 0)))]), (nat_lit 6, nat_lit 2, [(nat_lit 2, (.ofNat (nat_lit 0))), (nat_lit 1, (.ofNat (nat_lit 0)))])]]
def zFn_copies_5_0 : List (List zK) := []
set_option maxHeartbeats 8000000 in
theorem zn_copies_5 {ro : Nat → List Int32} : zMet pr_P pr_K pr_df ro (sm_X0 1 6) 0 129 tm_n [(.inr (.inr (.inl (nat_lit 5)))), (.inl (nat_lit 0, (.ofNat (nat_lit 12))))] 0 [] [] (fun xs η => sP wl_n zTr zPn_copies_5 xs η ∧ pPn_copies_5 xs η) (fun xs η y η' => sQ wl_n zTr zOn_copies_5 zMn_copies_5 xs η y η' ∧ pQn_copies_5 xs η y η') :=
  zmet_alt (zmea_gen (mi := (nat_lit 2, nat_lit 0, nat_lit 8, nat_lit 3, nat_lit 0, tX8_copies)) (cd := []) (cu := zUn_copies_5) (cs := []) (iv := zVn_copies_5) (po := [zOn_copies_5]) (pr := zPn_copies_5) (mods := zMn_copies_5) (D7 := zDn_copies_5) (D0 := zEn_copies_5) (Dm := zFn_copies_5) (f0 := 7) pCn_copies_5 qCn_copies_5 iCn_copies_5 pPn_copies_5 (fun xs η _ y η' => pQn_copies_5 xs η y η') zX_low pr_mtR rfl (fun _ h => nomatch h) (by decide +kernel) (by decide +kernel) (by decide +kernel)
    (by
      intro xs η hr hl hp hpp
      match xs, hl, hp, hpp with
      | [], _, hp, hpp =>
        refine List.forall_mem_cons.mpr ⟨?_, fun _ h => nomatch h⟩
        · refine zden_L (n := 1) (ρ := [0]) rfl ?_
          show (iCn_copies_5 [] η) 0 [12, 0] η
          
          exact trivial
      )
    (fun _ _ _ _ _ _ _ h => nomatch h)
    (List.forall_mem_cons.mpr ⟨⟨zDn_copies_5_0, zEn_copies_5_0, zFn_copies_5_0, 18, by decide +kernel, (by
      intro xs η0 hlx hp hpp ys η hr hl hI hig
      match ys, hl, hI, hig with
      | [x1, x2], _, hI, hig =>
        refine ⟨?_, ?_⟩
        · refine List.forall_mem_cons.mpr ⟨?_, List.forall_mem_cons.mpr ⟨?_, fun _ h => nomatch h⟩⟩
          · refine zden_L (n := 3) (ρ := [x2, x1, 0]) rfl ?_
            show (x1 ≤ x2) → (fun (_ : Nat) (y : Int) (η' : zE) => pQn_copies_5 xs η0 y η') 0 0 η
            intro c1
            exact trivial
          · refine zden_L (n := 3) (ρ := [x2, x1, 0]) rfl ?_
            show (x2 < x1) → ∀ x3 : Int, x3 = zd 0 1 x1 x2 → ∀ x4 : Int, x4 = η 5 (Int.toNat x3) → zok 0 x4 → ∀ η1 : zE, η1 = zup η 5 (Int.toNat x2) x4 → ∀ x5 : Int, x5 = zd 0 1 x2 1 → (iCn_copies_5 xs η0) 0 [x1, x5] η1 ∧ (fun (_ : Nat) (_ : List Int) (_ : zE) => (0 : Nat)) 0 [x1, x5] η1 < 1
            intro c1 x3 e3 x4 e4 r4 η1 eη1 x5 e5
            exact ⟨trivial, Nat.zero_lt_one⟩
        · exact fun _ h => nomatch h
      )⟩, (fun _ h => nomatch h)⟩))
def zPn_copies_6 : zPq := ([], [])
def zOn_copies_6 : zPo := (((.ofNat (nat_lit 0)), (.ofNat (nat_lit 0))), [], [])
def zMn_copies_6 : List zCe := [(nat_lit 6, nat_lit 0)]
def pPn_copies_6 : List Int → zE → Prop := fun _ _ => True
def pQn_copies_6 : List Int → zE → Int → zE → Prop := fun _ _ _ _ => True
def pCn_copies_6 : Nat → List Int → zE → Prop := fun c => match c with
  | _ => fun _ _ => True
def qCn_copies_6 : Nat → List Int → zE → Int → zE → Prop := fun c => match c with
  | _ => fun _ _ _ _ => True
def iCn_copies_6 : List Int → zE → Nat → List Int → zE → Prop := fun xs η0 c => match c with
  | 0 => fun ys η => True
  | _ => fun _ _ => True
def zVn_copies_6 : List zIv := [(nat_lit 0, ([((.ofNat (nat_lit 12)), (.ofNat (nat_lit 12))), ((.ofNat (nat_lit 0)), (.ofNat (nat_lit 12)))], []), ((.ofNat (nat_lit 12)), [((.negSucc (nat_lit 0)), nat_lit 0, nat_lit 1, nat_lit 0)]))]
def zUn_copies_6 : List zCu := [(nat_lit 2, nat_lit 0, [(nat_lit 0, (.inr (.inr (.inl (nat_lit 6))))), (nat_lit 1, (.inl (nat_lit 1, (.ofNat (nat_lit 0))))), (nat_lit 2, (.inl (nat_lit 2, (.ofNat (nat_lit 0)))))], [])]
def zDn_copies_6 : List (List zK) := []
def zEn_copies_6 : List (List zK) := [[(nat_lit 12, nat_lit 0, [(nat_lit 0, (.ofNat (nat_lit 12))), (nat_lit 0, (.ofNat (nat_lit 0)))])]]
def zFn_copies_6 : List (List zK) := []
def zDn_copies_6_0 : List (List zK) := [[(nat_lit 7, nat_lit 0, [(nat_lit 3, (.ofNat (nat_lit 0))), (nat_lit 0, (.ofNat (nat_lit 24)))]), (nat_lit 0, nat_lit 1, [(nat_lit 1, (.ofNat (nat_lit 0))), (nat_lit 2, (.ofNat (nat_lit 0)))]), (nat_lit 6, nat_lit 2, [(nat_lit 2, (.ofNat (nat_lit 0))), (nat_lit 1, (.ofNat (nat_lit 0)))])],
  [(nat_lit 7, nat_lit 0, [(nat_lit 2, (.ofNat (nat_lit 0))), (nat_lit 0, (.ofNat (nat_lit 24)))]), (nat_lit 4, nat_lit 0, [(nat_lit 6, (.ofNat (nat_lit 0))), (nat_lit 3, (.ofNat (nat_lit 0)))]), (nat_lit 0, nat_lit 1, [(nat_lit 1, (.ofNat (nat_lit 0))), (nat_lit 2, (.ofNat (nat_lit 0)))]), (nat_lit 6, nat_lit 2, [(nat_lit 2, (.ofNat (nat_lit 0))), (nat_lit 1, (.ofNat (nat_lit 0)))])]]
def zEn_copies_6_0 : List (List zK) := [[(nat_lit 11, nat_lit 0, [(nat_lit 0, (.ofNat (nat_lit 0)))]), (nat_lit 6, nat_lit 3, [(nat_lit 2, (.ofNat (nat_lit 0))), (nat_lit 1, (.ofNat (nat_lit 0)))])],
  [(nat_lit 10, nat_lit 0, [(nat_lit 1, (.ofNat (nat_lit 0))), (nat_lit 5, (.ofNat (nat_lit 0)))]), (nat_lit 0, nat_lit 1, [(nat_lit 2, (.ofNat (nat_lit 0))), (nat_lit 0, (.ofNat (nat_lit 1)))]), (nat_lit 5, nat_lit 0, [(nat_lit 6, (.ofNat (nat_lit 0))), (nat_lit 2, (.ofNat (nat_lit 0))), (nat_lit 4, (.ofNat (nat_lit 0)))]), (nat_lit 4, nat_lit 0, [(nat_lit 6, (.ofNat (nat_lit 0))), (nat_lit 3, (.ofNat (nat_lit 0)))]), (nat_lit 0, nat_lit 1, [(nat_lit 1, (.ofNat (nat_lit 0))), (nat_lit 2, (.ofNat (nat_lit 0)))]), (nat_lit 6, nat_lit 2, [(nat_lit 2, (.ofNat (nat_lit 0))), (nat_lit 1, (.ofNat (nat_lit 0)))])]]
def zFn_copies_6_0 : List (List zK) := []
set_option maxHeartbeats 8000000 in
theorem zn_copies_6 {ro : Nat → List Int32} : zMet pr_P pr_K pr_df ro (sm_X0 1 6) 0 129 tm_n [(.inr (.inr (.inl (nat_lit 6)))), (.inl (nat_lit 0, (.ofNat (nat_lit 12))))] 0 [] [] (fun xs η => sP wl_n zTr zPn_copies_6 xs η ∧ pPn_copies_6 xs η) (fun xs η y η' => sQ wl_n zTr zOn_copies_6 zMn_copies_6 xs η y η' ∧ pQn_copies_6 xs η y η') :=
  zmet_alt (zmea_gen (mi := (nat_lit 2, nat_lit 0, nat_lit 8, nat_lit 3, nat_lit 0, tX8_copies)) (cd := []) (cu := zUn_copies_6) (cs := []) (iv := zVn_copies_6) (po := [zOn_copies_6]) (pr := zPn_copies_6) (mods := zMn_copies_6) (D7 := zDn_copies_6) (D0 := zEn_copies_6) (Dm := zFn_copies_6) (f0 := 7) pCn_copies_6 qCn_copies_6 iCn_copies_6 pPn_copies_6 (fun xs η _ y η' => pQn_copies_6 xs η y η') zX_low pr_mtR rfl (fun _ h => nomatch h) (by decide +kernel) (by decide +kernel) (by decide +kernel)
    (by
      intro xs η hr hl hp hpp
      match xs, hl, hp, hpp with
      | [], _, hp, hpp =>
        refine List.forall_mem_cons.mpr ⟨?_, fun _ h => nomatch h⟩
        · refine zden_L (n := 1) (ρ := [0]) rfl ?_
          show (iCn_copies_6 [] η) 0 [12, 0] η
          
          exact trivial
      )
    (fun _ _ _ _ _ _ _ h => nomatch h)
    (List.forall_mem_cons.mpr ⟨⟨zDn_copies_6_0, zEn_copies_6_0, zFn_copies_6_0, 18, by decide +kernel, (by
      intro xs η0 hlx hp hpp ys η hr hl hI hig
      match ys, hl, hI, hig with
      | [x1, x2], _, hI, hig =>
        refine ⟨?_, ?_⟩
        · refine List.forall_mem_cons.mpr ⟨?_, List.forall_mem_cons.mpr ⟨?_, fun _ h => nomatch h⟩⟩
          · refine zden_L (n := 3) (ρ := [x2, x1, 0]) rfl ?_
            show (x1 ≤ x2) → (fun (_ : Nat) (y : Int) (η' : zE) => pQn_copies_6 xs η0 y η') 0 0 η
            intro c1
            exact trivial
          · refine zden_L (n := 3) (ρ := [x2, x1, 0]) rfl ?_
            show (x2 < x1) → ∀ x3 : Int, x3 = zd 0 1 x1 x2 → ∀ x4 : Int, x4 = η 6 (Int.toNat x3) → zok 0 x4 → ∀ η1 : zE, η1 = zup η 6 (Int.toNat x2) x4 → ∀ x5 : Int, x5 = zd 0 1 x2 1 → (iCn_copies_6 xs η0) 0 [x1, x5] η1 ∧ (fun (_ : Nat) (_ : List Int) (_ : zE) => (0 : Nat)) 0 [x1, x5] η1 < 1
            intro c1 x3 e3 x4 e4 r4 η1 eη1 x5 e5
            exact ⟨trivial, Nat.zero_lt_one⟩
        · exact fun _ h => nomatch h
      )⟩, (fun _ h => nomatch h)⟩))
def zPn_copies_17 : zPq := ([], [])
def zOn_copies_17 : zPo := (((.ofNat (nat_lit 0)), (.ofNat (nat_lit 0))), [], [])
def zMn_copies_17 : List zCe := [(nat_lit 17, nat_lit 0)]
def pPn_copies_17 : List Int → zE → Prop := fun _ _ => True
def pQn_copies_17 : List Int → zE → Int → zE → Prop := fun _ _ _ _ => True
def pCn_copies_17 : Nat → List Int → zE → Prop := fun c => match c with
  | _ => fun _ _ => True
def qCn_copies_17 : Nat → List Int → zE → Int → zE → Prop := fun c => match c with
  | _ => fun _ _ _ _ => True
def iCn_copies_17 : List Int → zE → Nat → List Int → zE → Prop := fun xs η0 c => match c with
  | 0 => fun ys η => True
  | _ => fun _ _ => True
def zVn_copies_17 : List zIv := [(nat_lit 0, ([((.ofNat (nat_lit 3)), (.ofNat (nat_lit 3))), ((.ofNat (nat_lit 0)), (.ofNat (nat_lit 3)))], []), ((.ofNat (nat_lit 3)), [((.negSucc (nat_lit 0)), nat_lit 0, nat_lit 1, nat_lit 0)]))]
def zUn_copies_17 : List zCu := [(nat_lit 2, nat_lit 0, [(nat_lit 0, (.inr (.inr (.inl (nat_lit 17))))), (nat_lit 1, (.inl (nat_lit 1, (.ofNat (nat_lit 0))))), (nat_lit 2, (.inl (nat_lit 2, (.ofNat (nat_lit 0)))))], [])]
def zDn_copies_17 : List (List zK) := []
def zEn_copies_17 : List (List zK) := [[(nat_lit 12, nat_lit 0, [(nat_lit 0, (.ofNat (nat_lit 3))), (nat_lit 0, (.ofNat (nat_lit 0)))])]]
def zFn_copies_17 : List (List zK) := []
def zDn_copies_17_0 : List (List zK) := [[(nat_lit 7, nat_lit 0, [(nat_lit 3, (.ofNat (nat_lit 0))), (nat_lit 0, (.ofNat (nat_lit 6)))]), (nat_lit 0, nat_lit 1, [(nat_lit 1, (.ofNat (nat_lit 0))), (nat_lit 2, (.ofNat (nat_lit 0)))]), (nat_lit 6, nat_lit 2, [(nat_lit 2, (.ofNat (nat_lit 0))), (nat_lit 1, (.ofNat (nat_lit 0)))])],
  [(nat_lit 7, nat_lit 0, [(nat_lit 2, (.ofNat (nat_lit 0))), (nat_lit 0, (.ofNat (nat_lit 6)))]), (nat_lit 4, nat_lit 0, [(nat_lit 17, (.ofNat (nat_lit 0))), (nat_lit 3, (.ofNat (nat_lit 0)))]), (nat_lit 0, nat_lit 1, [(nat_lit 1, (.ofNat (nat_lit 0))), (nat_lit 2, (.ofNat (nat_lit 0)))]), (nat_lit 6, nat_lit 2, [(nat_lit 2, (.ofNat (nat_lit 0))), (nat_lit 1, (.ofNat (nat_lit 0)))])]]
def zEn_copies_17_0 : List (List zK) := [[(nat_lit 11, nat_lit 0, [(nat_lit 0, (.ofNat (nat_lit 0)))]), (nat_lit 6, nat_lit 3, [(nat_lit 2, (.ofNat (nat_lit 0))), (nat_lit 1, (.ofNat (nat_lit 0)))])],
  [(nat_lit 10, nat_lit 0, [(nat_lit 1, (.ofNat (nat_lit 0))), (nat_lit 5, (.ofNat (nat_lit 0)))]), (nat_lit 0, nat_lit 1, [(nat_lit 2, (.ofNat (nat_lit 0))), (nat_lit 0, (.ofNat (nat_lit 1)))]), (nat_lit 5, nat_lit 0, [(nat_lit 17, (.ofNat (nat_lit 0))), (nat_lit 2, (.ofNat (nat_lit 0))), (nat_lit 4, (.ofNat (nat_lit 0)))]), (nat_lit 4, nat_lit 0, [(nat_lit 17, (.ofNat (nat_lit 0))), (nat_lit 3, (.ofNat (nat_lit 0)))]), (nat_lit 0, nat_lit 1, [(nat_lit 1, (.ofNat (nat_lit 0))), (nat_lit 2, (.ofNat (nat_lit 0)))]), (nat_lit 6, nat_lit 2, [(nat_lit 2, (.ofNat (nat_lit 0))), (nat_lit 1, (.ofNat (nat_lit 0)))])]]
def zFn_copies_17_0 : List (List zK) := []
set_option maxHeartbeats 8000000 in
theorem zn_copies_17 {ro : Nat → List Int32} : zMet pr_P pr_K pr_df ro (sm_X0 1 6) 0 129 tm_n [(.inr (.inr (.inl (nat_lit 17)))), (.inl (nat_lit 0, (.ofNat (nat_lit 3))))] 0 [] [] (fun xs η => sP wl_n zTr zPn_copies_17 xs η ∧ pPn_copies_17 xs η) (fun xs η y η' => sQ wl_n zTr zOn_copies_17 zMn_copies_17 xs η y η' ∧ pQn_copies_17 xs η y η') :=
  zmet_alt (zmea_gen (mi := (nat_lit 2, nat_lit 0, nat_lit 8, nat_lit 3, nat_lit 0, tX8_copies)) (cd := []) (cu := zUn_copies_17) (cs := []) (iv := zVn_copies_17) (po := [zOn_copies_17]) (pr := zPn_copies_17) (mods := zMn_copies_17) (D7 := zDn_copies_17) (D0 := zEn_copies_17) (Dm := zFn_copies_17) (f0 := 7) pCn_copies_17 qCn_copies_17 iCn_copies_17 pPn_copies_17 (fun xs η _ y η' => pQn_copies_17 xs η y η') zX_low pr_mtR rfl (fun _ h => nomatch h) (by decide +kernel) (by decide +kernel) (by decide +kernel)
    (by
      intro xs η hr hl hp hpp
      match xs, hl, hp, hpp with
      | [], _, hp, hpp =>
        refine List.forall_mem_cons.mpr ⟨?_, fun _ h => nomatch h⟩
        · refine zden_L (n := 1) (ρ := [0]) rfl ?_
          show (iCn_copies_17 [] η) 0 [3, 0] η
          
          exact trivial
      )
    (fun _ _ _ _ _ _ _ h => nomatch h)
    (List.forall_mem_cons.mpr ⟨⟨zDn_copies_17_0, zEn_copies_17_0, zFn_copies_17_0, 18, by decide +kernel, (by
      intro xs η0 hlx hp hpp ys η hr hl hI hig
      match ys, hl, hI, hig with
      | [x1, x2], _, hI, hig =>
        refine ⟨?_, ?_⟩
        · refine List.forall_mem_cons.mpr ⟨?_, List.forall_mem_cons.mpr ⟨?_, fun _ h => nomatch h⟩⟩
          · refine zden_L (n := 3) (ρ := [x2, x1, 0]) rfl ?_
            show (x1 ≤ x2) → (fun (_ : Nat) (y : Int) (η' : zE) => pQn_copies_17 xs η0 y η') 0 0 η
            intro c1
            exact trivial
          · refine zden_L (n := 3) (ρ := [x2, x1, 0]) rfl ?_
            show (x2 < x1) → ∀ x3 : Int, x3 = zd 0 1 x1 x2 → ∀ x4 : Int, x4 = η 17 (Int.toNat x3) → zok 0 x4 → ∀ η1 : zE, η1 = zup η 17 (Int.toNat x2) x4 → ∀ x5 : Int, x5 = zd 0 1 x2 1 → (iCn_copies_17 xs η0) 0 [x1, x5] η1 ∧ (fun (_ : Nat) (_ : List Int) (_ : zE) => (0 : Nat)) 0 [x1, x5] η1 < 1
            intro c1 x3 e3 x4 e4 r4 η1 eη1 x5 e5
            exact ⟨trivial, Nat.zero_lt_one⟩
        · exact fun _ h => nomatch h
      )⟩, (fun _ h => nomatch h)⟩))
def zPn_copies_18 : zPq := ([], [])
def zOn_copies_18 : zPo := (((.ofNat (nat_lit 0)), (.ofNat (nat_lit 0))), [], [])
def zMn_copies_18 : List zCe := [(nat_lit 18, nat_lit 0)]
def pPn_copies_18 : List Int → zE → Prop := fun _ _ => True
def pQn_copies_18 : List Int → zE → Int → zE → Prop := fun _ η _ η' => (∀ j : Nat, j < 3 → η' 18 j = η 18 (3 + j)) ∧ (∀ j : Nat, 3 ≤ j → η' 18 j = η 18 j)
def pCn_copies_18 : Nat → List Int → zE → Prop := fun c => match c with
  | _ => fun _ _ => True
def qCn_copies_18 : Nat → List Int → zE → Int → zE → Prop := fun c => match c with
  | _ => fun _ _ _ _ => True
def iCn_copies_18 : List Int → zE → Nat → List Int → zE → Prop := fun xs η0 c => match c with
  | 0 => fun ys η => (∀ j : Nat, (j : Int) < ys.getD 1 0 → η 18 j = η0 18 (3 + j)) ∧ (∀ j : Nat, ys.getD 1 0 ≤ (j : Int) → η 18 j = η0 18 j)
  | _ => fun _ _ => True
def zVn_copies_18 : List zIv := [(nat_lit 0, ([((.ofNat (nat_lit 3)), (.ofNat (nat_lit 3))), ((.ofNat (nat_lit 0)), (.ofNat (nat_lit 3)))], []), ((.ofNat (nat_lit 3)), [((.negSucc (nat_lit 0)), nat_lit 0, nat_lit 1, nat_lit 0)]))]
def zUn_copies_18 : List zCu := [(nat_lit 2, nat_lit 0, [(nat_lit 0, (.inr (.inr (.inl (nat_lit 18))))), (nat_lit 1, (.inl (nat_lit 1, (.ofNat (nat_lit 0))))), (nat_lit 2, (.inl (nat_lit 2, (.ofNat (nat_lit 0)))))], [])]
def zDn_copies_18 : List (List zK) := []
def zEn_copies_18 : List (List zK) := [[(nat_lit 12, nat_lit 0, [(nat_lit 0, (.ofNat (nat_lit 3))), (nat_lit 0, (.ofNat (nat_lit 0)))])]]
def zFn_copies_18 : List (List zK) := []
def zDn_copies_18_0 : List (List zK) := [[(nat_lit 7, nat_lit 0, [(nat_lit 3, (.ofNat (nat_lit 0))), (nat_lit 0, (.ofNat (nat_lit 6)))]), (nat_lit 0, nat_lit 1, [(nat_lit 1, (.ofNat (nat_lit 0))), (nat_lit 2, (.ofNat (nat_lit 0)))]), (nat_lit 6, nat_lit 2, [(nat_lit 2, (.ofNat (nat_lit 0))), (nat_lit 1, (.ofNat (nat_lit 0)))])],
  [(nat_lit 7, nat_lit 0, [(nat_lit 2, (.ofNat (nat_lit 0))), (nat_lit 0, (.ofNat (nat_lit 6)))]), (nat_lit 4, nat_lit 0, [(nat_lit 18, (.ofNat (nat_lit 0))), (nat_lit 3, (.ofNat (nat_lit 0)))]), (nat_lit 0, nat_lit 1, [(nat_lit 1, (.ofNat (nat_lit 0))), (nat_lit 2, (.ofNat (nat_lit 0)))]), (nat_lit 6, nat_lit 2, [(nat_lit 2, (.ofNat (nat_lit 0))), (nat_lit 1, (.ofNat (nat_lit 0)))])]]
def zEn_copies_18_0 : List (List zK) := [[(nat_lit 11, nat_lit 0, [(nat_lit 0, (.ofNat (nat_lit 0)))]), (nat_lit 6, nat_lit 3, [(nat_lit 2, (.ofNat (nat_lit 0))), (nat_lit 1, (.ofNat (nat_lit 0)))])],
  [(nat_lit 10, nat_lit 0, [(nat_lit 1, (.ofNat (nat_lit 0))), (nat_lit 5, (.ofNat (nat_lit 0)))]), (nat_lit 0, nat_lit 1, [(nat_lit 2, (.ofNat (nat_lit 0))), (nat_lit 0, (.ofNat (nat_lit 1)))]), (nat_lit 5, nat_lit 0, [(nat_lit 18, (.ofNat (nat_lit 0))), (nat_lit 2, (.ofNat (nat_lit 0))), (nat_lit 4, (.ofNat (nat_lit 0)))]), (nat_lit 4, nat_lit 0, [(nat_lit 18, (.ofNat (nat_lit 0))), (nat_lit 3, (.ofNat (nat_lit 0)))]), (nat_lit 0, nat_lit 1, [(nat_lit 1, (.ofNat (nat_lit 0))), (nat_lit 2, (.ofNat (nat_lit 0)))]), (nat_lit 6, nat_lit 2, [(nat_lit 2, (.ofNat (nat_lit 0))), (nat_lit 1, (.ofNat (nat_lit 0)))])]]
def zFn_copies_18_0 : List (List zK) := []
set_option maxHeartbeats 8000000 in
theorem zn_copies_18_o0 {ro : Nat → List Int32} (xs : List Int) (η0 : zE) (hp : sP wl_n zTr zPn_copies_18 xs η0) (hpp : pPn_copies_18 xs η0) (x1 x2 : Int) (η : zE) (hI : zsI wl_n zTr zVn_copies_18 zMn_copies_18 η0 0 [x1, x2] η) (hig : iCn_copies_18 xs η0 0 [x1, x2] η) : (x1 ≤ x2) → (fun (_ : Nat) (y : Int) (η' : zE) => pQn_copies_18 xs η0 y η') 0 0 η := by
  intro c1
  have bx1 : (3 : Int) ≤ x1 ∧ x1 ≤ 3 := hI.1.2.1.1
  have bx2 : (0 : Int) ≤ x2 ∧ x2 ≤ 3 := hI.1.2.1.2.1
  have bn : x1 = 3 := by omega
  have u1 : ∀ j : Nat, (j : Int) < x2 → η 18 j = η0 18 (3 + j) := hig.1
  have u2 : ∀ j : Nat, x2 ≤ (j : Int) → η 18 j = η0 18 j := hig.2
  exact ⟨fun j hj => u1 j (by omega), fun j hj => u2 j (by omega)⟩
set_option maxHeartbeats 8000000 in
theorem zn_copies_18_o1 {ro : Nat → List Int32} (xs : List Int) (η0 : zE) (hp : sP wl_n zTr zPn_copies_18 xs η0) (hpp : pPn_copies_18 xs η0) (x1 x2 : Int) (η : zE) (hI : zsI wl_n zTr zVn_copies_18 zMn_copies_18 η0 0 [x1, x2] η) (hig : iCn_copies_18 xs η0 0 [x1, x2] η) : (x2 < x1) → ∀ x3 : Int, x3 = zd 0 1 x1 x2 → ∀ x4 : Int, x4 = η 18 (Int.toNat x3) → zok 0 x4 → ∀ η1 : zE, η1 = zup η 18 (Int.toNat x2) x4 → ∀ x5 : Int, x5 = zd 0 1 x2 1 → (iCn_copies_18 xs η0) 0 [x1, x5] η1 ∧ (fun (_ : Nat) (_ : List Int) (_ : zE) => (0 : Nat)) 0 [x1, x5] η1 < 1 := by
  intro c1 x3 e3 x4 e4 r4 η1 eη1 x5 e5
  replace e3 := zEq_i e3
  replace e5 := zEq_i e5
  have bx1 : (3 : Int) ≤ x1 ∧ x1 ≤ 3 := hI.1.2.1.1
  have bx2 : (0 : Int) ≤ x2 ∧ x2 ≤ 3 := hI.1.2.1.2.1
  first
  | replace e3 : x3 = x1 + x2 := zd_a2 (zEq_o e3) (by clear e3; exact ⟨by omega, by omega⟩)
  | clear e3
  replace e4 : x4 = η 18 (Int.toNat x3) := e4
  replace r4 : -2147483648 ≤ x4 ∧ x4 ≤ 2147483647 := r4
  try have rb4 : (0 : Int) ≤ η 18 (Int.toNat x3) ∧ η 18 (Int.toNat x3) ≤ 64 := wf_ok (a := 0) (b := 5) (z := (0, 64)) hI.1.1 (by decide +kernel) (Nat.zero_le _) (by omega)
  first
  | replace e5 : x5 = x2 + 1 := zd_a2 (zEq_o e5) (by clear e5; exact ⟨by omega, by omega⟩)
  | clear e5
  have bn : x1 = 3 := by omega
  have u1 : ∀ j : Nat, (j : Int) < x2 → η 18 j = η0 18 (3 + j) := hig.1
  have u2 : ∀ j : Nat, x2 ≤ (j : Int) → η 18 j = η0 18 j := hig.2
  refine ⟨⟨fun j hj => ?_, fun j hj => ?_⟩, Nat.zero_lt_one⟩
  · have hj : (j : Int) < x5 := hj
    by_cases q : j = Int.toNat x2
    · rw [eη1, q, zup_eq, e4, show Int.toNat x3 = 3 + Int.toNat x2 by omega]
      exact u2 _ (by omega)
    · rw [eη1, zup_ne (fun _ e => q e)]
      exact u1 j (by omega)
  · have hj : x5 ≤ (j : Int) := hj
    rw [eη1, zup_ne (fun _ e => by omega)]
    exact u2 j (by omega)
set_option maxHeartbeats 8000000 in
theorem zn_copies_18 {ro : Nat → List Int32} : zMet pr_P pr_K pr_df ro (sm_X0 1 6) 0 129 tm_n [(.inr (.inr (.inl (nat_lit 18)))), (.inl (nat_lit 0, (.ofNat (nat_lit 3))))] 0 [] [] (fun xs η => sP wl_n zTr zPn_copies_18 xs η ∧ pPn_copies_18 xs η) (fun xs η y η' => sQ wl_n zTr zOn_copies_18 zMn_copies_18 xs η y η' ∧ pQn_copies_18 xs η y η') :=
  zmet_alt (zmea_gen (mi := (nat_lit 2, nat_lit 0, nat_lit 8, nat_lit 3, nat_lit 0, tX8_copies)) (cd := []) (cu := zUn_copies_18) (cs := []) (iv := zVn_copies_18) (po := [zOn_copies_18]) (pr := zPn_copies_18) (mods := zMn_copies_18) (D7 := zDn_copies_18) (D0 := zEn_copies_18) (Dm := zFn_copies_18) (f0 := 7) pCn_copies_18 qCn_copies_18 iCn_copies_18 pPn_copies_18 (fun xs η _ y η' => pQn_copies_18 xs η y η') zX_low pr_mtR rfl (fun _ h => nomatch h) (by decide +kernel) (by decide +kernel) (by decide +kernel)
    (by
      intro xs η hr hl hp hpp
      match xs, hl, hp, hpp with
      | [], _, hp, hpp =>
        refine List.forall_mem_cons.mpr ⟨?_, fun _ h => nomatch h⟩
        · refine zden_L (n := 1) (ρ := [0]) rfl ?_
          show (iCn_copies_18 [] η) 0 [3, 0] η
          exact ⟨fun j hj => absurd (show (j : Int) < 0 from hj) (by omega), fun j _ => rfl⟩
      )
    (fun _ _ _ _ _ _ _ h => nomatch h)
    (List.forall_mem_cons.mpr ⟨⟨zDn_copies_18_0, zEn_copies_18_0, zFn_copies_18_0, 18, by decide +kernel, (by
      intro xs η0 hlx hp hpp ys η hr hl hI hig
      match ys, hl, hI, hig with
      | [x1, x2], _, hI, hig =>
        refine ⟨?_, ?_⟩
        · refine List.forall_mem_cons.mpr ⟨?_, List.forall_mem_cons.mpr ⟨?_, fun _ h => nomatch h⟩⟩
          · refine zden_L (n := 3) (ρ := [x2, x1, 0]) rfl ?_
            exact zn_copies_18_o0 (ro := ro) xs η0 hp hpp x1 x2 η hI hig
          · refine zden_L (n := 3) (ρ := [x2, x1, 0]) rfl ?_
            exact zn_copies_18_o1 (ro := ro) xs η0 hp hpp x1 x2 η hI hig
        · exact fun _ h => nomatch h
      )⟩, (fun _ h => nomatch h)⟩))
def zPn_copies_19 : zPq := ([], [])
def zOn_copies_19 : zPo := (((.ofNat (nat_lit 0)), (.ofNat (nat_lit 0))), [], [])
def zMn_copies_19 : List zCe := [(nat_lit 19, nat_lit 0)]
def pPn_copies_19 : List Int → zE → Prop := fun _ _ => True
def pQn_copies_19 : List Int → zE → Int → zE → Prop := fun _ η _ η' => (∀ j : Nat, j < 64 → η' 19 j = η 19 (64 + j)) ∧ (∀ j : Nat, 64 ≤ j → η' 19 j = η 19 j)
def pCn_copies_19 : Nat → List Int → zE → Prop := fun c => match c with
  | _ => fun _ _ => True
def qCn_copies_19 : Nat → List Int → zE → Int → zE → Prop := fun c => match c with
  | _ => fun _ _ _ _ => True
def iCn_copies_19 : List Int → zE → Nat → List Int → zE → Prop := fun xs η0 c => match c with
  | 0 => fun ys η => (∀ j : Nat, (j : Int) < ys.getD 1 0 → η 19 j = η0 19 (64 + j)) ∧ (∀ j : Nat, ys.getD 1 0 ≤ (j : Int) → η 19 j = η0 19 j)
  | _ => fun _ _ => True
def zVn_copies_19 : List zIv := [(nat_lit 0, ([((.ofNat (nat_lit 64)), (.ofNat (nat_lit 64))), ((.ofNat (nat_lit 0)), (.ofNat (nat_lit 64)))], []), ((.ofNat (nat_lit 64)), [((.negSucc (nat_lit 0)), nat_lit 0, nat_lit 1, nat_lit 0)]))]
def zUn_copies_19 : List zCu := [(nat_lit 2, nat_lit 0, [(nat_lit 0, (.inr (.inr (.inl (nat_lit 19))))), (nat_lit 1, (.inl (nat_lit 1, (.ofNat (nat_lit 0))))), (nat_lit 2, (.inl (nat_lit 2, (.ofNat (nat_lit 0)))))], [])]
def zDn_copies_19 : List (List zK) := []
def zEn_copies_19 : List (List zK) := [[(nat_lit 12, nat_lit 0, [(nat_lit 0, (.ofNat (nat_lit 64))), (nat_lit 0, (.ofNat (nat_lit 0)))])]]
def zFn_copies_19 : List (List zK) := []
def zDn_copies_19_0 : List (List zK) := [[(nat_lit 7, nat_lit 0, [(nat_lit 3, (.ofNat (nat_lit 0))), (nat_lit 0, (.ofNat (nat_lit 128)))]), (nat_lit 0, nat_lit 1, [(nat_lit 1, (.ofNat (nat_lit 0))), (nat_lit 2, (.ofNat (nat_lit 0)))]), (nat_lit 6, nat_lit 2, [(nat_lit 2, (.ofNat (nat_lit 0))), (nat_lit 1, (.ofNat (nat_lit 0)))])],
  [(nat_lit 7, nat_lit 0, [(nat_lit 2, (.ofNat (nat_lit 0))), (nat_lit 0, (.ofNat (nat_lit 128)))]), (nat_lit 4, nat_lit 0, [(nat_lit 19, (.ofNat (nat_lit 0))), (nat_lit 3, (.ofNat (nat_lit 0)))]), (nat_lit 0, nat_lit 1, [(nat_lit 1, (.ofNat (nat_lit 0))), (nat_lit 2, (.ofNat (nat_lit 0)))]), (nat_lit 6, nat_lit 2, [(nat_lit 2, (.ofNat (nat_lit 0))), (nat_lit 1, (.ofNat (nat_lit 0)))])]]
def zEn_copies_19_0 : List (List zK) := [[(nat_lit 11, nat_lit 0, [(nat_lit 0, (.ofNat (nat_lit 0)))]), (nat_lit 6, nat_lit 3, [(nat_lit 2, (.ofNat (nat_lit 0))), (nat_lit 1, (.ofNat (nat_lit 0)))])],
  [(nat_lit 10, nat_lit 0, [(nat_lit 1, (.ofNat (nat_lit 0))), (nat_lit 5, (.ofNat (nat_lit 0)))]), (nat_lit 0, nat_lit 1, [(nat_lit 2, (.ofNat (nat_lit 0))), (nat_lit 0, (.ofNat (nat_lit 1)))]), (nat_lit 5, nat_lit 0, [(nat_lit 19, (.ofNat (nat_lit 0))), (nat_lit 2, (.ofNat (nat_lit 0))), (nat_lit 4, (.ofNat (nat_lit 0)))]), (nat_lit 4, nat_lit 0, [(nat_lit 19, (.ofNat (nat_lit 0))), (nat_lit 3, (.ofNat (nat_lit 0)))]), (nat_lit 0, nat_lit 1, [(nat_lit 1, (.ofNat (nat_lit 0))), (nat_lit 2, (.ofNat (nat_lit 0)))]), (nat_lit 6, nat_lit 2, [(nat_lit 2, (.ofNat (nat_lit 0))), (nat_lit 1, (.ofNat (nat_lit 0)))])]]
def zFn_copies_19_0 : List (List zK) := []
set_option maxHeartbeats 8000000 in
theorem zn_copies_19_o0 {ro : Nat → List Int32} (xs : List Int) (η0 : zE) (hp : sP wl_n zTr zPn_copies_19 xs η0) (hpp : pPn_copies_19 xs η0) (x1 x2 : Int) (η : zE) (hI : zsI wl_n zTr zVn_copies_19 zMn_copies_19 η0 0 [x1, x2] η) (hig : iCn_copies_19 xs η0 0 [x1, x2] η) : (x1 ≤ x2) → (fun (_ : Nat) (y : Int) (η' : zE) => pQn_copies_19 xs η0 y η') 0 0 η := by
  intro c1
  have bx1 : (64 : Int) ≤ x1 ∧ x1 ≤ 64 := hI.1.2.1.1
  have bx2 : (0 : Int) ≤ x2 ∧ x2 ≤ 64 := hI.1.2.1.2.1
  have bn : x1 = 64 := by omega
  have u1 : ∀ j : Nat, (j : Int) < x2 → η 19 j = η0 19 (64 + j) := hig.1
  have u2 : ∀ j : Nat, x2 ≤ (j : Int) → η 19 j = η0 19 j := hig.2
  exact ⟨fun j hj => u1 j (by omega), fun j hj => u2 j (by omega)⟩
set_option maxHeartbeats 8000000 in
theorem zn_copies_19_o1 {ro : Nat → List Int32} (xs : List Int) (η0 : zE) (hp : sP wl_n zTr zPn_copies_19 xs η0) (hpp : pPn_copies_19 xs η0) (x1 x2 : Int) (η : zE) (hI : zsI wl_n zTr zVn_copies_19 zMn_copies_19 η0 0 [x1, x2] η) (hig : iCn_copies_19 xs η0 0 [x1, x2] η) : (x2 < x1) → ∀ x3 : Int, x3 = zd 0 1 x1 x2 → ∀ x4 : Int, x4 = η 19 (Int.toNat x3) → zok 0 x4 → ∀ η1 : zE, η1 = zup η 19 (Int.toNat x2) x4 → ∀ x5 : Int, x5 = zd 0 1 x2 1 → (iCn_copies_19 xs η0) 0 [x1, x5] η1 ∧ (fun (_ : Nat) (_ : List Int) (_ : zE) => (0 : Nat)) 0 [x1, x5] η1 < 1 := by
  intro c1 x3 e3 x4 e4 r4 η1 eη1 x5 e5
  replace e3 := zEq_i e3
  replace e5 := zEq_i e5
  have bx1 : (64 : Int) ≤ x1 ∧ x1 ≤ 64 := hI.1.2.1.1
  have bx2 : (0 : Int) ≤ x2 ∧ x2 ≤ 64 := hI.1.2.1.2.1
  first
  | replace e3 : x3 = x1 + x2 := zd_a2 (zEq_o e3) (by clear e3; exact ⟨by omega, by omega⟩)
  | clear e3
  replace e4 : x4 = η 19 (Int.toNat x3) := e4
  replace r4 : -2147483648 ≤ x4 ∧ x4 ≤ 2147483647 := r4
  first
  | replace e5 : x5 = x2 + 1 := zd_a2 (zEq_o e5) (by clear e5; exact ⟨by omega, by omega⟩)
  | clear e5
  have bn : x1 = 64 := by omega
  have u1 : ∀ j : Nat, (j : Int) < x2 → η 19 j = η0 19 (64 + j) := hig.1
  have u2 : ∀ j : Nat, x2 ≤ (j : Int) → η 19 j = η0 19 j := hig.2
  refine ⟨⟨fun j hj => ?_, fun j hj => ?_⟩, Nat.zero_lt_one⟩
  · have hj : (j : Int) < x5 := hj
    by_cases q : j = Int.toNat x2
    · rw [eη1, q, zup_eq, e4, show Int.toNat x3 = 64 + Int.toNat x2 by omega]
      exact u2 _ (by omega)
    · rw [eη1, zup_ne (fun _ e => q e)]
      exact u1 j (by omega)
  · have hj : x5 ≤ (j : Int) := hj
    rw [eη1, zup_ne (fun _ e => by omega)]
    exact u2 j (by omega)
set_option maxHeartbeats 8000000 in
theorem zn_copies_19 {ro : Nat → List Int32} : zMet pr_P pr_K pr_df ro (sm_X0 1 6) 0 129 tm_n [(.inr (.inr (.inl (nat_lit 19)))), (.inl (nat_lit 0, (.ofNat (nat_lit 64))))] 0 [] [] (fun xs η => sP wl_n zTr zPn_copies_19 xs η ∧ pPn_copies_19 xs η) (fun xs η y η' => sQ wl_n zTr zOn_copies_19 zMn_copies_19 xs η y η' ∧ pQn_copies_19 xs η y η') :=
  zmet_alt (zmea_gen (mi := (nat_lit 2, nat_lit 0, nat_lit 8, nat_lit 3, nat_lit 0, tX8_copies)) (cd := []) (cu := zUn_copies_19) (cs := []) (iv := zVn_copies_19) (po := [zOn_copies_19]) (pr := zPn_copies_19) (mods := zMn_copies_19) (D7 := zDn_copies_19) (D0 := zEn_copies_19) (Dm := zFn_copies_19) (f0 := 7) pCn_copies_19 qCn_copies_19 iCn_copies_19 pPn_copies_19 (fun xs η _ y η' => pQn_copies_19 xs η y η') zX_low pr_mtR rfl (fun _ h => nomatch h) (by decide +kernel) (by decide +kernel) (by decide +kernel)
    (by
      intro xs η hr hl hp hpp
      match xs, hl, hp, hpp with
      | [], _, hp, hpp =>
        refine List.forall_mem_cons.mpr ⟨?_, fun _ h => nomatch h⟩
        · refine zden_L (n := 1) (ρ := [0]) rfl ?_
          show (iCn_copies_19 [] η) 0 [64, 0] η
          exact ⟨fun j hj => absurd (show (j : Int) < 0 from hj) (by omega), fun j _ => rfl⟩
      )
    (fun _ _ _ _ _ _ _ h => nomatch h)
    (List.forall_mem_cons.mpr ⟨⟨zDn_copies_19_0, zEn_copies_19_0, zFn_copies_19_0, 18, by decide +kernel, (by
      intro xs η0 hlx hp hpp ys η hr hl hI hig
      match ys, hl, hI, hig with
      | [x1, x2], _, hI, hig =>
        refine ⟨?_, ?_⟩
        · refine List.forall_mem_cons.mpr ⟨?_, List.forall_mem_cons.mpr ⟨?_, fun _ h => nomatch h⟩⟩
          · refine zden_L (n := 3) (ρ := [x2, x1, 0]) rfl ?_
            exact zn_copies_19_o0 (ro := ro) xs η0 hp hpp x1 x2 η hI hig
          · refine zden_L (n := 3) (ρ := [x2, x1, 0]) rfl ?_
            exact zn_copies_19_o1 (ro := ro) xs η0 hp hpp x1 x2 η hI hig
        · exact fun _ h => nomatch h
      )⟩, (fun _ h => nomatch h)⟩))
def zPn_copies_20 : zPq := ([], [])
def zOn_copies_20 : zPo := (((.ofNat (nat_lit 0)), (.ofNat (nat_lit 0))), [], [])
def zMn_copies_20 : List zCe := [(nat_lit 20, nat_lit 0)]
def pPn_copies_20 : List Int → zE → Prop := fun _ _ => True
def pQn_copies_20 : List Int → zE → Int → zE → Prop := fun _ η _ η' => (∀ j : Nat, j < 64 → η' 20 j = η 20 (64 + j)) ∧ (∀ j : Nat, 64 ≤ j → η' 20 j = η 20 j)
def pCn_copies_20 : Nat → List Int → zE → Prop := fun c => match c with
  | _ => fun _ _ => True
def qCn_copies_20 : Nat → List Int → zE → Int → zE → Prop := fun c => match c with
  | _ => fun _ _ _ _ => True
def iCn_copies_20 : List Int → zE → Nat → List Int → zE → Prop := fun xs η0 c => match c with
  | 0 => fun ys η => (∀ j : Nat, (j : Int) < ys.getD 1 0 → η 20 j = η0 20 (64 + j)) ∧ (∀ j : Nat, ys.getD 1 0 ≤ (j : Int) → η 20 j = η0 20 j)
  | _ => fun _ _ => True
def zVn_copies_20 : List zIv := [(nat_lit 0, ([((.ofNat (nat_lit 64)), (.ofNat (nat_lit 64))), ((.ofNat (nat_lit 0)), (.ofNat (nat_lit 64)))], []), ((.ofNat (nat_lit 64)), [((.negSucc (nat_lit 0)), nat_lit 0, nat_lit 1, nat_lit 0)]))]
def zUn_copies_20 : List zCu := [(nat_lit 2, nat_lit 0, [(nat_lit 0, (.inr (.inr (.inl (nat_lit 20))))), (nat_lit 1, (.inl (nat_lit 1, (.ofNat (nat_lit 0))))), (nat_lit 2, (.inl (nat_lit 2, (.ofNat (nat_lit 0)))))], [])]
def zDn_copies_20 : List (List zK) := []
def zEn_copies_20 : List (List zK) := [[(nat_lit 12, nat_lit 0, [(nat_lit 0, (.ofNat (nat_lit 64))), (nat_lit 0, (.ofNat (nat_lit 0)))])]]
def zFn_copies_20 : List (List zK) := []
def zDn_copies_20_0 : List (List zK) := [[(nat_lit 7, nat_lit 0, [(nat_lit 3, (.ofNat (nat_lit 0))), (nat_lit 0, (.ofNat (nat_lit 128)))]), (nat_lit 0, nat_lit 1, [(nat_lit 1, (.ofNat (nat_lit 0))), (nat_lit 2, (.ofNat (nat_lit 0)))]), (nat_lit 6, nat_lit 2, [(nat_lit 2, (.ofNat (nat_lit 0))), (nat_lit 1, (.ofNat (nat_lit 0)))])],
  [(nat_lit 7, nat_lit 0, [(nat_lit 2, (.ofNat (nat_lit 0))), (nat_lit 0, (.ofNat (nat_lit 128)))]), (nat_lit 4, nat_lit 0, [(nat_lit 20, (.ofNat (nat_lit 0))), (nat_lit 3, (.ofNat (nat_lit 0)))]), (nat_lit 0, nat_lit 1, [(nat_lit 1, (.ofNat (nat_lit 0))), (nat_lit 2, (.ofNat (nat_lit 0)))]), (nat_lit 6, nat_lit 2, [(nat_lit 2, (.ofNat (nat_lit 0))), (nat_lit 1, (.ofNat (nat_lit 0)))])]]
def zEn_copies_20_0 : List (List zK) := [[(nat_lit 11, nat_lit 0, [(nat_lit 0, (.ofNat (nat_lit 0)))]), (nat_lit 6, nat_lit 3, [(nat_lit 2, (.ofNat (nat_lit 0))), (nat_lit 1, (.ofNat (nat_lit 0)))])],
  [(nat_lit 10, nat_lit 0, [(nat_lit 1, (.ofNat (nat_lit 0))), (nat_lit 5, (.ofNat (nat_lit 0)))]), (nat_lit 0, nat_lit 1, [(nat_lit 2, (.ofNat (nat_lit 0))), (nat_lit 0, (.ofNat (nat_lit 1)))]), (nat_lit 5, nat_lit 0, [(nat_lit 20, (.ofNat (nat_lit 0))), (nat_lit 2, (.ofNat (nat_lit 0))), (nat_lit 4, (.ofNat (nat_lit 0)))]), (nat_lit 4, nat_lit 0, [(nat_lit 20, (.ofNat (nat_lit 0))), (nat_lit 3, (.ofNat (nat_lit 0)))]), (nat_lit 0, nat_lit 1, [(nat_lit 1, (.ofNat (nat_lit 0))), (nat_lit 2, (.ofNat (nat_lit 0)))]), (nat_lit 6, nat_lit 2, [(nat_lit 2, (.ofNat (nat_lit 0))), (nat_lit 1, (.ofNat (nat_lit 0)))])]]
def zFn_copies_20_0 : List (List zK) := []
set_option maxHeartbeats 8000000 in
theorem zn_copies_20_o0 {ro : Nat → List Int32} (xs : List Int) (η0 : zE) (hp : sP wl_n zTr zPn_copies_20 xs η0) (hpp : pPn_copies_20 xs η0) (x1 x2 : Int) (η : zE) (hI : zsI wl_n zTr zVn_copies_20 zMn_copies_20 η0 0 [x1, x2] η) (hig : iCn_copies_20 xs η0 0 [x1, x2] η) : (x1 ≤ x2) → (fun (_ : Nat) (y : Int) (η' : zE) => pQn_copies_20 xs η0 y η') 0 0 η := by
  intro c1
  have bx1 : (64 : Int) ≤ x1 ∧ x1 ≤ 64 := hI.1.2.1.1
  have bx2 : (0 : Int) ≤ x2 ∧ x2 ≤ 64 := hI.1.2.1.2.1
  have bn : x1 = 64 := by omega
  have u1 : ∀ j : Nat, (j : Int) < x2 → η 20 j = η0 20 (64 + j) := hig.1
  have u2 : ∀ j : Nat, x2 ≤ (j : Int) → η 20 j = η0 20 j := hig.2
  exact ⟨fun j hj => u1 j (by omega), fun j hj => u2 j (by omega)⟩
set_option maxHeartbeats 8000000 in
theorem zn_copies_20_o1 {ro : Nat → List Int32} (xs : List Int) (η0 : zE) (hp : sP wl_n zTr zPn_copies_20 xs η0) (hpp : pPn_copies_20 xs η0) (x1 x2 : Int) (η : zE) (hI : zsI wl_n zTr zVn_copies_20 zMn_copies_20 η0 0 [x1, x2] η) (hig : iCn_copies_20 xs η0 0 [x1, x2] η) : (x2 < x1) → ∀ x3 : Int, x3 = zd 0 1 x1 x2 → ∀ x4 : Int, x4 = η 20 (Int.toNat x3) → zok 0 x4 → ∀ η1 : zE, η1 = zup η 20 (Int.toNat x2) x4 → ∀ x5 : Int, x5 = zd 0 1 x2 1 → (iCn_copies_20 xs η0) 0 [x1, x5] η1 ∧ (fun (_ : Nat) (_ : List Int) (_ : zE) => (0 : Nat)) 0 [x1, x5] η1 < 1 := by
  intro c1 x3 e3 x4 e4 r4 η1 eη1 x5 e5
  replace e3 := zEq_i e3
  replace e5 := zEq_i e5
  have bx1 : (64 : Int) ≤ x1 ∧ x1 ≤ 64 := hI.1.2.1.1
  have bx2 : (0 : Int) ≤ x2 ∧ x2 ≤ 64 := hI.1.2.1.2.1
  first
  | replace e3 : x3 = x1 + x2 := zd_a2 (zEq_o e3) (by clear e3; exact ⟨by omega, by omega⟩)
  | clear e3
  replace e4 : x4 = η 20 (Int.toNat x3) := e4
  replace r4 : -2147483648 ≤ x4 ∧ x4 ≤ 2147483647 := r4
  first
  | replace e5 : x5 = x2 + 1 := zd_a2 (zEq_o e5) (by clear e5; exact ⟨by omega, by omega⟩)
  | clear e5
  have bn : x1 = 64 := by omega
  have u1 : ∀ j : Nat, (j : Int) < x2 → η 20 j = η0 20 (64 + j) := hig.1
  have u2 : ∀ j : Nat, x2 ≤ (j : Int) → η 20 j = η0 20 j := hig.2
  refine ⟨⟨fun j hj => ?_, fun j hj => ?_⟩, Nat.zero_lt_one⟩
  · have hj : (j : Int) < x5 := hj
    by_cases q : j = Int.toNat x2
    · rw [eη1, q, zup_eq, e4, show Int.toNat x3 = 64 + Int.toNat x2 by omega]
      exact u2 _ (by omega)
    · rw [eη1, zup_ne (fun _ e => q e)]
      exact u1 j (by omega)
  · have hj : x5 ≤ (j : Int) := hj
    rw [eη1, zup_ne (fun _ e => by omega)]
    exact u2 j (by omega)
set_option maxHeartbeats 8000000 in
theorem zn_copies_20 {ro : Nat → List Int32} : zMet pr_P pr_K pr_df ro (sm_X0 1 6) 0 129 tm_n [(.inr (.inr (.inl (nat_lit 20)))), (.inl (nat_lit 0, (.ofNat (nat_lit 64))))] 0 [] [] (fun xs η => sP wl_n zTr zPn_copies_20 xs η ∧ pPn_copies_20 xs η) (fun xs η y η' => sQ wl_n zTr zOn_copies_20 zMn_copies_20 xs η y η' ∧ pQn_copies_20 xs η y η') :=
  zmet_alt (zmea_gen (mi := (nat_lit 2, nat_lit 0, nat_lit 8, nat_lit 3, nat_lit 0, tX8_copies)) (cd := []) (cu := zUn_copies_20) (cs := []) (iv := zVn_copies_20) (po := [zOn_copies_20]) (pr := zPn_copies_20) (mods := zMn_copies_20) (D7 := zDn_copies_20) (D0 := zEn_copies_20) (Dm := zFn_copies_20) (f0 := 7) pCn_copies_20 qCn_copies_20 iCn_copies_20 pPn_copies_20 (fun xs η _ y η' => pQn_copies_20 xs η y η') zX_low pr_mtR rfl (fun _ h => nomatch h) (by decide +kernel) (by decide +kernel) (by decide +kernel)
    (by
      intro xs η hr hl hp hpp
      match xs, hl, hp, hpp with
      | [], _, hp, hpp =>
        refine List.forall_mem_cons.mpr ⟨?_, fun _ h => nomatch h⟩
        · refine zden_L (n := 1) (ρ := [0]) rfl ?_
          show (iCn_copies_20 [] η) 0 [64, 0] η
          exact ⟨fun j hj => absurd (show (j : Int) < 0 from hj) (by omega), fun j _ => rfl⟩
      )
    (fun _ _ _ _ _ _ _ h => nomatch h)
    (List.forall_mem_cons.mpr ⟨⟨zDn_copies_20_0, zEn_copies_20_0, zFn_copies_20_0, 18, by decide +kernel, (by
      intro xs η0 hlx hp hpp ys η hr hl hI hig
      match ys, hl, hI, hig with
      | [x1, x2], _, hI, hig =>
        refine ⟨?_, ?_⟩
        · refine List.forall_mem_cons.mpr ⟨?_, List.forall_mem_cons.mpr ⟨?_, fun _ h => nomatch h⟩⟩
          · refine zden_L (n := 3) (ρ := [x2, x1, 0]) rfl ?_
            exact zn_copies_20_o0 (ro := ro) xs η0 hp hpp x1 x2 η hI hig
          · refine zden_L (n := 3) (ρ := [x2, x1, 0]) rfl ?_
            exact zn_copies_20_o1 (ro := ro) xs η0 hp hpp x1 x2 η hI hig
        · exact fun _ h => nomatch h
      )⟩, (fun _ h => nomatch h)⟩))
def zPn_copies_21 : zPq := ([], [])
def zOn_copies_21 : zPo := (((.ofNat (nat_lit 0)), (.ofNat (nat_lit 0))), [], [])
def zMn_copies_21 : List zCe := [(nat_lit 21, nat_lit 0)]
def pPn_copies_21 : List Int → zE → Prop := fun _ _ => True
def pQn_copies_21 : List Int → zE → Int → zE → Prop := fun _ η _ η' => (∀ j : Nat, j < 64 → η' 21 j = η 21 (64 + j)) ∧ (∀ j : Nat, 64 ≤ j → η' 21 j = η 21 j)
def pCn_copies_21 : Nat → List Int → zE → Prop := fun c => match c with
  | _ => fun _ _ => True
def qCn_copies_21 : Nat → List Int → zE → Int → zE → Prop := fun c => match c with
  | _ => fun _ _ _ _ => True
def iCn_copies_21 : List Int → zE → Nat → List Int → zE → Prop := fun xs η0 c => match c with
  | 0 => fun ys η => (∀ j : Nat, (j : Int) < ys.getD 1 0 → η 21 j = η0 21 (64 + j)) ∧ (∀ j : Nat, ys.getD 1 0 ≤ (j : Int) → η 21 j = η0 21 j)
  | _ => fun _ _ => True
def zVn_copies_21 : List zIv := [(nat_lit 0, ([((.ofNat (nat_lit 64)), (.ofNat (nat_lit 64))), ((.ofNat (nat_lit 0)), (.ofNat (nat_lit 64)))], []), ((.ofNat (nat_lit 64)), [((.negSucc (nat_lit 0)), nat_lit 0, nat_lit 1, nat_lit 0)]))]
def zUn_copies_21 : List zCu := [(nat_lit 2, nat_lit 0, [(nat_lit 0, (.inr (.inr (.inl (nat_lit 21))))), (nat_lit 1, (.inl (nat_lit 1, (.ofNat (nat_lit 0))))), (nat_lit 2, (.inl (nat_lit 2, (.ofNat (nat_lit 0)))))], [])]
def zDn_copies_21 : List (List zK) := []
def zEn_copies_21 : List (List zK) := [[(nat_lit 12, nat_lit 0, [(nat_lit 0, (.ofNat (nat_lit 64))), (nat_lit 0, (.ofNat (nat_lit 0)))])]]
def zFn_copies_21 : List (List zK) := []
def zDn_copies_21_0 : List (List zK) := [[(nat_lit 7, nat_lit 0, [(nat_lit 3, (.ofNat (nat_lit 0))), (nat_lit 0, (.ofNat (nat_lit 128)))]), (nat_lit 0, nat_lit 1, [(nat_lit 1, (.ofNat (nat_lit 0))), (nat_lit 2, (.ofNat (nat_lit 0)))]), (nat_lit 6, nat_lit 2, [(nat_lit 2, (.ofNat (nat_lit 0))), (nat_lit 1, (.ofNat (nat_lit 0)))])],
  [(nat_lit 7, nat_lit 0, [(nat_lit 2, (.ofNat (nat_lit 0))), (nat_lit 0, (.ofNat (nat_lit 128)))]), (nat_lit 4, nat_lit 0, [(nat_lit 21, (.ofNat (nat_lit 0))), (nat_lit 3, (.ofNat (nat_lit 0)))]), (nat_lit 0, nat_lit 1, [(nat_lit 1, (.ofNat (nat_lit 0))), (nat_lit 2, (.ofNat (nat_lit 0)))]), (nat_lit 6, nat_lit 2, [(nat_lit 2, (.ofNat (nat_lit 0))), (nat_lit 1, (.ofNat (nat_lit 0)))])]]
def zEn_copies_21_0 : List (List zK) := [[(nat_lit 11, nat_lit 0, [(nat_lit 0, (.ofNat (nat_lit 0)))]), (nat_lit 6, nat_lit 3, [(nat_lit 2, (.ofNat (nat_lit 0))), (nat_lit 1, (.ofNat (nat_lit 0)))])],
  [(nat_lit 10, nat_lit 0, [(nat_lit 1, (.ofNat (nat_lit 0))), (nat_lit 5, (.ofNat (nat_lit 0)))]), (nat_lit 0, nat_lit 1, [(nat_lit 2, (.ofNat (nat_lit 0))), (nat_lit 0, (.ofNat (nat_lit 1)))]), (nat_lit 5, nat_lit 0, [(nat_lit 21, (.ofNat (nat_lit 0))), (nat_lit 2, (.ofNat (nat_lit 0))), (nat_lit 4, (.ofNat (nat_lit 0)))]), (nat_lit 4, nat_lit 0, [(nat_lit 21, (.ofNat (nat_lit 0))), (nat_lit 3, (.ofNat (nat_lit 0)))]), (nat_lit 0, nat_lit 1, [(nat_lit 1, (.ofNat (nat_lit 0))), (nat_lit 2, (.ofNat (nat_lit 0)))]), (nat_lit 6, nat_lit 2, [(nat_lit 2, (.ofNat (nat_lit 0))), (nat_lit 1, (.ofNat (nat_lit 0)))])]]
def zFn_copies_21_0 : List (List zK) := []
set_option maxHeartbeats 8000000 in
theorem zn_copies_21_o0 {ro : Nat → List Int32} (xs : List Int) (η0 : zE) (hp : sP wl_n zTr zPn_copies_21 xs η0) (hpp : pPn_copies_21 xs η0) (x1 x2 : Int) (η : zE) (hI : zsI wl_n zTr zVn_copies_21 zMn_copies_21 η0 0 [x1, x2] η) (hig : iCn_copies_21 xs η0 0 [x1, x2] η) : (x1 ≤ x2) → (fun (_ : Nat) (y : Int) (η' : zE) => pQn_copies_21 xs η0 y η') 0 0 η := by
  intro c1
  have bx1 : (64 : Int) ≤ x1 ∧ x1 ≤ 64 := hI.1.2.1.1
  have bx2 : (0 : Int) ≤ x2 ∧ x2 ≤ 64 := hI.1.2.1.2.1
  have bn : x1 = 64 := by omega
  have u1 : ∀ j : Nat, (j : Int) < x2 → η 21 j = η0 21 (64 + j) := hig.1
  have u2 : ∀ j : Nat, x2 ≤ (j : Int) → η 21 j = η0 21 j := hig.2
  exact ⟨fun j hj => u1 j (by omega), fun j hj => u2 j (by omega)⟩
set_option maxHeartbeats 8000000 in
theorem zn_copies_21_o1 {ro : Nat → List Int32} (xs : List Int) (η0 : zE) (hp : sP wl_n zTr zPn_copies_21 xs η0) (hpp : pPn_copies_21 xs η0) (x1 x2 : Int) (η : zE) (hI : zsI wl_n zTr zVn_copies_21 zMn_copies_21 η0 0 [x1, x2] η) (hig : iCn_copies_21 xs η0 0 [x1, x2] η) : (x2 < x1) → ∀ x3 : Int, x3 = zd 0 1 x1 x2 → ∀ x4 : Int, x4 = η 21 (Int.toNat x3) → zok 0 x4 → ∀ η1 : zE, η1 = zup η 21 (Int.toNat x2) x4 → ∀ x5 : Int, x5 = zd 0 1 x2 1 → (iCn_copies_21 xs η0) 0 [x1, x5] η1 ∧ (fun (_ : Nat) (_ : List Int) (_ : zE) => (0 : Nat)) 0 [x1, x5] η1 < 1 := by
  intro c1 x3 e3 x4 e4 r4 η1 eη1 x5 e5
  replace e3 := zEq_i e3
  replace e5 := zEq_i e5
  have bx1 : (64 : Int) ≤ x1 ∧ x1 ≤ 64 := hI.1.2.1.1
  have bx2 : (0 : Int) ≤ x2 ∧ x2 ≤ 64 := hI.1.2.1.2.1
  first
  | replace e3 : x3 = x1 + x2 := zd_a2 (zEq_o e3) (by clear e3; exact ⟨by omega, by omega⟩)
  | clear e3
  replace e4 : x4 = η 21 (Int.toNat x3) := e4
  replace r4 : -2147483648 ≤ x4 ∧ x4 ≤ 2147483647 := r4
  first
  | replace e5 : x5 = x2 + 1 := zd_a2 (zEq_o e5) (by clear e5; exact ⟨by omega, by omega⟩)
  | clear e5
  have bn : x1 = 64 := by omega
  have u1 : ∀ j : Nat, (j : Int) < x2 → η 21 j = η0 21 (64 + j) := hig.1
  have u2 : ∀ j : Nat, x2 ≤ (j : Int) → η 21 j = η0 21 j := hig.2
  refine ⟨⟨fun j hj => ?_, fun j hj => ?_⟩, Nat.zero_lt_one⟩
  · have hj : (j : Int) < x5 := hj
    by_cases q : j = Int.toNat x2
    · rw [eη1, q, zup_eq, e4, show Int.toNat x3 = 64 + Int.toNat x2 by omega]
      exact u2 _ (by omega)
    · rw [eη1, zup_ne (fun _ e => q e)]
      exact u1 j (by omega)
  · have hj : x5 ≤ (j : Int) := hj
    rw [eη1, zup_ne (fun _ e => by omega)]
    exact u2 j (by omega)
set_option maxHeartbeats 8000000 in
theorem zn_copies_21 {ro : Nat → List Int32} : zMet pr_P pr_K pr_df ro (sm_X0 1 6) 0 129 tm_n [(.inr (.inr (.inl (nat_lit 21)))), (.inl (nat_lit 0, (.ofNat (nat_lit 64))))] 0 [] [] (fun xs η => sP wl_n zTr zPn_copies_21 xs η ∧ pPn_copies_21 xs η) (fun xs η y η' => sQ wl_n zTr zOn_copies_21 zMn_copies_21 xs η y η' ∧ pQn_copies_21 xs η y η') :=
  zmet_alt (zmea_gen (mi := (nat_lit 2, nat_lit 0, nat_lit 8, nat_lit 3, nat_lit 0, tX8_copies)) (cd := []) (cu := zUn_copies_21) (cs := []) (iv := zVn_copies_21) (po := [zOn_copies_21]) (pr := zPn_copies_21) (mods := zMn_copies_21) (D7 := zDn_copies_21) (D0 := zEn_copies_21) (Dm := zFn_copies_21) (f0 := 7) pCn_copies_21 qCn_copies_21 iCn_copies_21 pPn_copies_21 (fun xs η _ y η' => pQn_copies_21 xs η y η') zX_low pr_mtR rfl (fun _ h => nomatch h) (by decide +kernel) (by decide +kernel) (by decide +kernel)
    (by
      intro xs η hr hl hp hpp
      match xs, hl, hp, hpp with
      | [], _, hp, hpp =>
        refine List.forall_mem_cons.mpr ⟨?_, fun _ h => nomatch h⟩
        · refine zden_L (n := 1) (ρ := [0]) rfl ?_
          show (iCn_copies_21 [] η) 0 [64, 0] η
          exact ⟨fun j hj => absurd (show (j : Int) < 0 from hj) (by omega), fun j _ => rfl⟩
      )
    (fun _ _ _ _ _ _ _ h => nomatch h)
    (List.forall_mem_cons.mpr ⟨⟨zDn_copies_21_0, zEn_copies_21_0, zFn_copies_21_0, 18, by decide +kernel, (by
      intro xs η0 hlx hp hpp ys η hr hl hI hig
      match ys, hl, hI, hig with
      | [x1, x2], _, hI, hig =>
        refine ⟨?_, ?_⟩
        · refine List.forall_mem_cons.mpr ⟨?_, List.forall_mem_cons.mpr ⟨?_, fun _ h => nomatch h⟩⟩
          · refine zden_L (n := 3) (ρ := [x2, x1, 0]) rfl ?_
            exact zn_copies_21_o0 (ro := ro) xs η0 hp hpp x1 x2 η hI hig
          · refine zden_L (n := 3) (ρ := [x2, x1, 0]) rfl ?_
            exact zn_copies_21_o1 (ro := ro) xs η0 hp hpp x1 x2 η hI hig
        · exact fun _ h => nomatch h
      )⟩, (fun _ h => nomatch h)⟩))
def zPn_plainTried : zPq := ([], [])
def zOn_plainTried : zPo := (((.ofNat (nat_lit 0)), (.ofNat (nat_lit 0))), [], [])
def zMn_plainTried : List zCe := [(nat_lit 0, nat_lit 63), (nat_lit 0, nat_lit 64), (nat_lit 0, nat_lit 65), (nat_lit 0, nat_lit 66), (nat_lit 0, nat_lit 67), (nat_lit 0, nat_lit 68), (nat_lit 0, nat_lit 69), (nat_lit 0, nat_lit 70), (nat_lit 0, nat_lit 71)]
def pPn_plainTried : List Int → zE → Prop := fun _ _ => True
def pQn_plainTried : List Int → zE → Int → zE → Prop := fun _ _ _ _ => True
def pCn_plainTried : Nat → List Int → zE → Prop := fun c => match c with
  | _ => fun _ _ => True
def qCn_plainTried : Nat → List Int → zE → Int → zE → Prop := fun c => match c with
  | _ => fun _ _ _ _ => True
def iCn_plainTried : List Int → zE → Nat → List Int → zE → Prop := fun xs η0 c => match c with
  | _ => fun _ _ => True
def zVn_plainTried : List zIv := []
def zDn_plainTried : List (List zK) := [[(nat_lit 7, nat_lit 2, [(nat_lit 0, (.ofNat (nat_lit 0)))])],
  [(nat_lit 7, nat_lit 2, [(nat_lit 0, (.ofNat (nat_lit 0)))]), (nat_lit 5, nat_lit 1, [(nat_lit 0, (.ofNat (nat_lit 0))), (nat_lit 0, (.ofNat (nat_lit 62))), (nat_lit 0, (.ofNat (nat_lit 0)))])],
  [(nat_lit 7, nat_lit 2, [(nat_lit 0, (.ofNat (nat_lit 0)))]), (nat_lit 5, nat_lit 1, [(nat_lit 0, (.ofNat (nat_lit 0))), (nat_lit 0, (.ofNat (nat_lit 63))), (nat_lit 0, (.ofNat (nat_lit 0)))]), (nat_lit 5, nat_lit 1, [(nat_lit 0, (.ofNat (nat_lit 0))), (nat_lit 0, (.ofNat (nat_lit 62))), (nat_lit 0, (.ofNat (nat_lit 0)))])]]
def zEn_plainTried : List (List zK) := [[(nat_lit 11, nat_lit 0, [(nat_lit 0, (.ofNat (nat_lit 0)))]), (nat_lit 5, nat_lit 0, [(nat_lit 0, (.ofNat (nat_lit 0))), (nat_lit 0, (.ofNat (nat_lit 70))), (nat_lit 0, (.negSucc (nat_lit 0)))]), (nat_lit 5, nat_lit 0, [(nat_lit 0, (.ofNat (nat_lit 0))), (nat_lit 0, (.ofNat (nat_lit 69))), (nat_lit 0, (.ofNat (nat_lit 0)))]), (nat_lit 5, nat_lit 0, [(nat_lit 0, (.ofNat (nat_lit 0))), (nat_lit 0, (.ofNat (nat_lit 68))), (nat_lit 0, (.negSucc (nat_lit 0)))]), (nat_lit 5, nat_lit 0, [(nat_lit 0, (.ofNat (nat_lit 0))), (nat_lit 0, (.ofNat (nat_lit 67))), (nat_lit 0, (.ofNat (nat_lit 0)))]), (nat_lit 5, nat_lit 0, [(nat_lit 0, (.ofNat (nat_lit 0))), (nat_lit 0, (.ofNat (nat_lit 66))), (nat_lit 0, (.negSucc (nat_lit 0)))]), (nat_lit 5, nat_lit 0, [(nat_lit 0, (.ofNat (nat_lit 0))), (nat_lit 0, (.ofNat (nat_lit 65))), (nat_lit 0, (.negSucc (nat_lit 0)))]), (nat_lit 5, nat_lit 1, [(nat_lit 0, (.ofNat (nat_lit 0))), (nat_lit 0, (.ofNat (nat_lit 64))), (nat_lit 0, (.ofNat (nat_lit 0)))]), (nat_lit 5, nat_lit 1, [(nat_lit 0, (.ofNat (nat_lit 0))), (nat_lit 0, (.ofNat (nat_lit 63))), (nat_lit 0, (.ofNat (nat_lit 0)))]), (nat_lit 5, nat_lit 1, [(nat_lit 0, (.ofNat (nat_lit 0))), (nat_lit 0, (.ofNat (nat_lit 62))), (nat_lit 0, (.ofNat (nat_lit 0)))])]]
def zFn_plainTried : List (List zK) := []
set_option maxHeartbeats 8000000 in
theorem zn_plainTried {ro : Nat → List Int32} : zMet pr_P pr_K pr_df ro (sm_X0 1 6) 0 156 tm_n [(.inr (.inr (.inl (nat_lit 0))))] 0 [(nat_lit 0, nat_lit 0, nat_lit 1), (nat_lit 0, nat_lit 3, nat_lit 2), (nat_lit 0, nat_lit 20, nat_lit 3), (nat_lit 0, nat_lit 21, nat_lit 4), (nat_lit 0, nat_lit 22, nat_lit 5), (nat_lit 0, nat_lit 23, nat_lit 6), (nat_lit 0, nat_lit 24, nat_lit 7), (nat_lit 0, nat_lit 25, nat_lit 8), (nat_lit 0, nat_lit 26, nat_lit 9), (nat_lit 0, nat_lit 27, nat_lit 10), (nat_lit 0, nat_lit 28, nat_lit 11), (nat_lit 0, nat_lit 29, nat_lit 12), (nat_lit 0, nat_lit 30, nat_lit 13), (nat_lit 0, nat_lit 31, nat_lit 14), (nat_lit 0, nat_lit 32, nat_lit 15), (nat_lit 0, nat_lit 33, nat_lit 16), (nat_lit 0, nat_lit 34, nat_lit 17), (nat_lit 0, nat_lit 35, nat_lit 18), (nat_lit 0, nat_lit 36, nat_lit 19), (nat_lit 0, nat_lit 37, nat_lit 20), (nat_lit 0, nat_lit 38, nat_lit 21), (nat_lit 0, nat_lit 39, nat_lit 22), (nat_lit 0, nat_lit 40, nat_lit 23), (nat_lit 0, nat_lit 47, nat_lit 24), (nat_lit 0, nat_lit 48, nat_lit 25), (nat_lit 0, nat_lit 50, nat_lit 26), (nat_lit 0, nat_lit 51, nat_lit 27), (nat_lit 0, nat_lit 52, nat_lit 28), (nat_lit 0, nat_lit 53, nat_lit 29), (nat_lit 0, nat_lit 54, nat_lit 30), (nat_lit 0, nat_lit 55, nat_lit 31), (nat_lit 0, nat_lit 56, nat_lit 32), (nat_lit 0, nat_lit 57, nat_lit 33), (nat_lit 0, nat_lit 58, nat_lit 34), (nat_lit 0, nat_lit 59, nat_lit 35), (nat_lit 0, nat_lit 72, nat_lit 36), (nat_lit 0, nat_lit 73, nat_lit 37), (nat_lit 0, nat_lit 76, nat_lit 38), (nat_lit 0, nat_lit 77, nat_lit 39), (nat_lit 0, nat_lit 79, nat_lit 40), (nat_lit 0, nat_lit 81, nat_lit 41), (nat_lit 0, nat_lit 82, nat_lit 42)] [] (fun xs η => sP wl_n zTr zPn_plainTried xs η ∧ pPn_plainTried xs η) (fun xs η y η' => sQ wl_n zTr zOn_plainTried zMn_plainTried xs η y η' ∧ pQn_plainTried xs η y η') :=
  zmet_alt (zmea_gen (mi := (nat_lit 0, nat_lit 1, nat_lit 8, nat_lit 1, nat_lit 0, tX8_plainTried)) (cd := []) (cu := []) (cs := []) (iv := zVn_plainTried) (po := [zOn_plainTried]) (pr := zPn_plainTried) (mods := zMn_plainTried) (D7 := zDn_plainTried) (D0 := zEn_plainTried) (Dm := zFn_plainTried) (f0 := 32) pCn_plainTried qCn_plainTried iCn_plainTried pPn_plainTried (fun xs η _ y η' => pQn_plainTried xs η y η') zX_low pr_mtR rfl (fun _ h => nomatch h) (by decide +kernel) (by decide +kernel) (by decide +kernel)
    (by
      intro xs η hr hl hp hpp
      match xs, hl, hp, hpp with
      | [], _, hp, hpp =>
        refine List.forall_mem_cons.mpr ⟨?_, fun _ h => nomatch h⟩
        · refine zden_L (n := 1) (ρ := [0]) rfl ?_
          show ∀ η1 : zE, η1 = zup η 0 (Int.toNat 62) 0 → ∀ η2 : zE, η2 = zup η1 0 (Int.toNat 63) 0 → ∀ η3 : zE, η3 = zup η2 0 (Int.toNat 64) 0 → ∀ η4 : zE, η4 = zup η3 0 (Int.toNat 65) (-1) → ∀ η5 : zE, η5 = zup η4 0 (Int.toNat 66) (-1) → ∀ η6 : zE, η6 = zup η5 0 (Int.toNat 67) 0 → ∀ η7 : zE, η7 = zup η6 0 (Int.toNat 68) (-1) → ∀ η8 : zE, η8 = zup η7 0 (Int.toNat 69) 0 → ∀ η9 : zE, η9 = zup η8 0 (Int.toNat 70) (-1) → (fun (_ : Nat) (y : Int) (η' : zE) => pQn_plainTried [] η y η') 0 0 η9
          intro η1 eη1 η2 eη2 η3 eη3 η4 eη4 η5 eη5 η6 eη6 η7 eη7 η8 eη8 η9 eη9
          exact trivial
      )
    (fun _ _ _ _ _ _ _ h => nomatch h)
    (fun _ h => nomatch h))
def zPn_atFirst : zPq := ([], [])
def zOn_atFirst : zPo := (((.ofNat (nat_lit 0)), (.ofNat (nat_lit 0))), [], [])
def zMn_atFirst : List zCe := [(nat_lit 26, nat_lit 0), (nat_lit 27, nat_lit 0), (nat_lit 28, nat_lit 0), (nat_lit 29, nat_lit 0), (nat_lit 30, nat_lit 0), (nat_lit 31, nat_lit 0), (nat_lit 32, nat_lit 0), (nat_lit 33, nat_lit 0), (nat_lit 34, nat_lit 0), (nat_lit 35, nat_lit 0)]
def pPn_atFirst : List Int → zE → Prop := fun _ _ => True
def pQn_atFirst : List Int → zE → Int → zE → Prop := fun _ _ _ _ => True
def pCn_atFirst : Nat → List Int → zE → Prop := fun c => match c with
  | _ => fun _ _ => True
def qCn_atFirst : Nat → List Int → zE → Int → zE → Prop := fun c => match c with
  | _ => fun _ _ _ _ => True
def iCn_atFirst : List Int → zE → Nat → List Int → zE → Prop := fun xs η0 c => match c with
  | 0 => fun ys η => True
  | 1 => fun ys η => True
  | _ => fun _ _ => True
def zVn_atFirst : List zIv := [(nat_lit 0, ([((.ofNat (nat_lit 0)), (.ofNat (nat_lit 0))), ((.ofNat (nat_lit 0)), (.ofNat (nat_lit 12)))], []), ((.ofNat (nat_lit 50)), [((.negSucc (nat_lit 0)), nat_lit 0, nat_lit 1, nat_lit 0)])), (nat_lit 1, ([((.ofNat (nat_lit 0)), (.ofNat (nat_lit 0))), ((.ofNat (nat_lit 0)), (.ofNat (nat_lit 4)))], []), ((.ofNat (nat_lit 4)), [((.negSucc (nat_lit 0)), nat_lit 0, nat_lit 1, nat_lit 0)]))]
def zUn_atFirst : List zCu := [(nat_lit 68, nat_lit 0, [(nat_lit 0, (.inr (.inr (.inl (nat_lit 0))))), (nat_lit 1, (.inl (nat_lit 1, (.ofNat (nat_lit 0))))), (nat_lit 2, (.inl (nat_lit 2, (.ofNat (nat_lit 0)))))], []), (nat_lit 94, nat_lit 1, [(nat_lit 0, (.inr (.inr (.inl (nat_lit 0))))), (nat_lit 1, (.inl (nat_lit 1, (.ofNat (nat_lit 0))))), (nat_lit 2, (.inl (nat_lit 2, (.ofNat (nat_lit 0)))))], [])]
def zDn_atFirst : List (List zK) := [[(nat_lit 7, nat_lit 0, [(nat_lit 0, (.ofNat (nat_lit 0))), (nat_lit 0, (.ofNat (nat_lit 2)))]), (nat_lit 6, nat_lit 1, [(nat_lit 1, (.ofNat (nat_lit 0))), (nat_lit 0, (.ofNat (nat_lit 0)))]), (nat_lit 4, nat_lit 0, [(nat_lit 0, (.ofNat (nat_lit 0))), (nat_lit 0, (.ofNat (nat_lit 12)))])],
  [(nat_lit 7, nat_lit 0, [(nat_lit 0, (.ofNat (nat_lit 0))), (nat_lit 0, (.ofNat (nat_lit 2)))]), (nat_lit 5, nat_lit 0, [(nat_lit 26, (.ofNat (nat_lit 0))), (nat_lit 0, (.ofNat (nat_lit 0))), (nat_lit 0, (.ofNat (nat_lit 0)))]), (nat_lit 6, nat_lit 1, [(nat_lit 1, (.ofNat (nat_lit 0))), (nat_lit 0, (.ofNat (nat_lit 0)))]), (nat_lit 4, nat_lit 0, [(nat_lit 0, (.ofNat (nat_lit 0))), (nat_lit 0, (.ofNat (nat_lit 12)))])],
  [(nat_lit 7, nat_lit 0, [(nat_lit 0, (.ofNat (nat_lit 0))), (nat_lit 0, (.ofNat (nat_lit 8)))]), (nat_lit 5, nat_lit 0, [(nat_lit 27, (.ofNat (nat_lit 0))), (nat_lit 0, (.ofNat (nat_lit 0))), (nat_lit 0, (.ofNat (nat_lit 0)))]), (nat_lit 5, nat_lit 0, [(nat_lit 26, (.ofNat (nat_lit 0))), (nat_lit 0, (.ofNat (nat_lit 0))), (nat_lit 0, (.ofNat (nat_lit 0)))]), (nat_lit 6, nat_lit 1, [(nat_lit 1, (.ofNat (nat_lit 0))), (nat_lit 0, (.ofNat (nat_lit 0)))]), (nat_lit 4, nat_lit 0, [(nat_lit 0, (.ofNat (nat_lit 0))), (nat_lit 0, (.ofNat (nat_lit 12)))])],
  [(nat_lit 7, nat_lit 0, [(nat_lit 0, (.ofNat (nat_lit 0))), (nat_lit 0, (.ofNat (nat_lit 2)))]), (nat_lit 4, nat_lit 0, [(nat_lit 4, (.ofNat (nat_lit 0))), (nat_lit 0, (.ofNat (nat_lit 0)))]), (nat_lit 5, nat_lit 0, [(nat_lit 27, (.ofNat (nat_lit 0))), (nat_lit 0, (.ofNat (nat_lit 0))), (nat_lit 0, (.ofNat (nat_lit 0)))]), (nat_lit 5, nat_lit 0, [(nat_lit 26, (.ofNat (nat_lit 0))), (nat_lit 0, (.ofNat (nat_lit 0))), (nat_lit 0, (.ofNat (nat_lit 0)))]), (nat_lit 6, nat_lit 1, [(nat_lit 1, (.ofNat (nat_lit 0))), (nat_lit 0, (.ofNat (nat_lit 0)))]), (nat_lit 4, nat_lit 0, [(nat_lit 0, (.ofNat (nat_lit 0))), (nat_lit 0, (.ofNat (nat_lit 12)))])],
  [(nat_lit 7, nat_lit 0, [(nat_lit 0, (.ofNat (nat_lit 0))), (nat_lit 0, (.ofNat (nat_lit 2)))]), (nat_lit 5, nat_lit 0, [(nat_lit 28, (.ofNat (nat_lit 0))), (nat_lit 0, (.ofNat (nat_lit 0))), (nat_lit 2, (.ofNat (nat_lit 0)))]), (nat_lit 4, nat_lit 0, [(nat_lit 4, (.ofNat (nat_lit 0))), (nat_lit 0, (.ofNat (nat_lit 0)))]), (nat_lit 5, nat_lit 0, [(nat_lit 27, (.ofNat (nat_lit 0))), (nat_lit 0, (.ofNat (nat_lit 0))), (nat_lit 0, (.ofNat (nat_lit 0)))]), (nat_lit 5, nat_lit 0, [(nat_lit 26, (.ofNat (nat_lit 0))), (nat_lit 0, (.ofNat (nat_lit 0))), (nat_lit 0, (.ofNat (nat_lit 0)))]), (nat_lit 6, nat_lit 1, [(nat_lit 1, (.ofNat (nat_lit 0))), (nat_lit 0, (.ofNat (nat_lit 0)))]), (nat_lit 4, nat_lit 0, [(nat_lit 0, (.ofNat (nat_lit 0))), (nat_lit 0, (.ofNat (nat_lit 12)))])],
  [(nat_lit 7, nat_lit 0, [(nat_lit 0, (.ofNat (nat_lit 0))), (nat_lit 0, (.ofNat (nat_lit 2)))]), (nat_lit 5, nat_lit 0, [(nat_lit 29, (.ofNat (nat_lit 0))), (nat_lit 0, (.ofNat (nat_lit 0))), (nat_lit 0, (.ofNat (nat_lit 0)))]), (nat_lit 5, nat_lit 0, [(nat_lit 28, (.ofNat (nat_lit 0))), (nat_lit 0, (.ofNat (nat_lit 0))), (nat_lit 2, (.ofNat (nat_lit 0)))]), (nat_lit 4, nat_lit 0, [(nat_lit 4, (.ofNat (nat_lit 0))), (nat_lit 0, (.ofNat (nat_lit 0)))]), (nat_lit 5, nat_lit 0, [(nat_lit 27, (.ofNat (nat_lit 0))), (nat_lit 0, (.ofNat (nat_lit 0))), (nat_lit 0, (.ofNat (nat_lit 0)))]), (nat_lit 5, nat_lit 0, [(nat_lit 26, (.ofNat (nat_lit 0))), (nat_lit 0, (.ofNat (nat_lit 0))), (nat_lit 0, (.ofNat (nat_lit 0)))]), (nat_lit 6, nat_lit 1, [(nat_lit 1, (.ofNat (nat_lit 0))), (nat_lit 0, (.ofNat (nat_lit 0)))]), (nat_lit 4, nat_lit 0, [(nat_lit 0, (.ofNat (nat_lit 0))), (nat_lit 0, (.ofNat (nat_lit 12)))])],
  [(nat_lit 7, nat_lit 0, [(nat_lit 0, (.ofNat (nat_lit 0))), (nat_lit 0, (.ofNat (nat_lit 2)))]), (nat_lit 5, nat_lit 0, [(nat_lit 30, (.ofNat (nat_lit 0))), (nat_lit 0, (.ofNat (nat_lit 0))), (nat_lit 0, (.ofNat (nat_lit 0)))]), (nat_lit 5, nat_lit 0, [(nat_lit 29, (.ofNat (nat_lit 0))), (nat_lit 0, (.ofNat (nat_lit 0))), (nat_lit 0, (.ofNat (nat_lit 0)))]), (nat_lit 5, nat_lit 0, [(nat_lit 28, (.ofNat (nat_lit 0))), (nat_lit 0, (.ofNat (nat_lit 0))), (nat_lit 2, (.ofNat (nat_lit 0)))]), (nat_lit 4, nat_lit 0, [(nat_lit 4, (.ofNat (nat_lit 0))), (nat_lit 0, (.ofNat (nat_lit 0)))]), (nat_lit 5, nat_lit 0, [(nat_lit 27, (.ofNat (nat_lit 0))), (nat_lit 0, (.ofNat (nat_lit 0))), (nat_lit 0, (.ofNat (nat_lit 0)))]), (nat_lit 5, nat_lit 0, [(nat_lit 26, (.ofNat (nat_lit 0))), (nat_lit 0, (.ofNat (nat_lit 0))), (nat_lit 0, (.ofNat (nat_lit 0)))]), (nat_lit 6, nat_lit 1, [(nat_lit 1, (.ofNat (nat_lit 0))), (nat_lit 0, (.ofNat (nat_lit 0)))]), (nat_lit 4, nat_lit 0, [(nat_lit 0, (.ofNat (nat_lit 0))), (nat_lit 0, (.ofNat (nat_lit 12)))])],
  [(nat_lit 7, nat_lit 0, [(nat_lit 0, (.ofNat (nat_lit 0))), (nat_lit 0, (.ofNat (nat_lit 2)))]), (nat_lit 5, nat_lit 0, [(nat_lit 31, (.ofNat (nat_lit 0))), (nat_lit 0, (.ofNat (nat_lit 0))), (nat_lit 0, (.ofNat (nat_lit 0)))]), (nat_lit 5, nat_lit 0, [(nat_lit 30, (.ofNat (nat_lit 0))), (nat_lit 0, (.ofNat (nat_lit 0))), (nat_lit 0, (.ofNat (nat_lit 0)))]), (nat_lit 5, nat_lit 0, [(nat_lit 29, (.ofNat (nat_lit 0))), (nat_lit 0, (.ofNat (nat_lit 0))), (nat_lit 0, (.ofNat (nat_lit 0)))]), (nat_lit 5, nat_lit 0, [(nat_lit 28, (.ofNat (nat_lit 0))), (nat_lit 0, (.ofNat (nat_lit 0))), (nat_lit 2, (.ofNat (nat_lit 0)))]), (nat_lit 4, nat_lit 0, [(nat_lit 4, (.ofNat (nat_lit 0))), (nat_lit 0, (.ofNat (nat_lit 0)))]), (nat_lit 5, nat_lit 0, [(nat_lit 27, (.ofNat (nat_lit 0))), (nat_lit 0, (.ofNat (nat_lit 0))), (nat_lit 0, (.ofNat (nat_lit 0)))]), (nat_lit 5, nat_lit 0, [(nat_lit 26, (.ofNat (nat_lit 0))), (nat_lit 0, (.ofNat (nat_lit 0))), (nat_lit 0, (.ofNat (nat_lit 0)))]), (nat_lit 6, nat_lit 1, [(nat_lit 1, (.ofNat (nat_lit 0))), (nat_lit 0, (.ofNat (nat_lit 0)))]), (nat_lit 4, nat_lit 0, [(nat_lit 0, (.ofNat (nat_lit 0))), (nat_lit 0, (.ofNat (nat_lit 12)))])],
  [(nat_lit 7, nat_lit 0, [(nat_lit 0, (.ofNat (nat_lit 0))), (nat_lit 0, (.ofNat (nat_lit 2)))]), (nat_lit 6, nat_lit 0, [(nat_lit 1, (.ofNat (nat_lit 0))), (nat_lit 0, (.ofNat (nat_lit 0)))]), (nat_lit 4, nat_lit 0, [(nat_lit 0, (.ofNat (nat_lit 0))), (nat_lit 0, (.ofNat (nat_lit 12)))])],
  [(nat_lit 7, nat_lit 0, [(nat_lit 0, (.ofNat (nat_lit 0))), (nat_lit 0, (.ofNat (nat_lit 2)))]), (nat_lit 5, nat_lit 0, [(nat_lit 26, (.ofNat (nat_lit 0))), (nat_lit 0, (.ofNat (nat_lit 0))), (nat_lit 0, (.negSucc (nat_lit 1)))]), (nat_lit 6, nat_lit 0, [(nat_lit 1, (.ofNat (nat_lit 0))), (nat_lit 0, (.ofNat (nat_lit 0)))]), (nat_lit 4, nat_lit 0, [(nat_lit 0, (.ofNat (nat_lit 0))), (nat_lit 0, (.ofNat (nat_lit 12)))])],
  [(nat_lit 7, nat_lit 0, [(nat_lit 0, (.ofNat (nat_lit 0))), (nat_lit 0, (.ofNat (nat_lit 8)))]), (nat_lit 5, nat_lit 0, [(nat_lit 27, (.ofNat (nat_lit 0))), (nat_lit 0, (.ofNat (nat_lit 0))), (nat_lit 0, (.ofNat (nat_lit 0)))]), (nat_lit 5, nat_lit 0, [(nat_lit 26, (.ofNat (nat_lit 0))), (nat_lit 0, (.ofNat (nat_lit 0))), (nat_lit 0, (.negSucc (nat_lit 1)))]), (nat_lit 6, nat_lit 0, [(nat_lit 1, (.ofNat (nat_lit 0))), (nat_lit 0, (.ofNat (nat_lit 0)))]), (nat_lit 4, nat_lit 0, [(nat_lit 0, (.ofNat (nat_lit 0))), (nat_lit 0, (.ofNat (nat_lit 12)))])],
  [(nat_lit 7, nat_lit 0, [(nat_lit 0, (.ofNat (nat_lit 0))), (nat_lit 0, (.ofNat (nat_lit 2)))]), (nat_lit 4, nat_lit 0, [(nat_lit 4, (.ofNat (nat_lit 0))), (nat_lit 0, (.ofNat (nat_lit 0)))]), (nat_lit 5, nat_lit 0, [(nat_lit 27, (.ofNat (nat_lit 0))), (nat_lit 0, (.ofNat (nat_lit 0))), (nat_lit 0, (.ofNat (nat_lit 0)))]), (nat_lit 5, nat_lit 0, [(nat_lit 26, (.ofNat (nat_lit 0))), (nat_lit 0, (.ofNat (nat_lit 0))), (nat_lit 0, (.negSucc (nat_lit 1)))]), (nat_lit 6, nat_lit 0, [(nat_lit 1, (.ofNat (nat_lit 0))), (nat_lit 0, (.ofNat (nat_lit 0)))]), (nat_lit 4, nat_lit 0, [(nat_lit 0, (.ofNat (nat_lit 0))), (nat_lit 0, (.ofNat (nat_lit 12)))])],
  [(nat_lit 7, nat_lit 0, [(nat_lit 0, (.ofNat (nat_lit 0))), (nat_lit 0, (.ofNat (nat_lit 2)))]), (nat_lit 5, nat_lit 0, [(nat_lit 28, (.ofNat (nat_lit 0))), (nat_lit 0, (.ofNat (nat_lit 0))), (nat_lit 2, (.ofNat (nat_lit 0)))]), (nat_lit 4, nat_lit 0, [(nat_lit 4, (.ofNat (nat_lit 0))), (nat_lit 0, (.ofNat (nat_lit 0)))]), (nat_lit 5, nat_lit 0, [(nat_lit 27, (.ofNat (nat_lit 0))), (nat_lit 0, (.ofNat (nat_lit 0))), (nat_lit 0, (.ofNat (nat_lit 0)))]), (nat_lit 5, nat_lit 0, [(nat_lit 26, (.ofNat (nat_lit 0))), (nat_lit 0, (.ofNat (nat_lit 0))), (nat_lit 0, (.negSucc (nat_lit 1)))]), (nat_lit 6, nat_lit 0, [(nat_lit 1, (.ofNat (nat_lit 0))), (nat_lit 0, (.ofNat (nat_lit 0)))]), (nat_lit 4, nat_lit 0, [(nat_lit 0, (.ofNat (nat_lit 0))), (nat_lit 0, (.ofNat (nat_lit 12)))])],
  [(nat_lit 7, nat_lit 0, [(nat_lit 0, (.ofNat (nat_lit 0))), (nat_lit 0, (.ofNat (nat_lit 2)))]), (nat_lit 5, nat_lit 0, [(nat_lit 29, (.ofNat (nat_lit 0))), (nat_lit 0, (.ofNat (nat_lit 0))), (nat_lit 0, (.ofNat (nat_lit 0)))]), (nat_lit 5, nat_lit 0, [(nat_lit 28, (.ofNat (nat_lit 0))), (nat_lit 0, (.ofNat (nat_lit 0))), (nat_lit 2, (.ofNat (nat_lit 0)))]), (nat_lit 4, nat_lit 0, [(nat_lit 4, (.ofNat (nat_lit 0))), (nat_lit 0, (.ofNat (nat_lit 0)))]), (nat_lit 5, nat_lit 0, [(nat_lit 27, (.ofNat (nat_lit 0))), (nat_lit 0, (.ofNat (nat_lit 0))), (nat_lit 0, (.ofNat (nat_lit 0)))]), (nat_lit 5, nat_lit 0, [(nat_lit 26, (.ofNat (nat_lit 0))), (nat_lit 0, (.ofNat (nat_lit 0))), (nat_lit 0, (.negSucc (nat_lit 1)))]), (nat_lit 6, nat_lit 0, [(nat_lit 1, (.ofNat (nat_lit 0))), (nat_lit 0, (.ofNat (nat_lit 0)))]), (nat_lit 4, nat_lit 0, [(nat_lit 0, (.ofNat (nat_lit 0))), (nat_lit 0, (.ofNat (nat_lit 12)))])],
  [(nat_lit 7, nat_lit 0, [(nat_lit 0, (.ofNat (nat_lit 0))), (nat_lit 0, (.ofNat (nat_lit 2)))]), (nat_lit 5, nat_lit 0, [(nat_lit 30, (.ofNat (nat_lit 0))), (nat_lit 0, (.ofNat (nat_lit 0))), (nat_lit 0, (.ofNat (nat_lit 0)))]), (nat_lit 5, nat_lit 0, [(nat_lit 29, (.ofNat (nat_lit 0))), (nat_lit 0, (.ofNat (nat_lit 0))), (nat_lit 0, (.ofNat (nat_lit 0)))]), (nat_lit 5, nat_lit 0, [(nat_lit 28, (.ofNat (nat_lit 0))), (nat_lit 0, (.ofNat (nat_lit 0))), (nat_lit 2, (.ofNat (nat_lit 0)))]), (nat_lit 4, nat_lit 0, [(nat_lit 4, (.ofNat (nat_lit 0))), (nat_lit 0, (.ofNat (nat_lit 0)))]), (nat_lit 5, nat_lit 0, [(nat_lit 27, (.ofNat (nat_lit 0))), (nat_lit 0, (.ofNat (nat_lit 0))), (nat_lit 0, (.ofNat (nat_lit 0)))]), (nat_lit 5, nat_lit 0, [(nat_lit 26, (.ofNat (nat_lit 0))), (nat_lit 0, (.ofNat (nat_lit 0))), (nat_lit 0, (.negSucc (nat_lit 1)))]), (nat_lit 6, nat_lit 0, [(nat_lit 1, (.ofNat (nat_lit 0))), (nat_lit 0, (.ofNat (nat_lit 0)))]), (nat_lit 4, nat_lit 0, [(nat_lit 0, (.ofNat (nat_lit 0))), (nat_lit 0, (.ofNat (nat_lit 12)))])],
  [(nat_lit 7, nat_lit 0, [(nat_lit 0, (.ofNat (nat_lit 0))), (nat_lit 0, (.ofNat (nat_lit 2)))]), (nat_lit 5, nat_lit 0, [(nat_lit 31, (.ofNat (nat_lit 0))), (nat_lit 0, (.ofNat (nat_lit 0))), (nat_lit 0, (.ofNat (nat_lit 0)))]), (nat_lit 5, nat_lit 0, [(nat_lit 30, (.ofNat (nat_lit 0))), (nat_lit 0, (.ofNat (nat_lit 0))), (nat_lit 0, (.ofNat (nat_lit 0)))]), (nat_lit 5, nat_lit 0, [(nat_lit 29, (.ofNat (nat_lit 0))), (nat_lit 0, (.ofNat (nat_lit 0))), (nat_lit 0, (.ofNat (nat_lit 0)))]), (nat_lit 5, nat_lit 0, [(nat_lit 28, (.ofNat (nat_lit 0))), (nat_lit 0, (.ofNat (nat_lit 0))), (nat_lit 2, (.ofNat (nat_lit 0)))]), (nat_lit 4, nat_lit 0, [(nat_lit 4, (.ofNat (nat_lit 0))), (nat_lit 0, (.ofNat (nat_lit 0)))]), (nat_lit 5, nat_lit 0, [(nat_lit 27, (.ofNat (nat_lit 0))), (nat_lit 0, (.ofNat (nat_lit 0))), (nat_lit 0, (.ofNat (nat_lit 0)))]), (nat_lit 5, nat_lit 0, [(nat_lit 26, (.ofNat (nat_lit 0))), (nat_lit 0, (.ofNat (nat_lit 0))), (nat_lit 0, (.negSucc (nat_lit 1)))]), (nat_lit 6, nat_lit 0, [(nat_lit 1, (.ofNat (nat_lit 0))), (nat_lit 0, (.ofNat (nat_lit 0)))]), (nat_lit 4, nat_lit 0, [(nat_lit 0, (.ofNat (nat_lit 0))), (nat_lit 0, (.ofNat (nat_lit 12)))])]]
def zEn_atFirst : List (List zK) := [[(nat_lit 12, nat_lit 0, [(nat_lit 0, (.ofNat (nat_lit 0))), (nat_lit 0, (.ofNat (nat_lit 0)))]), (nat_lit 5, nat_lit 0, [(nat_lit 32, (.ofNat (nat_lit 0))), (nat_lit 0, (.ofNat (nat_lit 0))), (nat_lit 0, (.ofNat (nat_lit 0)))]), (nat_lit 5, nat_lit 0, [(nat_lit 31, (.ofNat (nat_lit 0))), (nat_lit 0, (.ofNat (nat_lit 0))), (nat_lit 0, (.ofNat (nat_lit 0)))]), (nat_lit 5, nat_lit 0, [(nat_lit 30, (.ofNat (nat_lit 0))), (nat_lit 0, (.ofNat (nat_lit 0))), (nat_lit 0, (.ofNat (nat_lit 0)))]), (nat_lit 5, nat_lit 0, [(nat_lit 29, (.ofNat (nat_lit 0))), (nat_lit 0, (.ofNat (nat_lit 0))), (nat_lit 0, (.ofNat (nat_lit 0)))]), (nat_lit 5, nat_lit 0, [(nat_lit 28, (.ofNat (nat_lit 0))), (nat_lit 0, (.ofNat (nat_lit 0))), (nat_lit 2, (.ofNat (nat_lit 0)))]), (nat_lit 4, nat_lit 0, [(nat_lit 4, (.ofNat (nat_lit 0))), (nat_lit 0, (.ofNat (nat_lit 0)))]), (nat_lit 5, nat_lit 0, [(nat_lit 27, (.ofNat (nat_lit 0))), (nat_lit 0, (.ofNat (nat_lit 0))), (nat_lit 0, (.ofNat (nat_lit 0)))]), (nat_lit 5, nat_lit 0, [(nat_lit 26, (.ofNat (nat_lit 0))), (nat_lit 0, (.ofNat (nat_lit 0))), (nat_lit 0, (.ofNat (nat_lit 0)))]), (nat_lit 6, nat_lit 1, [(nat_lit 1, (.ofNat (nat_lit 0))), (nat_lit 0, (.ofNat (nat_lit 0)))]), (nat_lit 4, nat_lit 0, [(nat_lit 0, (.ofNat (nat_lit 0))), (nat_lit 0, (.ofNat (nat_lit 12)))])],
  [(nat_lit 12, nat_lit 0, [(nat_lit 0, (.ofNat (nat_lit 0))), (nat_lit 0, (.ofNat (nat_lit 0)))]), (nat_lit 5, nat_lit 0, [(nat_lit 32, (.ofNat (nat_lit 0))), (nat_lit 0, (.ofNat (nat_lit 0))), (nat_lit 0, (.ofNat (nat_lit 0)))]), (nat_lit 5, nat_lit 0, [(nat_lit 31, (.ofNat (nat_lit 0))), (nat_lit 0, (.ofNat (nat_lit 0))), (nat_lit 0, (.ofNat (nat_lit 0)))]), (nat_lit 5, nat_lit 0, [(nat_lit 30, (.ofNat (nat_lit 0))), (nat_lit 0, (.ofNat (nat_lit 0))), (nat_lit 0, (.ofNat (nat_lit 0)))]), (nat_lit 5, nat_lit 0, [(nat_lit 29, (.ofNat (nat_lit 0))), (nat_lit 0, (.ofNat (nat_lit 0))), (nat_lit 0, (.ofNat (nat_lit 0)))]), (nat_lit 5, nat_lit 0, [(nat_lit 28, (.ofNat (nat_lit 0))), (nat_lit 0, (.ofNat (nat_lit 0))), (nat_lit 2, (.ofNat (nat_lit 0)))]), (nat_lit 4, nat_lit 0, [(nat_lit 4, (.ofNat (nat_lit 0))), (nat_lit 0, (.ofNat (nat_lit 0)))]), (nat_lit 5, nat_lit 0, [(nat_lit 27, (.ofNat (nat_lit 0))), (nat_lit 0, (.ofNat (nat_lit 0))), (nat_lit 0, (.ofNat (nat_lit 0)))]), (nat_lit 5, nat_lit 0, [(nat_lit 26, (.ofNat (nat_lit 0))), (nat_lit 0, (.ofNat (nat_lit 0))), (nat_lit 0, (.negSucc (nat_lit 1)))]), (nat_lit 6, nat_lit 0, [(nat_lit 1, (.ofNat (nat_lit 0))), (nat_lit 0, (.ofNat (nat_lit 0)))]), (nat_lit 4, nat_lit 0, [(nat_lit 0, (.ofNat (nat_lit 0))), (nat_lit 0, (.ofNat (nat_lit 12)))])]]
def zFn_atFirst : List (List zK) := []
def zDn_atFirst_0 : List (List zK) := [[(nat_lit 7, nat_lit 0, [(nat_lit 4, (.ofNat (nat_lit 0))), (nat_lit 0, (.ofNat (nat_lit 24)))]), (nat_lit 0, nat_lit 1, [(nat_lit 3, (.ofNat (nat_lit 0))), (nat_lit 2, (.ofNat (nat_lit 0)))]), (nat_lit 0, nat_lit 3, [(nat_lit 0, (.ofNat (nat_lit 12))), (nat_lit 1, (.ofNat (nat_lit 0)))]), (nat_lit 6, nat_lit 2, [(nat_lit 2, (.ofNat (nat_lit 0))), (nat_lit 0, (.ofNat (nat_lit 12)))])]]
def zEn_atFirst_0 : List (List zK) := [[(nat_lit 10, nat_lit 1, [(nat_lit 1, (.ofNat (nat_lit 0))), (nat_lit 0, (.ofNat (nat_lit 0)))]), (nat_lit 6, nat_lit 3, [(nat_lit 2, (.ofNat (nat_lit 0))), (nat_lit 0, (.ofNat (nat_lit 12)))])],
  [(nat_lit 10, nat_lit 0, [(nat_lit 1, (.ofNat (nat_lit 0))), (nat_lit 5, (.ofNat (nat_lit 0)))]), (nat_lit 0, nat_lit 1, [(nat_lit 2, (.ofNat (nat_lit 0))), (nat_lit 0, (.ofNat (nat_lit 1)))]), (nat_lit 5, nat_lit 0, [(nat_lit 33, (.ofNat (nat_lit 0))), (nat_lit 4, (.ofNat (nat_lit 0))), (nat_lit 0, (.ofNat (nat_lit 0)))]), (nat_lit 0, nat_lit 1, [(nat_lit 3, (.ofNat (nat_lit 0))), (nat_lit 2, (.ofNat (nat_lit 0)))]), (nat_lit 0, nat_lit 3, [(nat_lit 0, (.ofNat (nat_lit 12))), (nat_lit 1, (.ofNat (nat_lit 0)))]), (nat_lit 6, nat_lit 2, [(nat_lit 2, (.ofNat (nat_lit 0))), (nat_lit 0, (.ofNat (nat_lit 12)))])]]
def zFn_atFirst_0 : List (List zK) := []
def zDn_atFirst_1 : List (List zK) := [[(nat_lit 7, nat_lit 0, [(nat_lit 4, (.ofNat (nat_lit 0))), (nat_lit 0, (.ofNat (nat_lit 8)))]), (nat_lit 0, nat_lit 1, [(nat_lit 3, (.ofNat (nat_lit 0))), (nat_lit 2, (.ofNat (nat_lit 0)))]), (nat_lit 0, nat_lit 3, [(nat_lit 0, (.ofNat (nat_lit 4))), (nat_lit 1, (.ofNat (nat_lit 0)))]), (nat_lit 6, nat_lit 2, [(nat_lit 2, (.ofNat (nat_lit 0))), (nat_lit 0, (.ofNat (nat_lit 4)))])],
  [(nat_lit 7, nat_lit 0, [(nat_lit 6, (.ofNat (nat_lit 0))), (nat_lit 0, (.ofNat (nat_lit 8)))]), (nat_lit 0, nat_lit 1, [(nat_lit 5, (.ofNat (nat_lit 0))), (nat_lit 2, (.ofNat (nat_lit 0)))]), (nat_lit 0, nat_lit 3, [(nat_lit 0, (.ofNat (nat_lit 4))), (nat_lit 1, (.ofNat (nat_lit 0)))]), (nat_lit 5, nat_lit 0, [(nat_lit 34, (.ofNat (nat_lit 0))), (nat_lit 4, (.ofNat (nat_lit 0))), (nat_lit 0, (.ofNat (nat_lit 0)))]), (nat_lit 0, nat_lit 1, [(nat_lit 3, (.ofNat (nat_lit 0))), (nat_lit 2, (.ofNat (nat_lit 0)))]), (nat_lit 0, nat_lit 3, [(nat_lit 0, (.ofNat (nat_lit 4))), (nat_lit 1, (.ofNat (nat_lit 0)))]), (nat_lit 6, nat_lit 2, [(nat_lit 2, (.ofNat (nat_lit 0))), (nat_lit 0, (.ofNat (nat_lit 4)))])]]
def zEn_atFirst_1 : List (List zK) := [[(nat_lit 11, nat_lit 0, [(nat_lit 0, (.ofNat (nat_lit 0)))]), (nat_lit 6, nat_lit 3, [(nat_lit 2, (.ofNat (nat_lit 0))), (nat_lit 0, (.ofNat (nat_lit 4)))])],
  [(nat_lit 10, nat_lit 1, [(nat_lit 1, (.ofNat (nat_lit 0))), (nat_lit 7, (.ofNat (nat_lit 0)))]), (nat_lit 0, nat_lit 1, [(nat_lit 2, (.ofNat (nat_lit 0))), (nat_lit 0, (.ofNat (nat_lit 1)))]), (nat_lit 5, nat_lit 0, [(nat_lit 35, (.ofNat (nat_lit 0))), (nat_lit 6, (.ofNat (nat_lit 0))), (nat_lit 0, (.ofNat (nat_lit 0)))]), (nat_lit 0, nat_lit 1, [(nat_lit 5, (.ofNat (nat_lit 0))), (nat_lit 2, (.ofNat (nat_lit 0)))]), (nat_lit 0, nat_lit 3, [(nat_lit 0, (.ofNat (nat_lit 4))), (nat_lit 1, (.ofNat (nat_lit 0)))]), (nat_lit 5, nat_lit 0, [(nat_lit 34, (.ofNat (nat_lit 0))), (nat_lit 4, (.ofNat (nat_lit 0))), (nat_lit 0, (.ofNat (nat_lit 0)))]), (nat_lit 0, nat_lit 1, [(nat_lit 3, (.ofNat (nat_lit 0))), (nat_lit 2, (.ofNat (nat_lit 0)))]), (nat_lit 0, nat_lit 3, [(nat_lit 0, (.ofNat (nat_lit 4))), (nat_lit 1, (.ofNat (nat_lit 0)))]), (nat_lit 6, nat_lit 2, [(nat_lit 2, (.ofNat (nat_lit 0))), (nat_lit 0, (.ofNat (nat_lit 4)))])]]
def zFn_atFirst_1 : List (List zK) := []
set_option maxHeartbeats 8000000 in
theorem zn_atFirst {ro : Nat → List Int32} : zMet pr_P pr_K pr_df ro (sm_X0 1 6) 0 155 tm_n [(.inr (.inr (.inl (nat_lit 0)))), (.inl (nat_lit 0, (.ofNat (nat_lit 0))))] 0 [(nat_lit 0, nat_lit 0, nat_lit 1), (nat_lit 0, nat_lit 3, nat_lit 2), (nat_lit 0, nat_lit 20, nat_lit 3), (nat_lit 0, nat_lit 21, nat_lit 4), (nat_lit 0, nat_lit 22, nat_lit 5), (nat_lit 0, nat_lit 23, nat_lit 6), (nat_lit 0, nat_lit 24, nat_lit 7), (nat_lit 0, nat_lit 25, nat_lit 8), (nat_lit 0, nat_lit 26, nat_lit 9), (nat_lit 0, nat_lit 27, nat_lit 10), (nat_lit 0, nat_lit 28, nat_lit 11), (nat_lit 0, nat_lit 29, nat_lit 12), (nat_lit 0, nat_lit 30, nat_lit 13), (nat_lit 0, nat_lit 31, nat_lit 14), (nat_lit 0, nat_lit 32, nat_lit 15), (nat_lit 0, nat_lit 33, nat_lit 16), (nat_lit 0, nat_lit 34, nat_lit 17), (nat_lit 0, nat_lit 35, nat_lit 18), (nat_lit 0, nat_lit 36, nat_lit 19), (nat_lit 0, nat_lit 37, nat_lit 20), (nat_lit 0, nat_lit 38, nat_lit 21), (nat_lit 0, nat_lit 39, nat_lit 22), (nat_lit 0, nat_lit 40, nat_lit 23), (nat_lit 0, nat_lit 47, nat_lit 24), (nat_lit 0, nat_lit 48, nat_lit 25), (nat_lit 0, nat_lit 50, nat_lit 26), (nat_lit 0, nat_lit 51, nat_lit 27), (nat_lit 0, nat_lit 52, nat_lit 28), (nat_lit 0, nat_lit 53, nat_lit 29), (nat_lit 0, nat_lit 54, nat_lit 30), (nat_lit 0, nat_lit 55, nat_lit 31), (nat_lit 0, nat_lit 56, nat_lit 32), (nat_lit 0, nat_lit 57, nat_lit 33), (nat_lit 0, nat_lit 58, nat_lit 34), (nat_lit 0, nat_lit 59, nat_lit 35), (nat_lit 0, nat_lit 72, nat_lit 36), (nat_lit 0, nat_lit 73, nat_lit 37), (nat_lit 0, nat_lit 76, nat_lit 38), (nat_lit 0, nat_lit 77, nat_lit 39), (nat_lit 0, nat_lit 79, nat_lit 40), (nat_lit 0, nat_lit 81, nat_lit 41), (nat_lit 0, nat_lit 82, nat_lit 42)] [] (fun xs η => sP wl_n zTr zPn_atFirst xs η ∧ pPn_atFirst xs η) (fun xs η y η' => sQ wl_n zTr zOn_atFirst zMn_atFirst xs η y η' ∧ pQn_atFirst xs η y η') :=
  zmet_alt (zmea_gen (mi := (nat_lit 1, nat_lit 1, nat_lit 8, nat_lit 3, nat_lit 0, tX8_atFirst)) (cd := []) (cu := zUn_atFirst) (cs := []) (iv := zVn_atFirst) (po := [zOn_atFirst]) (pr := zPn_atFirst) (mods := zMn_atFirst) (D7 := zDn_atFirst) (D0 := zEn_atFirst) (Dm := zFn_atFirst) (f0 := 49) pCn_atFirst qCn_atFirst iCn_atFirst pPn_atFirst (fun xs η _ y η' => pQn_atFirst xs η y η') zX_low pr_mtR rfl (fun _ h => nomatch h) (by decide +kernel) (by decide +kernel) (by decide +kernel)
    (by
      intro xs η hr hl hp hpp
      match xs, hl, hp, hpp with
      | [], _, hp, hpp =>
        refine List.forall_mem_cons.mpr ⟨?_, List.forall_mem_cons.mpr ⟨?_, fun _ h => nomatch h⟩⟩
        · refine zden_L (n := 1) (ρ := [0]) rfl ?_
          show ∀ x1 : Int, x1 = η 0 (Int.toNat 12) → zok 0 x1 → (¬ x1 = 0) → ∀ η1 : zE, η1 = zup η 26 (Int.toNat 0) 0 → ∀ η2 : zE, η2 = zup η1 27 (Int.toNat 0) 0 → ∀ x2 : Int, x2 = η2 4 (Int.toNat 0) → zok 0 x2 → ∀ η3 : zE, η3 = zup η2 28 (Int.toNat 0) x2 → ∀ η4 : zE, η4 = zup η3 29 (Int.toNat 0) 0 → ∀ η5 : zE, η5 = zup η4 30 (Int.toNat 0) 0 → ∀ η6 : zE, η6 = zup η5 31 (Int.toNat 0) 0 → ∀ η7 : zE, η7 = zup η6 32 (Int.toNat 0) 0 → (iCn_atFirst [] η) 0 [0, 0] η7
          intro x1 e1 r1 c1 η1 eη1 η2 eη2 x2 e2 r2 η3 eη3 η4 eη4 η5 eη5 η6 eη6 η7 eη7
          exact trivial
        · refine zden_L (n := 1) (ρ := [0]) rfl ?_
          show ∀ x1 : Int, x1 = η 0 (Int.toNat 12) → zok 0 x1 → (x1 = 0) → ∀ η1 : zE, η1 = zup η 26 (Int.toNat 0) (-2) → ∀ η2 : zE, η2 = zup η1 27 (Int.toNat 0) 0 → ∀ x2 : Int, x2 = η2 4 (Int.toNat 0) → zok 0 x2 → ∀ η3 : zE, η3 = zup η2 28 (Int.toNat 0) x2 → ∀ η4 : zE, η4 = zup η3 29 (Int.toNat 0) 0 → ∀ η5 : zE, η5 = zup η4 30 (Int.toNat 0) 0 → ∀ η6 : zE, η6 = zup η5 31 (Int.toNat 0) 0 → ∀ η7 : zE, η7 = zup η6 32 (Int.toNat 0) 0 → (iCn_atFirst [] η) 0 [0, 0] η7
          intro x1 e1 r1 c1 η1 eη1 η2 eη2 x2 e2 r2 η3 eη3 η4 eη4 η5 eη5 η6 eη6 η7 eη7
          exact trivial
      )
    (fun _ _ _ _ _ _ _ h => nomatch h)
    (List.forall_mem_cons.mpr ⟨⟨zDn_atFirst_0, zEn_atFirst_0, zFn_atFirst_0, 19, by decide +kernel, (by
      intro xs η0 hlx hp hpp ys η hr hl hI hig
      match ys, hl, hI, hig with
      | [x1, x2], _, hI, hig =>
        refine ⟨?_, ?_⟩
        · refine List.forall_mem_cons.mpr ⟨?_, List.forall_mem_cons.mpr ⟨?_, fun _ h => nomatch h⟩⟩
          · refine zden_L (n := 3) (ρ := [x2, x1, 0]) rfl ?_
            show (12 ≤ x2) → (iCn_atFirst xs η0) 1 [x1, 0] η ∧ (fun (_ : Nat) (_ : List Int) (_ : zE) => (0 : Nat)) 1 [x1, 0] η < 1
            intro c1
            exact ⟨trivial, Nat.zero_lt_one⟩
          · refine zden_L (n := 3) (ρ := [x2, x1, 0]) rfl ?_
            show (x2 < 12) → ∀ x3 : Int, x3 = zd 0 3 12 x1 → ∀ x4 : Int, x4 = zd 0 1 x3 x2 → ∀ η1 : zE, η1 = zup η 33 (Int.toNat x4) 0 → ∀ x5 : Int, x5 = zd 0 1 x2 1 → (iCn_atFirst xs η0) 0 [x1, x5] η1 ∧ (fun (_ : Nat) (_ : List Int) (_ : zE) => (0 : Nat)) 0 [x1, x5] η1 < 1
            intro c1 x3 e3 x4 e4 η1 eη1 x5 e5
            exact ⟨trivial, Nat.zero_lt_one⟩
        · exact fun _ h => nomatch h
      )⟩, (List.forall_mem_cons.mpr ⟨⟨zDn_atFirst_1, zEn_atFirst_1, zFn_atFirst_1, 28, by decide +kernel, (by
      intro xs η0 hlx hp hpp ys η hr hl hI hig
      match ys, hl, hI, hig with
      | [x1, x2], _, hI, hig =>
        refine ⟨?_, ?_⟩
        · refine List.forall_mem_cons.mpr ⟨?_, List.forall_mem_cons.mpr ⟨?_, fun _ h => nomatch h⟩⟩
          · refine zden_L (n := 3) (ρ := [x2, x1, 0]) rfl ?_
            show (4 ≤ x2) → (fun (_ : Nat) (y : Int) (η' : zE) => pQn_atFirst xs η0 y η') 0 0 η
            intro c1
            exact trivial
          · refine zden_L (n := 3) (ρ := [x2, x1, 0]) rfl ?_
            show (x2 < 4) → ∀ x3 : Int, x3 = zd 0 3 4 x1 → ∀ x4 : Int, x4 = zd 0 1 x3 x2 → ∀ η1 : zE, η1 = zup η 34 (Int.toNat x4) 0 → ∀ x5 : Int, x5 = zd 0 3 4 x1 → ∀ x6 : Int, x6 = zd 0 1 x5 x2 → ∀ η2 : zE, η2 = zup η1 35 (Int.toNat x6) 0 → ∀ x7 : Int, x7 = zd 0 1 x2 1 → (iCn_atFirst xs η0) 1 [x1, x7] η2 ∧ (fun (_ : Nat) (_ : List Int) (_ : zE) => (0 : Nat)) 1 [x1, x7] η2 < 1
            intro c1 x3 e3 x4 e4 η1 eη1 x5 e5 x6 e6 η2 eη2 x7 e7
            exact ⟨trivial, Nat.zero_lt_one⟩
        · exact fun _ h => nomatch h
      )⟩, (fun _ h => nomatch h)⟩)⟩))
