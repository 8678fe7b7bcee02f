def zPqe_tapeWipeX : zPq := ([], [])
def zOqe_tapeWipeX : zPo := (((.ofNat (nat_lit 0)), (.ofNat (nat_lit 0))), [], [])
def zMqe_tapeWipeX : List zCe := [(nat_lit 95, nat_lit 0)]
def oPqe_tapeWipeX : List Int → zE → Prop := fun _ η => GB_q η ∧ G_r η
def pPqe_tapeWipeX : List Int → zE → Prop := fun xs η => oPqe_tapeWipeX xs η ∧ yp_wk η
def oQqe_tapeWipeX : List Int → zE → Int → zE → Prop := fun _ _ _ η' => GB_q η' ∧ G_r η'
def fQqe_tapeWipeX : List Int → zE → Int → zE → Prop := fun xs η y η' => η' = (zup (zup η 95 0 0) 95 1 (-1))
def pQqe_tapeWipeX : List Int → zE → Int → zE → Prop := fun xs η y η' => oQqe_tapeWipeX xs η y η' ∧ fQqe_tapeWipeX xs η y η'
def pCqe_tapeWipeX : Nat → List Int → zE → Prop := fun c => match c with
  | _ => fun _ _ => True
def qCqe_tapeWipeX : Nat → List Int → zE → Int → zE → Prop := fun c => match c with
  | _ => fun _ _ _ _ => True
def iCqe_tapeWipeX : List Int → zE → Nat → List Int → zE → Prop := fun xs η0 c => match c with
  | _ => fun _ _ => True
def zVqe_tapeWipeX : List zIv := []
def zDqe_tapeWipeX : List (List zK) := []
def zEqe_tapeWipeX : List (List zK) := [[(nat_lit 11, nat_lit 0, [(nat_lit 0, (.ofNat (nat_lit 0)))]), (nat_lit 5, nat_lit 0, [(nat_lit 95, (.ofNat (nat_lit 0))), (nat_lit 0, (.ofNat (nat_lit 1))), (nat_lit 0, (.negSucc (nat_lit 0)))]), (nat_lit 5, nat_lit 0, [(nat_lit 95, (.ofNat (nat_lit 0))), (nat_lit 0, (.ofNat (nat_lit 0))), (nat_lit 0, (.ofNat (nat_lit 0)))])]]
def zFqe_tapeWipeX : List (List zK) := []
set_option maxHeartbeats 8000000 in
theorem zqe_tapeWipeX {ro : Nat → List Int32} : zMet pr_P pr_K pr_df ro (sm_X0 1 6) 0 58 tm_qe [(.inr (.inr (.inl (nat_lit 95))))] 0 [(nat_lit 95, nat_lit 2, nat_lit 96), (nat_lit 95, nat_lit 3, nat_lit 97), (nat_lit 95, nat_lit 4, nat_lit 98), (nat_lit 95, nat_lit 5, nat_lit 99), (nat_lit 95, nat_lit 6, nat_lit 100)] [] (fun xs η => sP wl_qe zTr zPqe_tapeWipeX xs η ∧ pPqe_tapeWipeX xs η) (fun xs η y η' => sQ wl_qe zTr zOqe_tapeWipeX zMqe_tapeWipeX xs η y η' ∧ pQqe_tapeWipeX xs η y η') :=
  zmet_alt (zmea_gen (mi := (nat_lit 0, nat_lit 1, nat_lit 6, nat_lit 1, nat_lit 0, tX6_wipe)) (cd := []) (cu := []) (cs := []) (iv := zVqe_tapeWipeX) (po := [zOqe_tapeWipeX]) (pr := zPqe_tapeWipeX) (mods := zMqe_tapeWipeX) (D7 := zDqe_tapeWipeX) (D0 := zEqe_tapeWipeX) (Dm := zFqe_tapeWipeX) (f0 := 11) pCqe_tapeWipeX qCqe_tapeWipeX iCqe_tapeWipeX pPqe_tapeWipeX (fun xs η _ y η' => pQqe_tapeWipeX xs η y η') zX_low pr_mtR rfl (fun _ h => nomatch h) (by decide +kernel) (by decide +kernel) (by decide +kernel)
    (by
      intro xs η hr hl hp hpp
      match xs, hl, hp, hpp with
      | [], _, hp, hpp =>
        refine List.forall_mem_cons.mpr ⟨?_, fun _ h => nomatch h⟩
        · show ∀ η1 : zE, η1 = zup η 95 (Int.toNat 0) 0 → ∀ η2 : zE, η2 = zup η1 95 (Int.toNat 1) (-1) → (fun (_ : Nat) (y : Int) (η' : zE) => pQqe_tapeWipeX [] η y η') 0 0 η2
          have wk0 : yp_wk η := hpp.2
          have hpp := hpp.1
          intro η1 eη1 η2 eη2
          refine yj_a ?_ ?_
          · rw [eη2, eη1]
            exact ⟨zGk_up gkB_q (zGk_up gkB_q hpp.1 (by decide +kernel)) (by decide +kernel), zGk_up gk_r (zGk_up gk_r hpp.2 (by decide +kernel)) (by decide +kernel)⟩
          · have eη1 : η1 = zup η 95 0 0 := eη1
            have eη2 : η2 = zup η1 95 1 (-1) := eη2
            show η2 = (zup (zup η 95 0 0) 95 1 (-1))
            subst eη1
            subst eη2
            rfl
      )
    (fun _ _ _ _ _ _ _ h => nomatch h)
    (fun _ h => nomatch h))
def zPqe_textK : zPq := ([((.negSucc (nat_lit 2147483647)), (.ofNat (nat_lit 2147483647)))], [])
def zMqe_textK : List zCe := [(nat_lit 33, nat_lit 0), (nat_lit 34, nat_lit 0), (nat_lit 35, nat_lit 0), (nat_lit 37, nat_lit 0), (nat_lit 38, nat_lit 0), (nat_lit 39, nat_lit 0), (nat_lit 40, nat_lit 0), (nat_lit 42, nat_lit 0), (nat_lit 43, nat_lit 0), (nat_lit 44, nat_lit 0), (nat_lit 45, nat_lit 0), (nat_lit 46, nat_lit 0), (nat_lit 47, nat_lit 0), (nat_lit 48, nat_lit 0), (nat_lit 49, nat_lit 0), (nat_lit 50, nat_lit 0), (nat_lit 60, nat_lit 1), (nat_lit 60, nat_lit 2), (nat_lit 60, nat_lit 13), (nat_lit 60, nat_lit 14), (nat_lit 60, nat_lit 6), (nat_lit 60, nat_lit 7), (nat_lit 60, nat_lit 8), (nat_lit 60, nat_lit 9), (nat_lit 61, nat_lit 0), (nat_lit 63, nat_lit 0), (nat_lit 32, nat_lit 0), (nat_lit 60, nat_lit 5), (nat_lit 0, nat_lit 0), (nat_lit 70, nat_lit 0), (nat_lit 71, nat_lit 0), (nat_lit 72, nat_lit 0), (nat_lit 73, nat_lit 0), (nat_lit 95, nat_lit 0), (nat_lit 91, nat_lit 0)]
def zQqe_textK : List zPo := [(((.negSucc (nat_lit 1)), (.negSucc (nat_lit 0))), [], []), (((.negSucc (nat_lit 2147483647)), (.ofNat (nat_lit 2147483647))), [], [])]
def oPqe_textK : List Int → zE → Prop := fun _ η => GA_q η ∧ G_r η
def pPqe_textK : List Int → zE → Prop := fun xs η => oPqe_textK xs η ∧ yp_wk η
def pWqe_textK : List Int → zE → Nat → Int → zE → Prop := fun xs η j y η' => match j with
  | 0 => (GA_q η' ∧ G_r η' ∧ FC_q (xs.getD 0 0) η η') ∧ yp_t0 (xs.getD 0 0) η y η' ∧ η' 95 0 = η 95 0
  | 1 => (GB_q η' ∧ G_r η' ∧ FC_q (xs.getD 0 0) η η') ∧ yp_t1 (xs.getD 0 0) η y η' ∧ η' 95 0 = 0
  | _ => False
def pCqe_textK : Nat → List Int → zE → Prop := fun c => match c with
  | 0 => pPqe_read
  | 1 => pPqe_startB
  | 2 => pPqe_tapeWipeX
  | _ => fun _ _ => True
def qCqe_textK : Nat → List Int → zE → Int → zE → Prop := fun c => match c with
  | 0 => pQqe_read
  | 1 => pQqe_startB
  | 2 => pQqe_tapeWipeX
  | _ => fun _ _ _ _ => True
def iCqe_textK : List Int → zE → Nat → List Int → zE → Prop := fun xs η0 c => match c with
  | _ => fun _ _ => True
def zVqe_textK : List zIv := []
def zDqe_textK : List (List zK) := [[(nat_lit 7, nat_lit 2, [(nat_lit 0, (.ofNat (nat_lit 0)))]), (nat_lit 5, nat_lit 0, [(nat_lit 91, (.ofNat (nat_lit 0))), (nat_lit 0, (.ofNat (nat_lit 0))), (nat_lit 0, (.ofNat (nat_lit 0)))]), (nat_lit 8, nat_lit 2, []), (nat_lit 8, nat_lit 1, []), (nat_lit 6, nat_lit 1, [(nat_lit 3, (.ofNat (nat_lit 0))), (nat_lit 0, (.ofNat (nat_lit 0)))]), (nat_lit 5, nat_lit 0, [(nat_lit 0, (.ofNat (nat_lit 0))), (nat_lit 0, (.ofNat (nat_lit 3))), (nat_lit 5, (.ofNat (nat_lit 0)))]), (nat_lit 4, nat_lit 0, [(nat_lit 60, (.ofNat (nat_lit 0))), (nat_lit 0, (.ofNat (nat_lit 1)))]), (nat_lit 5, nat_lit 0, [(nat_lit 0, (.ofNat (nat_lit 0))), (nat_lit 0, (.ofNat (nat_lit 2))), (nat_lit 4, (.ofNat (nat_lit 0)))]), (nat_lit 4, nat_lit 0, [(nat_lit 60, (.ofNat (nat_lit 0))), (nat_lit 0, (.ofNat (nat_lit 0)))]), (nat_lit 5, nat_lit 0, [(nat_lit 0, (.ofNat (nat_lit 0))), (nat_lit 0, (.ofNat (nat_lit 1))), (nat_lit 0, (.ofNat (nat_lit 0)))]), (nat_lit 8, nat_lit 0, [(nat_lit 1, (.ofNat (nat_lit 0)))]), (nat_lit 6, nat_lit 5, [(nat_lit 1, (.ofNat (nat_lit 0))), (nat_lit 2, (.ofNat (nat_lit 0)))]), (nat_lit 4, nat_lit 0, [(nat_lit 0, (.ofNat (nat_lit 0))), (nat_lit 0, (.ofNat (nat_lit 1)))]), (nat_lit 6, nat_lit 3, [(nat_lit 1, (.ofNat (nat_lit 0))), (nat_lit 0, (.ofNat (nat_lit 0)))])]]
def zEqe_textK : List (List zK) := [[(nat_lit 11, nat_lit 0, [(nat_lit 0, (.negSucc (nat_lit 1)))]), (nat_lit 6, nat_lit 2, [(nat_lit 1, (.ofNat (nat_lit 0))), (nat_lit 0, (.ofNat (nat_lit 0)))])],
  [(nat_lit 13, nat_lit 0, [(nat_lit 1, (.ofNat (nat_lit 0)))]), (nat_lit 6, nat_lit 5, [(nat_lit 1, (.ofNat (nat_lit 0))), (nat_lit 2, (.ofNat (nat_lit 0)))]), (nat_lit 4, nat_lit 0, [(nat_lit 0, (.ofNat (nat_lit 0))), (nat_lit 0, (.ofNat (nat_lit 1)))]), (nat_lit 6, nat_lit 3, [(nat_lit 1, (.ofNat (nat_lit 0))), (nat_lit 0, (.ofNat (nat_lit 0)))])],
  [(nat_lit 13, nat_lit 1, []), (nat_lit 6, nat_lit 1, [(nat_lit 3, (.ofNat (nat_lit 0))), (nat_lit 0, (.ofNat (nat_lit 0)))]), (nat_lit 5, nat_lit 0, [(nat_lit 0, (.ofNat (nat_lit 0))), (nat_lit 0, (.ofNat (nat_lit 3))), (nat_lit 5, (.ofNat (nat_lit 0)))]), (nat_lit 4, nat_lit 0, [(nat_lit 60, (.ofNat (nat_lit 0))), (nat_lit 0, (.ofNat (nat_lit 1)))]), (nat_lit 5, nat_lit 0, [(nat_lit 0, (.ofNat (nat_lit 0))), (nat_lit 0, (.ofNat (nat_lit 2))), (nat_lit 4, (.ofNat (nat_lit 0)))]), (nat_lit 4, nat_lit 0, [(nat_lit 60, (.ofNat (nat_lit 0))), (nat_lit 0, (.ofNat (nat_lit 0)))]), (nat_lit 5, nat_lit 0, [(nat_lit 0, (.ofNat (nat_lit 0))), (nat_lit 0, (.ofNat (nat_lit 1))), (nat_lit 0, (.ofNat (nat_lit 0)))]), (nat_lit 8, nat_lit 0, [(nat_lit 1, (.ofNat (nat_lit 0)))]), (nat_lit 6, nat_lit 5, [(nat_lit 1, (.ofNat (nat_lit 0))), (nat_lit 2, (.ofNat (nat_lit 0)))]), (nat_lit 4, nat_lit 0, [(nat_lit 0, (.ofNat (nat_lit 0))), (nat_lit 0, (.ofNat (nat_lit 1)))]), (nat_lit 6, nat_lit 3, [(nat_lit 1, (.ofNat (nat_lit 0))), (nat_lit 0, (.ofNat (nat_lit 0)))])],
  [(nat_lit 13, nat_lit 2, []), (nat_lit 8, nat_lit 1, []), (nat_lit 6, nat_lit 1, [(nat_lit 3, (.ofNat (nat_lit 0))), (nat_lit 0, (.ofNat (nat_lit 0)))]), (nat_lit 5, nat_lit 0, [(nat_lit 0, (.ofNat (nat_lit 0))), (nat_lit 0, (.ofNat (nat_lit 3))), (nat_lit 5, (.ofNat (nat_lit 0)))]), (nat_lit 4, nat_lit 0, [(nat_lit 60, (.ofNat (nat_lit 0))), (nat_lit 0, (.ofNat (nat_lit 1)))]), (nat_lit 5, nat_lit 0, [(nat_lit 0, (.ofNat (nat_lit 0))), (nat_lit 0, (.ofNat (nat_lit 2))), (nat_lit 4, (.ofNat (nat_lit 0)))]), (nat_lit 4, nat_lit 0, [(nat_lit 60, (.ofNat (nat_lit 0))), (nat_lit 0, (.ofNat (nat_lit 0)))]), (nat_lit 5, nat_lit 0, [(nat_lit 0, (.ofNat (nat_lit 0))), (nat_lit 0, (.ofNat (nat_lit 1))), (nat_lit 0, (.ofNat (nat_lit 0)))]), (nat_lit 8, nat_lit 0, [(nat_lit 1, (.ofNat (nat_lit 0)))]), (nat_lit 6, nat_lit 5, [(nat_lit 1, (.ofNat (nat_lit 0))), (nat_lit 2, (.ofNat (nat_lit 0)))]), (nat_lit 4, nat_lit 0, [(nat_lit 0, (.ofNat (nat_lit 0))), (nat_lit 0, (.ofNat (nat_lit 1)))]), (nat_lit 6, nat_lit 3, [(nat_lit 1, (.ofNat (nat_lit 0))), (nat_lit 0, (.ofNat (nat_lit 0)))])],
  [(nat_lit 11, nat_lit 1, [(nat_lit 8, (.ofNat (nat_lit 0)))]), (nat_lit 4, nat_lit 0, [(nat_lit 32, (.ofNat (nat_lit 0))), (nat_lit 0, (.ofNat (nat_lit 0)))]), (nat_lit 5, nat_lit 1, [(nat_lit 0, (.ofNat (nat_lit 0))), (nat_lit 0, (.ofNat (nat_lit 9))), (nat_lit 0, (.ofNat (nat_lit 0)))]), (nat_lit 5, nat_lit 0, [(nat_lit 91, (.ofNat (nat_lit 0))), (nat_lit 0, (.ofNat (nat_lit 0))), (nat_lit 0, (.ofNat (nat_lit 0)))]), (nat_lit 8, nat_lit 2, []), (nat_lit 8, nat_lit 1, []), (nat_lit 6, nat_lit 1, [(nat_lit 3, (.ofNat (nat_lit 0))), (nat_lit 0, (.ofNat (nat_lit 0)))]), (nat_lit 5, nat_lit 0, [(nat_lit 0, (.ofNat (nat_lit 0))), (nat_lit 0, (.ofNat (nat_lit 3))), (nat_lit 5, (.ofNat (nat_lit 0)))]), (nat_lit 4, nat_lit 0, [(nat_lit 60, (.ofNat (nat_lit 0))), (nat_lit 0, (.ofNat (nat_lit 1)))]), (nat_lit 5, nat_lit 0, [(nat_lit 0, (.ofNat (nat_lit 0))), (nat_lit 0, (.ofNat (nat_lit 2))), (nat_lit 4, (.ofNat (nat_lit 0)))]), (nat_lit 4, nat_lit 0, [(nat_lit 60, (.ofNat (nat_lit 0))), (nat_lit 0, (.ofNat (nat_lit 0)))]), (nat_lit 5, nat_lit 0, [(nat_lit 0, (.ofNat (nat_lit 0))), (nat_lit 0, (.ofNat (nat_lit 1))), (nat_lit 0, (.ofNat (nat_lit 0)))]), (nat_lit 8, nat_lit 0, [(nat_lit 1, (.ofNat (nat_lit 0)))]), (nat_lit 6, nat_lit 5, [(nat_lit 1, (.ofNat (nat_lit 0))), (nat_lit 2, (.ofNat (nat_lit 0)))]), (nat_lit 4, nat_lit 0, [(nat_lit 0, (.ofNat (nat_lit 0))), (nat_lit 0, (.ofNat (nat_lit 1)))]), (nat_lit 6, nat_lit 3, [(nat_lit 1, (.ofNat (nat_lit 0))), (nat_lit 0, (.ofNat (nat_lit 0)))])],
  [(nat_lit 11, nat_lit 0, [(nat_lit 0, (.negSucc (nat_lit 0)))]), (nat_lit 6, nat_lit 0, [(nat_lit 3, (.ofNat (nat_lit 0))), (nat_lit 0, (.ofNat (nat_lit 0)))]), (nat_lit 5, nat_lit 0, [(nat_lit 0, (.ofNat (nat_lit 0))), (nat_lit 0, (.ofNat (nat_lit 3))), (nat_lit 5, (.ofNat (nat_lit 0)))]), (nat_lit 4, nat_lit 0, [(nat_lit 60, (.ofNat (nat_lit 0))), (nat_lit 0, (.ofNat (nat_lit 1)))]), (nat_lit 5, nat_lit 0, [(nat_lit 0, (.ofNat (nat_lit 0))), (nat_lit 0, (.ofNat (nat_lit 2))), (nat_lit 4, (.ofNat (nat_lit 0)))]), (nat_lit 4, nat_lit 0, [(nat_lit 60, (.ofNat (nat_lit 0))), (nat_lit 0, (.ofNat (nat_lit 0)))]), (nat_lit 5, nat_lit 0, [(nat_lit 0, (.ofNat (nat_lit 0))), (nat_lit 0, (.ofNat (nat_lit 1))), (nat_lit 0, (.ofNat (nat_lit 0)))]), (nat_lit 8, nat_lit 0, [(nat_lit 1, (.ofNat (nat_lit 0)))]), (nat_lit 6, nat_lit 5, [(nat_lit 1, (.ofNat (nat_lit 0))), (nat_lit 2, (.ofNat (nat_lit 0)))]), (nat_lit 4, nat_lit 0, [(nat_lit 0, (.ofNat (nat_lit 0))), (nat_lit 0, (.ofNat (nat_lit 1)))]), (nat_lit 6, nat_lit 3, [(nat_lit 1, (.ofNat (nat_lit 0))), (nat_lit 0, (.ofNat (nat_lit 0)))])],
  [(nat_lit 11, nat_lit 0, [(nat_lit 0, (.negSucc (nat_lit 1)))]), (nat_lit 6, nat_lit 4, [(nat_lit 1, (.ofNat (nat_lit 0))), (nat_lit 2, (.ofNat (nat_lit 0)))]), (nat_lit 4, nat_lit 0, [(nat_lit 0, (.ofNat (nat_lit 0))), (nat_lit 0, (.ofNat (nat_lit 1)))]), (nat_lit 6, nat_lit 3, [(nat_lit 1, (.ofNat (nat_lit 0))), (nat_lit 0, (.ofNat (nat_lit 0)))])]]
def zFqe_textK : List (List zK) := []
set_option maxHeartbeats 8000000 in
theorem zqe_textK {ro : Nat → List Int32} (hro : ro 2 = [0, 1, 2, 3, 4, 4, 4, 4, 4, 4, 5, 5, 6, 6]) : zMea pr_P pr_K pr_df ro (sm_X0 1 6) 7 66 tm_qe [(.inr (.inr (.inl (nat_lit 0)))), (.inl (nat_lit 1, (.ofNat (nat_lit 0))))] 1 [(nat_lit 0, nat_lit 0, nat_lit 1), (nat_lit 0, nat_lit 4, nat_lit 2), (nat_lit 0, nat_lit 5, nat_lit 32), (nat_lit 0, nat_lit 6, nat_lit 60), (nat_lit 0, nat_lit 7, nat_lit 70), (nat_lit 0, nat_lit 8, nat_lit 74), (nat_lit 0, nat_lit 11, nat_lit 78), (nat_lit 0, nat_lit 12, nat_lit 82), (nat_lit 0, nat_lit 13, nat_lit 90), (nat_lit 0, nat_lit 14, nat_lit 91), (nat_lit 0, nat_lit 15, nat_lit 95), (nat_lit 0, nat_lit 16, nat_lit 101), (nat_lit 2, nat_lit 8, nat_lit 3), (nat_lit 2, nat_lit 9, nat_lit 4), (nat_lit 2, nat_lit 10, nat_lit 5), (nat_lit 2, nat_lit 11, nat_lit 6), (nat_lit 2, nat_lit 12, nat_lit 11), (nat_lit 2, nat_lit 13, nat_lit 16), (nat_lit 2, nat_lit 14, nat_lit 17), (nat_lit 6, nat_lit 0, nat_lit 7), (nat_lit 11, nat_lit 0, nat_lit 12), (nat_lit 6, nat_lit 1, nat_lit 8), (nat_lit 11, nat_lit 1, nat_lit 13), (nat_lit 6, nat_lit 2, nat_lit 9), (nat_lit 11, nat_lit 2, nat_lit 14), (nat_lit 6, nat_lit 3, nat_lit 10), (nat_lit 11, nat_lit 3, nat_lit 15), (nat_lit 17, nat_lit 2, nat_lit 18), (nat_lit 17, nat_lit 3, nat_lit 19), (nat_lit 17, nat_lit 4, nat_lit 20), (nat_lit 17, nat_lit 5, nat_lit 21), (nat_lit 17, nat_lit 6, nat_lit 22), (nat_lit 32, nat_lit 8, nat_lit 33), (nat_lit 32, nat_lit 9, nat_lit 34), (nat_lit 32, nat_lit 10, nat_lit 35), (nat_lit 32, nat_lit 11, nat_lit 36), (nat_lit 32, nat_lit 12, nat_lit 41), (nat_lit 32, nat_lit 13, nat_lit 46), (nat_lit 32, nat_lit 14, nat_lit 47), (nat_lit 36, nat_lit 0, nat_lit 37), (nat_lit 41, nat_lit 0, nat_lit 42), (nat_lit 36, nat_lit 1, nat_lit 38), (nat_lit 41, nat_lit 1, nat_lit 43), (nat_lit 36, nat_lit 2, nat_lit 39), (nat_lit 41, nat_lit 2, nat_lit 44), (nat_lit 36, nat_lit 3, nat_lit 40), (nat_lit 41, nat_lit 3, nat_lit 45), (nat_lit 47, nat_lit 2, nat_lit 48), (nat_lit 47, nat_lit 3, nat_lit 49), (nat_lit 47, nat_lit 4, nat_lit 50), (nat_lit 47, nat_lit 5, nat_lit 51), (nat_lit 47, nat_lit 6, nat_lit 52), (nat_lit 60, nat_lit 3, nat_lit 1), (nat_lit 60, nat_lit 9, nat_lit 61), (nat_lit 60, nat_lit 10, nat_lit 62), (nat_lit 60, nat_lit 11, nat_lit 63), (nat_lit 70, nat_lit 8, nat_lit 71), (nat_lit 70, nat_lit 9, nat_lit 72), (nat_lit 70, nat_lit 10, nat_lit 73), (nat_lit 74, nat_lit 8, nat_lit 75), (nat_lit 74, nat_lit 9, nat_lit 76), (nat_lit 74, nat_lit 10, nat_lit 77), (nat_lit 78, nat_lit 8, nat_lit 79), (nat_lit 78, nat_lit 9, nat_lit 80), (nat_lit 78, nat_lit 10, nat_lit 81), (nat_lit 82, nat_lit 8, nat_lit 83), (nat_lit 82, nat_lit 9, nat_lit 84), (nat_lit 82, nat_lit 10, nat_lit 85), (nat_lit 91, nat_lit 1, nat_lit 92), (nat_lit 91, nat_lit 2, nat_lit 93), (nat_lit 91, nat_lit 3, nat_lit 94), (nat_lit 95, nat_lit 2, nat_lit 96), (nat_lit 95, nat_lit 3, nat_lit 97), (nat_lit 95, nat_lit 4, nat_lit 98), (nat_lit 95, nat_lit 5, nat_lit 99), (nat_lit 95, nat_lit 6, nat_lit 100)] [[], [(nat_lit 0, nat_lit 5, nat_lit 2), (nat_lit 0, nat_lit 4, nat_lit 32)]] [(nat_lit 90, nat_lit 0), (nat_lit 90, nat_lit 1), (nat_lit 60, nat_lit 2)] (fun xs η => sP wl_qe zTr zPqe_textK xs η ∧ pPqe_textK xs η) (fun j xs η y η' => zsQ wl_qe zTr zQqe_textK zMqe_textK xs η j y η' ∧ pWqe_textK xs η j y η') :=
  (zmea_gen (mi := (nat_lit 1, nat_lit 1, nat_lit 7, nat_lit 4, nat_lit 1, tX7_text)) (cd := [(nat_lit 30, nat_lit 0, nat_lit 6, [(.inr (.inr (.inl (nat_lit 60)))), (.inl (nat_lit 1, (.ofNat (nat_lit 0)))), (.inr (.inr (.inl (nat_lit 32))))], nat_lit 2, [(nat_lit 60, nat_lit 3, nat_lit 1), (nat_lit 60, nat_lit 9, nat_lit 61), (nat_lit 60, nat_lit 10, nat_lit 62), (nat_lit 60, nat_lit 11, nat_lit 63), (nat_lit 32, nat_lit 8, nat_lit 33), (nat_lit 32, nat_lit 9, nat_lit 34), (nat_lit 32, nat_lit 10, nat_lit 35), (nat_lit 32, nat_lit 11, nat_lit 36), (nat_lit 32, nat_lit 12, nat_lit 41), (nat_lit 32, nat_lit 13, nat_lit 46), (nat_lit 32, nat_lit 14, nat_lit 47), (nat_lit 36, nat_lit 0, nat_lit 37), (nat_lit 41, nat_lit 0, nat_lit 42), (nat_lit 36, nat_lit 1, nat_lit 38), (nat_lit 41, nat_lit 1, nat_lit 43), (nat_lit 36, nat_lit 2, nat_lit 39), (nat_lit 41, nat_lit 2, nat_lit 44), (nat_lit 36, nat_lit 3, nat_lit 40), (nat_lit 41, nat_lit 3, nat_lit 45), (nat_lit 47, nat_lit 2, nat_lit 48), (nat_lit 47, nat_lit 3, nat_lit 49), (nat_lit 47, nat_lit 4, nat_lit 50), (nat_lit 47, nat_lit 5, nat_lit 51), (nat_lit 47, nat_lit 6, nat_lit 52)], [(nat_lit 60, nat_lit 2, nat_lit 32)]), (nat_lit 7, nat_lit 1, nat_lit 1, [(.inr (.inr (.inl (nat_lit 70)))), (.inr (.inr (.inl (nat_lit 32))))], nat_lit 0, [(nat_lit 70, nat_lit 8, nat_lit 71), (nat_lit 70, nat_lit 9, nat_lit 72), (nat_lit 70, nat_lit 10, nat_lit 73)], []), (nat_lit 58, nat_lit 2, nat_lit 0, [(.inr (.inr (.inl (nat_lit 95))))], nat_lit 0, [(nat_lit 95, nat_lit 2, nat_lit 96), (nat_lit 95, nat_lit 3, nat_lit 97), (nat_lit 95, nat_lit 4, nat_lit 98), (nat_lit 95, nat_lit 5, nat_lit 99), (nat_lit 95, nat_lit 6, nat_lit 100)], [])]) (cu := []) (cs := [(nat_lit 0, zPqe_read, zOqe_read, zMqe_read), (nat_lit 1, zPqe_startB, zOqe_startB, zMqe_startB), (nat_lit 2, zPqe_tapeWipeX, zOqe_tapeWipeX, zMqe_tapeWipeX)]) (iv := zVqe_textK) (po := zQqe_textK) (pr := zPqe_textK) (mods := zMqe_textK) (D7 := zDqe_textK) (D0 := zEqe_textK) (Dm := zFqe_textK) (f0 := 61) pCqe_textK qCqe_textK iCqe_textK pPqe_textK pWqe_textK zX_low pr_mtR rfl (List.forall_mem_cons.mpr ⟨zqe_read hro, List.forall_mem_cons.mpr ⟨zqe_startB, List.forall_mem_cons.mpr ⟨zqe_tapeWipeX, fun _ h => nomatch h⟩⟩⟩) (by decide +kernel) (by decide +kernel) (by decide +kernel)
    (by
      intro xs η hr hl hp hpp
      match xs, hl, hp, hpp with
      | [x1], _, hp, hpp =>
        refine List.forall_mem_cons.mpr ⟨?_, List.forall_mem_cons.mpr ⟨?_, List.forall_mem_cons.mpr ⟨?_, List.forall_mem_cons.mpr ⟨?_, List.forall_mem_cons.mpr ⟨?_, List.forall_mem_cons.mpr ⟨?_, List.forall_mem_cons.mpr ⟨?_, fun _ h => nomatch h⟩⟩⟩⟩⟩⟩⟩
        · show (x1 < 0) → (pWqe_textK [x1] η) 0 (-2) η
          have wk0 : yp_wk η := hpp.2
          have hpp := hpp.1
          intro c1
          refine yj_a ?_ ?_
          · exact ⟨hpp.1, hpp.2, fun _ => rfl, fun (a : 0 ≤ x1) _ => by omega⟩
          · refine ⟨?_, rfl⟩
            show yp_t0 x1 η _ _
            exact ⟨fun _ => ⟨rfl, rfl, rfl⟩, fun a b => by omega⟩
        · show (0 ≤ x1) → ∀ x2 : Int, x2 = η 0 (Int.toNat 1) → zok 0 x2 → (x1 ≤ x2) → ((gC2 wl_qe [(nat_lit 0, zPqe_read, zOqe_read, zMqe_read), (nat_lit 1, zPqe_startB, zOqe_startB, zMqe_startB), (nat_lit 2, zPqe_tapeWipeX, zOqe_tapeWipeX, zMqe_tapeWipeX)] pCqe_textK qCqe_textK) 0).1 [x1] η
          have wk0 : yp_wk η := hpp.2
          have hpp := hpp.1
          intro c1 x2 e2 r2 c2
          refine yj_a ?_ ?_
          · exact hpp.2
          · exact wk0
        · show (0 ≤ x1) → ∀ x2 : Int, x2 = η 0 (Int.toNat 1) → zok 0 x2 → (x1 ≤ x2) → ∀ (x3 : Int) (η1 : zE), ((gC2 wl_qe [(nat_lit 0, zPqe_read, zOqe_read, zMqe_read), (nat_lit 1, zPqe_startB, zOqe_startB, zMqe_startB), (nat_lit 2, zPqe_tapeWipeX, zOqe_tapeWipeX, zMqe_tapeWipeX)] pCqe_textK qCqe_textK) 0).2 [x1] η x3 η1 → ∀ η2 : zE, η2 = zup η1 0 (Int.toNat 1) 0 → ∀ x4 : Int, x4 = η2 60 (Int.toNat 0) → zok 0 x4 → ∀ η3 : zE, η3 = zup η2 0 (Int.toNat 2) x4 → ∀ x5 : Int, x5 = η3 60 (Int.toNat 1) → zok 0 x5 → ∀ η4 : zE, η4 = zup η3 0 (Int.toNat 3) x5 → (¬ x3 = 0) → ((gC2 wl_qe [(nat_lit 0, zPqe_read, zOqe_read, zMqe_read), (nat_lit 1, zPqe_startB, zOqe_startB, zMqe_startB), (nat_lit 2, zPqe_tapeWipeX, zOqe_tapeWipeX, zMqe_tapeWipeX)] pCqe_textK qCqe_textK) 1).1 [] η4
          have wk0 : yp_wk η := hpp.2
          have hpp := hpp.1
          intro c1 x2 e2 r2 c2 x3 η1 h3 η2 eη2 x4 e4 r4 η3 eη3 x5 e5 r5 η4 eη4 c3
          have y3 : fQqe_read [x1] η x3 η1 := h3.2.2
          have k3 : sQ wl_qe zTr zOqe_read zMqe_read [x1] η x3 η1 ∧ oQqe_read [x1] η x3 η1 := ⟨h3.1, h3.2.1⟩
          have g : GB_q η1 := gb_of k3.2.1 (k3.2.2 c3)
          refine ⟨?_, ?_⟩
          · rw [eη4, eη3, eη2]
            exact zGk_up gkB_q (zGk_up gkB_q (zGk_up gkB_q g (by decide +kernel)) (by decide +kernel)) (by decide +kernel)
          · rw [eη4, eη3, eη2]
            exact zGk_up gk_r (zGk_up gk_r (zGk_up gk_r k3.2.1.1 (by decide +kernel)) (by decide +kernel)) (by decide +kernel)
        · show (0 ≤ x1) → ∀ x2 : Int, x2 = η 0 (Int.toNat 1) → zok 0 x2 → (x1 ≤ x2) → ∀ (x3 : Int) (η1 : zE), ((gC2 wl_qe [(nat_lit 0, zPqe_read, zOqe_read, zMqe_read), (nat_lit 1, zPqe_startB, zOqe_startB, zMqe_startB), (nat_lit 2, zPqe_tapeWipeX, zOqe_tapeWipeX, zMqe_tapeWipeX)] pCqe_textK qCqe_textK) 0).2 [x1] η x3 η1 → ∀ η2 : zE, η2 = zup η1 0 (Int.toNat 1) 0 → ∀ x4 : Int, x4 = η2 60 (Int.toNat 0) → zok 0 x4 → ∀ η3 : zE, η3 = zup η2 0 (Int.toNat 2) x4 → ∀ x5 : Int, x5 = η3 60 (Int.toNat 1) → zok 0 x5 → ∀ η4 : zE, η4 = zup η3 0 (Int.toNat 3) x5 → (¬ x3 = 0) → ∀ (x6 : Int) (η5 : zE), ((gC2 wl_qe [(nat_lit 0, zPqe_read, zOqe_read, zMqe_read), (nat_lit 1, zPqe_startB, zOqe_startB, zMqe_startB), (nat_lit 2, zPqe_tapeWipeX, zOqe_tapeWipeX, zMqe_tapeWipeX)] pCqe_textK qCqe_textK) 1).2 [] η4 x6 η5 → ((gC2 wl_qe [(nat_lit 0, zPqe_read, zOqe_read, zMqe_read), (nat_lit 1, zPqe_startB, zOqe_startB, zMqe_startB), (nat_lit 2, zPqe_tapeWipeX, zOqe_tapeWipeX, zMqe_tapeWipeX)] pCqe_textK qCqe_textK) 2).1 [] η5
          have wk0 : yp_wk η := hpp.2
          have hpp := hpp.1
          intro c1 x2 e2 r2 c2 x3 η1 h3 η2 eη2 x4 e4 r4 η3 eη3 x5 e5 r5 η4 eη4 c3 x6 η5 h6
          have y3 : fQqe_read [x1] η x3 η1 := h3.2.2
          have k3 : sQ wl_qe zTr zOqe_read zMqe_read [x1] η x3 η1 ∧ oQqe_read [x1] η x3 η1 := ⟨h3.1, h3.2.1⟩
          have k6 : sQ wl_qe zTr zOqe_startB zMqe_startB [] η4 x6 η5 ∧ pQqe_startB [] η4 x6 η5 := h6
          refine yj_a ?_ ?_
          · have y3 : fQqe_read [x1] η x3 η1 := h3.2.2
            have k3 : sQ wl_qe zTr zOqe_read zMqe_read [x1] η x3 η1 ∧ oQqe_read [x1] η x3 η1 := ⟨h3.1, h3.2.1⟩
            have k6 : sQ wl_qe zTr zOqe_startB zMqe_startB [] η4 x6 η5 ∧ pQqe_startB [] η4 x6 η5 := h6
            exact k6.2
          · have wk1 : yp_wk η1 := wk_of wk0 (fun j => k3.1.2.2.2.1 62 j (zinr_not (by decide +kernel)))
            have wk2 : yp_wk η2 := wk_of wk1 (fun j => by rw [eη2]; rfl)
            have wk3 : yp_wk η3 := wk_of wk2 (fun j => by rw [eη3]; rfl)
            have wk4 : yp_wk η4 := wk_of wk3 (fun j => by rw [eη4]; rfl)
            have wk5 : yp_wk η5 := wk_of wk4 (fun j => k6.1.2.2.2.1 62 j (zinr_not (by decide +kernel)))
            exact wk5
        · show (0 ≤ x1) → ∀ x2 : Int, x2 = η 0 (Int.toNat 1) → zok 0 x2 → (x1 ≤ x2) → ∀ (x3 : Int) (η1 : zE), ((gC2 wl_qe [(nat_lit 0, zPqe_read, zOqe_read, zMqe_read), (nat_lit 1, zPqe_startB, zOqe_startB, zMqe_startB), (nat_lit 2, zPqe_tapeWipeX, zOqe_tapeWipeX, zMqe_tapeWipeX)] pCqe_textK qCqe_textK) 0).2 [x1] η x3 η1 → ∀ η2 : zE, η2 = zup η1 0 (Int.toNat 1) 0 → ∀ x4 : Int, x4 = η2 60 (Int.toNat 0) → zok 0 x4 → ∀ η3 : zE, η3 = zup η2 0 (Int.toNat 2) x4 → ∀ x5 : Int, x5 = η3 60 (Int.toNat 1) → zok 0 x5 → ∀ η4 : zE, η4 = zup η3 0 (Int.toNat 3) x5 → (¬ x3 = 0) → ∀ (x6 : Int) (η5 : zE), ((gC2 wl_qe [(nat_lit 0, zPqe_read, zOqe_read, zMqe_read), (nat_lit 1, zPqe_startB, zOqe_startB, zMqe_startB), (nat_lit 2, zPqe_tapeWipeX, zOqe_tapeWipeX, zMqe_tapeWipeX)] pCqe_textK qCqe_textK) 1).2 [] η4 x6 η5 → ∀ (x7 : Int) (η6 : zE), ((gC2 wl_qe [(nat_lit 0, zPqe_read, zOqe_read, zMqe_read), (nat_lit 1, zPqe_startB, zOqe_startB, zMqe_startB), (nat_lit 2, zPqe_tapeWipeX, zOqe_tapeWipeX, zMqe_tapeWipeX)] pCqe_textK qCqe_textK) 2).2 [] η5 x7 η6 → ∀ η7 : zE, η7 = zup η6 91 (Int.toNat 0) 0 → ∀ η8 : zE, η8 = zup η7 0 (Int.toNat 9) 0 → ∀ x8 : Int, x8 = η8 32 (Int.toNat 0) → zok 0 x8 → (pWqe_textK [x1] η) 1 x8 η8
          have wk0 : yp_wk η := hpp.2
          have hpp := hpp.1
          intro c1 x2 e2 r2 c2 x3 η1 h3 η2 eη2 x4 e4 r4 η3 eη3 x5 e5 r5 η4 eη4 c3 x6 η5 h6 x7 η6 h7 η7 eη7 η8 eη8 x8 e8 r8
          have y3 : fQqe_read [x1] η x3 η1 := h3.2.2
          have k3 : sQ wl_qe zTr zOqe_read zMqe_read [x1] η x3 η1 ∧ oQqe_read [x1] η x3 η1 := ⟨h3.1, h3.2.1⟩
          have k6 : sQ wl_qe zTr zOqe_startB zMqe_startB [] η4 x6 η5 ∧ pQqe_startB [] η4 x6 η5 := h6
          have y7 : fQqe_tapeWipeX [] η5 x7 η6 := h7.2.2
          have k7 : sQ wl_qe zTr zOqe_tapeWipeX zMqe_tapeWipeX [] η5 x7 η6 ∧ oQqe_tapeWipeX [] η5 x7 η6 := ⟨h7.1, h7.2.1⟩
          refine yj_a ?_ ?_
          · have y3 : fQqe_read [x1] η x3 η1 := h3.2.2
            have k3 : sQ wl_qe zTr zOqe_read zMqe_read [x1] η x3 η1 ∧ oQqe_read [x1] η x3 η1 := ⟨h3.1, h3.2.1⟩
            have k6 : sQ wl_qe zTr zOqe_startB zMqe_startB [] η4 x6 η5 ∧ pQqe_startB [] η4 x6 η5 := h6
            have y7 : fQqe_tapeWipeX [] η5 x7 η6 := h7.2.2
            have k7 : sQ wl_qe zTr zOqe_tapeWipeX zMqe_tapeWipeX [] η5 x7 η6 ∧ oQqe_tapeWipeX [] η5 x7 η6 := ⟨h7.1, h7.2.1⟩
            have z4 : η4 0 1 = 0 := by rw [eη4, zup_ne (fun _ e => absurd e (by decide)), eη3, zup_ne (fun _ e => absurd e (by decide)), eη2]; exact zup_eq
            have e2 : x2 = η 0 1 := e2
            have z5 : η5 0 1 = η4 0 1 := k6.1.2.2.2.1 _ _ (by decide +kernel)
            have z6 : η6 0 1 = η5 0 1 := k7.1.2.2.2.1 _ _ (by decide +kernel)
            have z8 : η8 0 1 = 0 := by rw [eη8, zup_ne (fun _ e => absurd e (by decide)), eη7, zup_ne (fun e _ => absurd e (by decide)), z6, z5, z4]
            refine ⟨?_, ?_, fun (w : x1 < 0 ∨ η 0 1 < x1) => by omega, fun _ _ => z8⟩
            · rw [eη8, eη7]
              exact zGk_up gkB_q (zGk_up gkB_q k7.2.1 (by decide +kernel)) (by decide +kernel)
            · rw [eη8, eη7]
              exact zGk_up gk_r (zGk_up gk_r k7.2.2 (by decide +kernel)) (by decide +kernel)
          · have e2 : x2 = η 0 1 := e2
            obtain ⟨y, z⟩ : x3 = (if yp_R x1 η 60 0 = 0 then 1 else 0) ∧ η1 = yp_R x1 η := y3
            have e4 : x4 = η2 60 0 := e4
            have e5 : x5 = η3 60 1 := e5
            have q0 : x4 = yp_R x1 η 60 0 := by rw [e4, eη2, ← z]; rfl
            have q1 : x5 = yp_R x1 η 60 1 := by rw [e5, eη3, eη2, ← z]; rfl
            have f2 : η4 0 2 = yp_R x1 η 60 0 := by rw [eη4, eη3, ← q0]; rfl
            have f3 : η4 0 3 = yp_R x1 η 60 1 := by rw [eη4, ← q1]; rfl
            have hn : yp_R x1 η 60 0 = 0 := by
              by_cases w : yp_R x1 η 60 0 = 0
              · exact w
              · rw [if_neg w] at y
                omega
            have fr : ∀ r j, 32 ≤ r → r ≤ 50 → η8 r j = yp_R x1 η r j := fun r j a b => by
              rw [eη8, zup_ne (fun e _ => by omega), eη7, zup_ne (fun e _ => by omega), k7.1.2.2.2.1 r j (in_no (by decide) a b), k6.1.2.2.2.1 r j (in_no (by decide) a b), eη4, zup_ne (fun e _ => by omega), eη3, zup_ne (fun e _ => by omega), eη2, zup_ne (fun e _ => by omega), z]
            have g2 : η8 0 2 = η4 0 2 := by
              rw [eη8, zup_ne (fun _ e => by omega), eη7, zup_ne (fun e _ => by omega), k7.1.2.2.2.1 0 2 (by decide +kernel), k6.1.2.2.2.1 0 2 (by decide +kernel)]
            have g3 : η8 0 3 = η4 0 3 := by
              rw [eη8, zup_ne (fun _ e => by omega), eη7, zup_ne (fun e _ => by omega), k7.1.2.2.2.1 0 3 (by decide +kernel), k6.1.2.2.2.1 0 3 (by decide +kernel)]
            have e8 : x8 = η8 32 0 := e8
            refine ⟨?_, ?_⟩
            rotate_left
            · show η8 95 0 = 0
              rw [eη8, zup_ne (fun e _ => absurd e (by decide)), eη7, zup_ne (fun e _ => absurd e (by decide))]
              have w : η6 = zup (zup η5 95 0 0) 95 1 (-1) := y7
              rw [w, zup_ne (fun _ e => absurd e (by decide)), zup_eq]
            show yp_t1 x1 η _ _
            exact ⟨by omega, by omega, hn, e8.trans (fr 32 0 (by decide) (by decide)), g2.trans f2, g3.trans f3, fr⟩
        · show (0 ≤ x1) → ∀ x2 : Int, x2 = η 0 (Int.toNat 1) → zok 0 x2 → (x1 ≤ x2) → ∀ (x3 : Int) (η1 : zE), ((gC2 wl_qe [(nat_lit 0, zPqe_read, zOqe_read, zMqe_read), (nat_lit 1, zPqe_startB, zOqe_startB, zMqe_startB), (nat_lit 2, zPqe_tapeWipeX, zOqe_tapeWipeX, zMqe_tapeWipeX)] pCqe_textK qCqe_textK) 0).2 [x1] η x3 η1 → ∀ η2 : zE, η2 = zup η1 0 (Int.toNat 1) 0 → ∀ x4 : Int, x4 = η2 60 (Int.toNat 0) → zok 0 x4 → ∀ η3 : zE, η3 = zup η2 0 (Int.toNat 2) x4 → ∀ x5 : Int, x5 = η3 60 (Int.toNat 1) → zok 0 x5 → ∀ η4 : zE, η4 = zup η3 0 (Int.toNat 3) x5 → (x3 = 0) → (pWqe_textK [x1] η) 0 (-1) η4
          have wk0 : yp_wk η := hpp.2
          have hpp := hpp.1
          intro c1 x2 e2 r2 c2 x3 η1 h3 η2 eη2 x4 e4 r4 η3 eη3 x5 e5 r5 η4 eη4 c3
          have y3 : fQqe_read [x1] η x3 η1 := h3.2.2
          have k3 : sQ wl_qe zTr zOqe_read zMqe_read [x1] η x3 η1 ∧ oQqe_read [x1] η x3 η1 := ⟨h3.1, h3.2.1⟩
          refine yj_a ?_ ?_
          · have y3 : fQqe_read [x1] η x3 η1 := h3.2.2
            have k3 : sQ wl_qe zTr zOqe_read zMqe_read [x1] η x3 η1 ∧ oQqe_read [x1] η x3 η1 := ⟨h3.1, h3.2.1⟩
            have z4 : η4 0 1 = 0 := by rw [eη4, zup_ne (fun _ e => absurd e (by decide)), eη3, zup_ne (fun _ e => absurd e (by decide)), eη2]; exact zup_eq
            have e2 : x2 = η 0 1 := e2
            have g : GA_q η1 := zGk_fm gkA_q hpp.1 k3.1.2.2.2.1 (by decide +kernel)
            refine ⟨?_, ?_, fun (w : x1 < 0 ∨ η 0 1 < x1) => by omega, fun _ _ => z4⟩
            · rw [eη4, eη3, eη2]
              exact zGk_up gkA_q (zGk_up gkA_q (zGk_up gkA_q g (by decide +kernel)) (by decide +kernel)) (by decide +kernel)
            · rw [eη4, eη3, eη2]
              exact zGk_up gk_r (zGk_up gk_r (zGk_up gk_r k3.2.1.1 (by decide +kernel)) (by decide +kernel)) (by decide +kernel)
          · have e2 : x2 = η 0 1 := e2
            obtain ⟨y, z⟩ : x3 = (if yp_R x1 η 60 0 = 0 then 1 else 0) ∧ η1 = yp_R x1 η := y3
            have e4 : x4 = η2 60 0 := e4
            have e5 : x5 = η3 60 1 := e5
            have q0 : x4 = yp_R x1 η 60 0 := by rw [e4, eη2, ← z]; rfl
            have q1 : x5 = yp_R x1 η 60 1 := by rw [e5, eη3, eη2, ← z]; rfl
            have f2 : η4 0 2 = yp_R x1 η 60 0 := by rw [eη4, eη3, ← q0]; rfl
            have f3 : η4 0 3 = yp_R x1 η 60 1 := by rw [eη4, ← q1]; rfl
            have hn : ¬ yp_R x1 η 60 0 = 0 := fun w => by
              rw [if_pos w] at y
              omega
            refine ⟨?_, ?_⟩
            rotate_left
            · show η4 95 0 = η 95 0
              rw [eη4, zup_ne (fun e _ => absurd e (by decide)), eη3, zup_ne (fun e _ => absurd e (by decide)), eη2, zup_ne (fun e _ => absurd e (by decide))]
              exact k3.1.2.2.2.1 95 0 (by decide +kernel)
            show yp_t0 x1 η _ _
            exact ⟨fun a => by omega, fun _ _ => ⟨rfl, hn, f2, f3⟩⟩
        · show (0 ≤ x1) → ∀ x2 : Int, x2 = η 0 (Int.toNat 1) → zok 0 x2 → (x2 < x1) → (pWqe_textK [x1] η) 0 (-2) η
          have wk0 : yp_wk η := hpp.2
          have hpp := hpp.1
          intro c1 x2 e2 r2 c2
          refine yj_a ?_ ?_
          · have e2 : x2 = η 0 1 := e2
            exact ⟨hpp.1, hpp.2, fun _ => rfl, fun _ (b : x1 ≤ η 0 1) => by omega⟩
          · have e2 : x2 = η 0 1 := e2
            refine ⟨?_, rfl⟩
            show yp_t0 x1 η _ _
            exact ⟨fun _ => ⟨rfl, rfl, rfl⟩, fun a b => by omega⟩
      )
    (fun _ _ _ _ _ _ _ h => nomatch h)
    (fun _ h => nomatch h))
