set_option maxHeartbeats 8000000 in
theorem zhs_bestBit7 {ro : Nat → List Int32} : zMet pr_P pr_K pr_df ro (sm_X0 1 6) 1 200 tm_hs [(.inr (.inr (.inl (nat_lit 0)))), (.inl (nat_lit 1, (.ofNat (nat_lit 0))))] 1 [(nat_lit 0, nat_lit 0, nat_lit 1), (nat_lit 0, nat_lit 3, nat_lit 2), (nat_lit 0, nat_lit 20, nat_lit 3), (nat_lit 0, nat_lit 21, nat_lit 4), (nat_lit 0, nat_lit 22, nat_lit 5), (nat_lit 0, nat_lit 23, nat_lit 6), (nat_lit 0, nat_lit 24, nat_lit 7), (nat_lit 0, nat_lit 25, nat_lit 8), (nat_lit 0, nat_lit 26, nat_lit 9), (nat_lit 0, nat_lit 27, nat_lit 10), (nat_lit 0, nat_lit 28, nat_lit 11), (nat_lit 0, nat_lit 29, nat_lit 12), (nat_lit 0, nat_lit 30, nat_lit 13), (nat_lit 0, nat_lit 31, nat_lit 14), (nat_lit 0, nat_lit 32, nat_lit 15), (nat_lit 0, nat_lit 33, nat_lit 16), (nat_lit 0, nat_lit 34, nat_lit 17), (nat_lit 0, nat_lit 35, nat_lit 18), (nat_lit 0, nat_lit 36, nat_lit 19), (nat_lit 0, nat_lit 37, nat_lit 20), (nat_lit 0, nat_lit 38, nat_lit 21), (nat_lit 0, nat_lit 39, nat_lit 22), (nat_lit 0, nat_lit 40, nat_lit 23), (nat_lit 0, nat_lit 47, nat_lit 24), (nat_lit 0, nat_lit 48, nat_lit 25), (nat_lit 0, nat_lit 50, nat_lit 26), (nat_lit 0, nat_lit 51, nat_lit 27), (nat_lit 0, nat_lit 52, nat_lit 28), (nat_lit 0, nat_lit 53, nat_lit 29), (nat_lit 0, nat_lit 54, nat_lit 30), (nat_lit 0, nat_lit 55, nat_lit 31), (nat_lit 0, nat_lit 56, nat_lit 32), (nat_lit 0, nat_lit 57, nat_lit 33), (nat_lit 0, nat_lit 58, nat_lit 34), (nat_lit 0, nat_lit 59, nat_lit 35), (nat_lit 0, nat_lit 72, nat_lit 36), (nat_lit 0, nat_lit 73, nat_lit 37), (nat_lit 0, nat_lit 76, nat_lit 38), (nat_lit 0, nat_lit 77, nat_lit 39), (nat_lit 0, nat_lit 79, nat_lit 40), (nat_lit 0, nat_lit 81, nat_lit 41), (nat_lit 0, nat_lit 82, nat_lit 42)] [] (fun xs η => sP wl_hs zTr zPhs_bestBit7 xs η ∧ pPhs_bestBit7 xs η) (fun xs η y η' => sQ wl_hs zTr zOhs_bestBit7 zMhs_bestBit7 xs η y η' ∧ pQhs_bestBit7 xs η y η') :=
  zmet_alt (zmea_gen (mi := (nat_lit 1, nat_lit 1, nat_lit 8, nat_lit 7, nat_lit 1, tX8_bestBit)) (cd := [(nat_lit 117, nat_lit 0, nat_lit 0, [(.inl (nat_lit 1, (.ofNat (nat_lit 0)))), (.inl (nat_lit 2, (.ofNat (nat_lit 0)))), (.inl (nat_lit 3, (.ofNat (nat_lit 0))))], nat_lit 2, [], [])]) (cu := zUhs_bestBit7) (cs := [(nat_lit 0, zPhs_isIn, zOhs_isIn, zMhs_isIn)]) (iv := zVhs_bestBit7) (po := [zOhs_bestBit7]) (pr := zPhs_bestBit7) (mods := zMhs_bestBit7) (D7 := zDhs_bestBit7) (D0 := zEhs_bestBit7) (Dm := zFhs_bestBit7) (f0 := 19) pChs_bestBit7 qChs_bestBit7 iChs_bestBit7 pPhs_bestBit7 (fun xs η _ y η' => pQhs_bestBit7 xs η y η') zX_low pr_mtR rfl (List.forall_mem_cons.mpr ⟨zhs_isIn, fun _ h => nomatch h⟩) (by decide +kernel) (by decide +kernel) (by decide +kernel)
    (by
      intro xs η hr hl hp hpp
      match xs, hl, hp, hpp with
      | [x1], _, hp, hpp =>
        refine List.forall_mem_cons.mpr ⟨?_, List.forall_mem_cons.mpr ⟨?_, List.forall_mem_cons.mpr ⟨?_, fun _ h => nomatch h⟩⟩⟩
        · refine zden_L (n := 2) (ρ := [x1, 0]) rfl ?_
          show ∀ η1 : zE, η1 = zup η 0 (Int.toNat 2) 0 → ((gC2 wl_hs [(nat_lit 0, zPhs_isIn, zOhs_isIn, zMhs_isIn)] pChs_bestBit7 qChs_bestBit7) 0).1 [x1, 1, 12] η1
          intro η1 eη1
          exact trivial
        · refine zden_L (n := 2) (ρ := [x1, 0]) rfl ?_
          exact zhs_bestBit7_o0 (ro := ro) x1 η hp hpp
        · refine zden_L (n := 2) (ρ := [x1, 0]) rfl ?_
          exact zhs_bestBit7_o1 (ro := ro) x1 η hp hpp
      )
    (fun _ _ _ _ _ _ _ h => nomatch h)
    (List.forall_mem_cons.mpr ⟨⟨zDhs_bestBit7_0, zEhs_bestBit7_0, zFhs_bestBit7_0, 15, by decide +kernel, (by
      intro xs η0 hlx hp hpp ys η hr hl hI hig
      match ys, hl, hI, hig with
      | [x1, x2, x3, x4], _, hI, hig =>
        refine ⟨?_, ?_⟩
        · refine List.forall_mem_cons.mpr ⟨?_, List.forall_mem_cons.mpr ⟨?_, fun _ h => nomatch h⟩⟩
          · refine zden_L (n := 5) (ρ := [x4, x3, x2, x1, 0]) rfl ?_
            exact zhs_bestBit7_o2 (ro := ro) xs η0 hp hpp x1 x2 x3 x4 η hI hig
          · refine zden_L (n := 5) (ρ := [x4, x3, x2, x1, 0]) rfl ?_
            exact zhs_bestBit7_o3 (ro := ro) xs η0 hp hpp x1 x2 x3 x4 η hI hig
        · exact fun _ h => nomatch h
      )⟩, (List.forall_mem_cons.mpr ⟨⟨zDhs_bestBit7_1, zEhs_bestBit7_1, zFhs_bestBit7_1, 19, by decide +kernel, (by
      intro xs η0 hlx hp hpp ys η hr hl hI hig
      match ys, hl, hI, hig with
      | [x1, x2, x3, x4, x5, x6], _, hI, hig =>
        refine ⟨?_, ?_⟩
        · refine List.forall_mem_cons.mpr ⟨?_, List.forall_mem_cons.mpr ⟨?_, List.forall_mem_cons.mpr ⟨?_, fun _ h => nomatch h⟩⟩⟩
          · refine zden_L (n := 7) (ρ := [x6, x5, x4, x3, x2, x1, 0]) rfl ?_
            exact zhs_bestBit7_o4 (ro := ro) xs η0 hp hpp x1 x2 x3 x4 x5 x6 η hI hig
          · refine zden_L (n := 7) (ρ := [x6, x5, x4, x3, x2, x1, 0]) rfl ?_
            exact zhs_bestBit7_o5 (ro := ro) xs η0 hp hpp x1 x2 x3 x4 x5 x6 η hI hig
          · refine zden_L (n := 7) (ρ := [x6, x5, x4, x3, x2, x1, 0]) rfl ?_
            exact zhs_bestBit7_o6 (ro := ro) xs η0 hp hpp x1 x2 x3 x4 x5 x6 η hI hig
        · exact fun _ h => nomatch h
      )⟩, (fun _ h => nomatch h)⟩)⟩))
def zPhs_bestBit8 : zPq := ([((.ofNat (nat_lit 8)), (.ofNat (nat_lit 8)))], [])
def zOhs_bestBit8 : zPo := (((.negSucc (nat_lit 2147483647)), (.ofNat (nat_lit 2147483647))), [], [])
def zMhs_bestBit8 : List zCe := [(nat_lit 0, nat_lit 3)]
def pPhs_bestBit8 : List Int → zE → Prop := fun _ _ => True
def oQhs_bestBit8 : List Int → zE → Int → zE → Prop := fun _ _ _ _ => True
def fQhs_bestBit8 : List Int → zE → Int → zE → Prop := fun xs η y η' => y = (yw_bb (xs.getD 0 0) η) ∧ η' = (zup η 0 2 0)
def pQhs_bestBit8 : List Int → zE → Int → zE → Prop := fun xs η y η' => oQhs_bestBit8 xs η y η' ∧ fQhs_bestBit8 xs η y η'
def pChs_bestBit8 : Nat → List Int → zE → Prop := fun c => match c with
  | 0 => pPhs_isIn
  | _ => fun _ _ => True
def qChs_bestBit8 : Nat → List Int → zE → Int → zE → Prop := fun c => match c with
  | 0 => pQhs_isIn
  | _ => fun _ _ _ _ => True
def iChs_bestBit8 : List Int → zE → Nat → List Int → zE → Prop := fun xs η0 c => match c with
  | 0 => fun ys η => (True) ∧ (yw_bI η0 (xs.getD 0 0) (ys.getD 0 0) (ys.getD 1 0) (ys.getD 2 0) (ys.getD 3 0) η)
  | 1 => fun ys η => (True) ∧ (yw_bJ η0 (xs.getD 0 0) (ys.getD 0 0) (ys.getD 1 0) (ys.getD 2 0) (ys.getD 3 0) (ys.getD 4 0) (ys.getD 5 0) η)
  | _ => fun _ _ => True
def zVhs_bestBit8 : List zIv := [(nat_lit 0, ([((.ofNat (nat_lit 8)), (.ofNat (nat_lit 8))), ((.negSucc (nat_lit 2147483647)), (.ofNat (nat_lit 2147483647))), ((.negSucc (nat_lit 2147483647)), (.ofNat (nat_lit 2147483647))), ((.ofNat (nat_lit 0)), (.ofNat (nat_lit 5)))], []), ((.ofNat (nat_lit 2000)), [((.negSucc (nat_lit 99)), nat_lit 0, nat_lit 3, nat_lit 0)])), (nat_lit 1, ([((.ofNat (nat_lit 8)), (.ofNat (nat_lit 8))), ((.negSucc (nat_lit 2147483647)), (.ofNat (nat_lit 2147483647))), ((.negSucc (nat_lit 2147483647)), (.ofNat (nat_lit 2147483647))), ((.ofNat (nat_lit 0)), (.ofNat (nat_lit 4))), ((.negSucc (nat_lit 2147483647)), (.ofNat (nat_lit 2147483647))), ((.ofNat (nat_lit 0)), (.ofNat (nat_lit 8)))], []), ((.ofNat (nat_lit 1950)), [((.negSucc (nat_lit 99)), nat_lit 0, nat_lit 3, nat_lit 0), ((.negSucc (nat_lit 0)), nat_lit 0, nat_lit 5, nat_lit 0)]))]
def zUhs_bestBit8 : List zCu := [(nat_lit 25, nat_lit 0, [(nat_lit 0, (.inr (.inr (.inl (nat_lit 0))))), (nat_lit 1, (.inl (nat_lit 1, (.ofNat (nat_lit 0))))), (nat_lit 2, (.inl (nat_lit 2, (.ofNat (nat_lit 0))))), (nat_lit 3, (.inl (nat_lit 3, (.ofNat (nat_lit 0))))), (nat_lit 4, (.inl (nat_lit 4, (.ofNat (nat_lit 0)))))], []), (nat_lit 42, nat_lit 1, [(nat_lit 0, (.inr (.inr (.inl (nat_lit 0))))), (nat_lit 1, (.inl (nat_lit 1, (.ofNat (nat_lit 0))))), (nat_lit 2, (.inl (nat_lit 2, (.ofNat (nat_lit 0))))), (nat_lit 3, (.inl (nat_lit 3, (.ofNat (nat_lit 0))))), (nat_lit 4, (.inl (nat_lit 4, (.ofNat (nat_lit 0))))), (nat_lit 5, (.inl (nat_lit 5, (.ofNat (nat_lit 0))))), (nat_lit 6, (.inl (nat_lit 6, (.ofNat (nat_lit 0)))))], [])]
def zDhs_bestBit8 : List (List zK) := []
def zEhs_bestBit8 : List (List zK) := [[(nat_lit 13, nat_lit 0, [(nat_lit 1, (.ofNat (nat_lit 0))), (nat_lit 0, (.ofNat (nat_lit 1))), (nat_lit 0, (.ofNat (nat_lit 12)))]), (nat_lit 5, nat_lit 0, [(nat_lit 0, (.ofNat (nat_lit 0))), (nat_lit 0, (.ofNat (nat_lit 2))), (nat_lit 0, (.ofNat (nat_lit 0)))])],
  [(nat_lit 12, nat_lit 0, [(nat_lit 1, (.ofNat (nat_lit 0))), (nat_lit 0, (.negSucc (nat_lit 1))), (nat_lit 0, (.negSucc (nat_lit 0))), (nat_lit 0, (.ofNat (nat_lit 0)))]), (nat_lit 6, nat_lit 1, [(nat_lit 2, (.ofNat (nat_lit 0))), (nat_lit 0, (.ofNat (nat_lit 0)))]), (nat_lit 8, nat_lit 0, [(nat_lit 1, (.ofNat (nat_lit 0))), (nat_lit 0, (.ofNat (nat_lit 1))), (nat_lit 0, (.ofNat (nat_lit 12)))]), (nat_lit 5, nat_lit 0, [(nat_lit 0, (.ofNat (nat_lit 0))), (nat_lit 0, (.ofNat (nat_lit 2))), (nat_lit 0, (.ofNat (nat_lit 0)))])],
  [(nat_lit 11, nat_lit 0, [(nat_lit 0, (.negSucc (nat_lit 0)))]), (nat_lit 6, nat_lit 0, [(nat_lit 2, (.ofNat (nat_lit 0))), (nat_lit 0, (.ofNat (nat_lit 0)))]), (nat_lit 8, nat_lit 0, [(nat_lit 1, (.ofNat (nat_lit 0))), (nat_lit 0, (.ofNat (nat_lit 1))), (nat_lit 0, (.ofNat (nat_lit 12)))]), (nat_lit 5, nat_lit 0, [(nat_lit 0, (.ofNat (nat_lit 0))), (nat_lit 0, (.ofNat (nat_lit 2))), (nat_lit 0, (.ofNat (nat_lit 0)))])]]
def zFhs_bestBit8 : List (List zK) := []
def zDhs_bestBit8_0 : List (List zK) := []
def zEhs_bestBit8_0 : List (List zK) := [[(nat_lit 11, nat_lit 0, [(nat_lit 2, (.ofNat (nat_lit 0)))]), (nat_lit 6, nat_lit 4, [(nat_lit 5, (.ofNat (nat_lit 0))), (nat_lit 6, (.ofNat (nat_lit 0)))]), (nat_lit 4, nat_lit 0, [(nat_lit 0, (.ofNat (nat_lit 0))), (nat_lit 0, (.ofNat (nat_lit 12)))]), (nat_lit 0, nat_lit 1, [(nat_lit 4, (.ofNat (nat_lit 0))), (nat_lit 1, (.ofNat (nat_lit 0)))])],
  [(nat_lit 10, nat_lit 1, [(nat_lit 1, (.ofNat (nat_lit 0))), (nat_lit 2, (.ofNat (nat_lit 0))), (nat_lit 3, (.ofNat (nat_lit 0))), (nat_lit 4, (.ofNat (nat_lit 0))), (nat_lit 0, (.ofNat (nat_lit 0))), (nat_lit 0, (.ofNat (nat_lit 0)))]), (nat_lit 6, nat_lit 5, [(nat_lit 5, (.ofNat (nat_lit 0))), (nat_lit 6, (.ofNat (nat_lit 0)))]), (nat_lit 4, nat_lit 0, [(nat_lit 0, (.ofNat (nat_lit 0))), (nat_lit 0, (.ofNat (nat_lit 12)))]), (nat_lit 0, nat_lit 1, [(nat_lit 4, (.ofNat (nat_lit 0))), (nat_lit 1, (.ofNat (nat_lit 0)))])]]
def zFhs_bestBit8_0 : List (List zK) := []
def zDhs_bestBit8_1 : List (List zK) := [[(nat_lit 7, nat_lit 0, [(nat_lit 7, (.ofNat (nat_lit 0))), (nat_lit 0, (.ofNat (nat_lit 24)))]), (nat_lit 0, nat_lit 1, [(nat_lit 4, (.ofNat (nat_lit 0))), (nat_lit 6, (.ofNat (nat_lit 0)))]), (nat_lit 6, nat_lit 2, [(nat_lit 6, (.ofNat (nat_lit 0))), (nat_lit 1, (.ofNat (nat_lit 0)))])]]
def zEhs_bestBit8_1 : List (List zK) := [[(nat_lit 10, nat_lit 0, [(nat_lit 1, (.ofNat (nat_lit 0))), (nat_lit 4, (.ofNat (nat_lit 0))), (nat_lit 5, (.ofNat (nat_lit 0))), (nat_lit 7, (.ofNat (nat_lit 0)))]), (nat_lit 0, nat_lit 1, [(nat_lit 4, (.ofNat (nat_lit 0))), (nat_lit 0, (.ofNat (nat_lit 1)))]), (nat_lit 6, nat_lit 4, [(nat_lit 5, (.ofNat (nat_lit 0))), (nat_lit 3, (.ofNat (nat_lit 0)))]), (nat_lit 6, nat_lit 3, [(nat_lit 6, (.ofNat (nat_lit 0))), (nat_lit 1, (.ofNat (nat_lit 0)))])],
  [(nat_lit 10, nat_lit 0, [(nat_lit 1, (.ofNat (nat_lit 0))), (nat_lit 2, (.ofNat (nat_lit 0))), (nat_lit 3, (.ofNat (nat_lit 0))), (nat_lit 7, (.ofNat (nat_lit 0)))]), (nat_lit 0, nat_lit 1, [(nat_lit 4, (.ofNat (nat_lit 0))), (nat_lit 0, (.ofNat (nat_lit 1)))]), (nat_lit 6, nat_lit 5, [(nat_lit 5, (.ofNat (nat_lit 0))), (nat_lit 3, (.ofNat (nat_lit 0)))]), (nat_lit 6, nat_lit 3, [(nat_lit 6, (.ofNat (nat_lit 0))), (nat_lit 1, (.ofNat (nat_lit 0)))])],
  [(nat_lit 10, nat_lit 1, [(nat_lit 1, (.ofNat (nat_lit 0))), (nat_lit 2, (.ofNat (nat_lit 0))), (nat_lit 3, (.ofNat (nat_lit 0))), (nat_lit 4, (.ofNat (nat_lit 0))), (nat_lit 9, (.ofNat (nat_lit 0))), (nat_lit 10, (.ofNat (nat_lit 0)))]), (nat_lit 0, nat_lit 1, [(nat_lit 6, (.ofNat (nat_lit 0))), (nat_lit 0, (.ofNat (nat_lit 1)))]), (nat_lit 0, nat_lit 1, [(nat_lit 5, (.ofNat (nat_lit 0))), (nat_lit 8, (.ofNat (nat_lit 0)))]), (nat_lit 4, nat_lit 0, [(nat_lit 6, (.ofNat (nat_lit 0))), (nat_lit 7, (.ofNat (nat_lit 0)))]), (nat_lit 0, nat_lit 1, [(nat_lit 4, (.ofNat (nat_lit 0))), (nat_lit 6, (.ofNat (nat_lit 0)))]), (nat_lit 6, nat_lit 2, [(nat_lit 6, (.ofNat (nat_lit 0))), (nat_lit 1, (.ofNat (nat_lit 0)))])]]
def zFhs_bestBit8_1 : List (List zK) := []
set_option maxHeartbeats 8000000 in
theorem zhs_bestBit8_o0 {ro : Nat → List Int32} (x1 : Int) (η : zE) (hp : sP wl_hs zTr zPhs_bestBit8 [x1] η) (hpp : pPhs_bestBit8 [x1] η) : ∀ η1 : zE, η1 = zup η 0 (Int.toNat 2) 0 → ∀ (x2 : Int) (η2 : zE), ((gC2 wl_hs [(nat_lit 0, zPhs_isIn, zOhs_isIn, zMhs_isIn)] pChs_bestBit8 qChs_bestBit8) 0).2 [x1, 1, 12] η1 x2 η2 → (¬ x2 = 0) → (iChs_bestBit8 [x1] η) 0 [x1, (-2), (-1), 0] η2 := by
  intro η1 eη1 x2 η2 h2 c1
  have y2 : fQhs_isIn [x1, 1, 12] η1 x2 η2 := h2.2.2
  have k2 : sQ wl_hs zTr zOhs_isIn zMhs_isIn [x1, 1, 12] η1 x2 η2 ∧ oQhs_isIn [x1, 1, 12] η1 x2 η2 := ⟨h2.1, h2.2.1⟩
  refine yj_a ?_ ?_
  · have y2 : fQhs_isIn [x1, 1, 12] η1 x2 η2 := h2.2.2
    have k2 : sQ wl_hs zTr zOhs_isIn zMhs_isIn [x1, 1, 12] η1 x2 η2 ∧ oQhs_isIn [x1, 1, 12] η1 x2 η2 := ⟨h2.1, h2.2.1⟩
    exact trivial
  · have eη1 : η1 = zup η 0 2 0 := eη1
    obtain ⟨a2, b2⟩ : x2 = yq_in x1 1 12 ∧ η2 = η1 := y2
    show yw_bI η x1 x1 (-2) (-1) 0 η2
    exact wbI_0 (by rw [b2, eη1]) (by omega)
set_option maxHeartbeats 8000000 in
theorem zhs_bestBit8_o1 {ro : Nat → List Int32} (x1 : Int) (η : zE) (hp : sP wl_hs zTr zPhs_bestBit8 [x1] η) (hpp : pPhs_bestBit8 [x1] η) : ∀ η1 : zE, η1 = zup η 0 (Int.toNat 2) 0 → ∀ (x2 : Int) (η2 : zE), ((gC2 wl_hs [(nat_lit 0, zPhs_isIn, zOhs_isIn, zMhs_isIn)] pChs_bestBit8 qChs_bestBit8) 0).2 [x1, 1, 12] η1 x2 η2 → (x2 = 0) → (fun (_ : Nat) (y : Int) (η' : zE) => pQhs_bestBit8 [x1] η y η') 0 (-1) η2 := by
  intro η1 eη1 x2 η2 h2 c1
  have y2 : fQhs_isIn [x1, 1, 12] η1 x2 η2 := h2.2.2
  have k2 : sQ wl_hs zTr zOhs_isIn zMhs_isIn [x1, 1, 12] η1 x2 η2 ∧ oQhs_isIn [x1, 1, 12] η1 x2 η2 := ⟨h2.1, h2.2.1⟩
  refine yj_a ?_ ?_
  · have y2 : fQhs_isIn [x1, 1, 12] η1 x2 η2 := h2.2.2
    have k2 : sQ wl_hs zTr zOhs_isIn zMhs_isIn [x1, 1, 12] η1 x2 η2 ∧ oQhs_isIn [x1, 1, 12] η1 x2 η2 := ⟨h2.1, h2.2.1⟩
    exact trivial
  · have eη1 : η1 = zup η 0 2 0 := eη1
    obtain ⟨a2, b2⟩ : x2 = yq_in x1 1 12 ∧ η2 = η1 := y2
    show -1 = yw_bb x1 η ∧ η2 = zup η 0 2 0
    exact ⟨by unfold yw_bb; rw [if_pos (by omega)], (by rw [b2, eη1])⟩
set_option maxHeartbeats 8000000 in
theorem zhs_bestBit8_o2 {ro : Nat → List Int32} (xs : List Int) (η0 : zE) (hp : sP wl_hs zTr zPhs_bestBit8 xs η0) (hpp : pPhs_bestBit8 xs η0) (x1 x2 x3 x4 : Int) (η : zE) (hI : zsI wl_hs zTr zVhs_bestBit8 zMhs_bestBit8 η0 0 [x1, x2, x3, x4] η) (hig : iChs_bestBit8 xs η0 0 [x1, x2, x3, x4] η) : ∀ x5 : Int, x5 = zd 0 1 x4 x1 → ∀ x6 : Int, x6 = η 0 (Int.toNat 12) → zok 0 x6 → (x6 < x5) → (fun (_ : Nat) (y : Int) (η' : zE) => pQhs_bestBit8 xs η0 y η') 0 x2 η := by
  have fig := hig.2
  have hig := hig.1
  intro x5 e5 x6 e6 r6 c1
  refine yj_a ?_ ?_
  · exact trivial
  · have e5 : x5 = zd 0 1 x4 x1 := e5
    have e6 : x6 = η 0 12 := e6
    have b4 : (0 : Int) ≤ x4 ∧ x4 ≤ 5 := hI.1.2.1.2.2.2.1
    exact wbI_e (k := x1) (m := x3) (f := x4) fig (by omega) e5 (by rw [← e6]; omega)
set_option maxHeartbeats 8000000 in
theorem zhs_bestBit8_o3 {ro : Nat → List Int32} (xs : List Int) (η0 : zE) (hp : sP wl_hs zTr zPhs_bestBit8 xs η0) (hpp : pPhs_bestBit8 xs η0) (x1 x2 x3 x4 : Int) (η : zE) (hI : zsI wl_hs zTr zVhs_bestBit8 zMhs_bestBit8 η0 0 [x1, x2, x3, x4] η) (hig : iChs_bestBit8 xs η0 0 [x1, x2, x3, x4] η) : ∀ x5 : Int, x5 = zd 0 1 x4 x1 → ∀ x6 : Int, x6 = η 0 (Int.toNat 12) → zok 0 x6 → (x5 ≤ x6) → (iChs_bestBit8 xs η0) 1 [x1, x2, x3, x4, 0, 0] η ∧ (fun (_ : Nat) (_ : List Int) (_ : zE) => (0 : Nat)) 1 [x1, x2, x3, x4, 0, 0] η < 1 := by
  have fig := hig.2
  have hig := hig.1
  intro x5 e5 x6 e6 r6 c1
  refine yj_c ?_ ?_
  · exact ⟨trivial, Nat.zero_lt_one⟩
  · have e5 : x5 = zd 0 1 x4 x1 := e5
    have e6 : x6 = η 0 12 := e6
    have b4 : (0 : Int) ≤ x4 ∧ x4 ≤ 5 := hI.1.2.1.2.2.2.1
    show yw_bJ η0 (xs.getD 0 0) x1 x2 x3 x4 0 0 η
    exact wbJ_0 fig (by omega) e5 (by rw [← e6]; omega)
set_option maxHeartbeats 8000000 in
theorem zhs_bestBit8_o4 {ro : Nat → List Int32} (xs : List Int) (η0 : zE) (hp : sP wl_hs zTr zPhs_bestBit8 xs η0) (hpp : pPhs_bestBit8 xs η0) (x1 x2 x3 x4 x5 x6 : Int) (η : zE) (hI : zsI wl_hs zTr zVhs_bestBit8 zMhs_bestBit8 η0 1 [x1, x2, x3, x4, x5, x6] η) (hig : iChs_bestBit8 xs η0 1 [x1, x2, x3, x4, x5, x6] η) : (x1 ≤ x6) → (x3 < x5) → ∀ x7 : Int, x7 = zd 0 1 x4 1 → (iChs_bestBit8 xs η0) 0 [x1, x4, x5, x7] η ∧ (fun (_ : Nat) (_ : List Int) (_ : zE) => (0 : Nat)) 0 [x1, x4, x5, x7] η < 1 := by
  have fig := hig.2
  have hig := hig.1
  intro c1 c2 x7 e7
  refine yj_c ?_ ?_
  · exact ⟨trivial, Nat.zero_lt_one⟩
  · have e7 : x7 = zd 0 1 x4 1 := e7
    have b4 : (0 : Int) ≤ x4 ∧ x4 ≤ 4 := hI.1.2.1.2.2.2.1
    show yw_bI η0 (xs.getD 0 0) x1 x4 x5 x7 η
    refine wbJ_e (b := x2) (m := x3) (k := x1) (f := x4) (i := x6) (s := x5) fig (by omega) (by omega) e7 ?_
    rw [if_pos (by omega)]
set_option maxHeartbeats 8000000 in
theorem zhs_bestBit8_o5 {ro : Nat → List Int32} (xs : List Int) (η0 : zE) (hp : sP wl_hs zTr zPhs_bestBit8 xs η0) (hpp : pPhs_bestBit8 xs η0) (x1 x2 x3 x4 x5 x6 : Int) (η : zE) (hI : zsI wl_hs zTr zVhs_bestBit8 zMhs_bestBit8 η0 1 [x1, x2, x3, x4, x5, x6] η) (hig : iChs_bestBit8 xs η0 1 [x1, x2, x3, x4, x5, x6] η) : (x1 ≤ x6) → (x5 ≤ x3) → ∀ x7 : Int, x7 = zd 0 1 x4 1 → (iChs_bestBit8 xs η0) 0 [x1, x2, x3, x7] η ∧ (fun (_ : Nat) (_ : List Int) (_ : zE) => (0 : Nat)) 0 [x1, x2, x3, x7] η < 1 := by
  have fig := hig.2
  have hig := hig.1
  intro c1 c2 x7 e7
  refine yj_c ?_ ?_
  · exact ⟨trivial, Nat.zero_lt_one⟩
  · have e7 : x7 = zd 0 1 x4 1 := e7
    have b4 : (0 : Int) ≤ x4 ∧ x4 ≤ 4 := hI.1.2.1.2.2.2.1
    show yw_bI η0 (xs.getD 0 0) x1 x2 x3 x7 η
    refine wbJ_e (b := x2) (m := x3) (k := x1) (f := x4) (i := x6) (s := x5) fig (by omega) (by omega) e7 ?_
    rw [if_neg (by omega)]
set_option maxHeartbeats 8000000 in
theorem zhs_bestBit8_o6 {ro : Nat → List Int32} (xs : List Int) (η0 : zE) (hp : sP wl_hs zTr zPhs_bestBit8 xs η0) (hpp : pPhs_bestBit8 xs η0) (x1 x2 x3 x4 x5 x6 : Int) (η : zE) (hI : zsI wl_hs zTr zVhs_bestBit8 zMhs_bestBit8 η0 1 [x1, x2, x3, x4, x5, x6] η) (hig : iChs_bestBit8 xs η0 1 [x1, x2, x3, x4, x5, x6] η) : (x6 < x1) → ∀ x7 : Int, x7 = zd 0 1 x4 x6 → ∀ x8 : Int, x8 = η 6 (Int.toNat x7) → zok 0 x8 → ∀ x9 : Int, x9 = zd 0 1 x5 x8 → ∀ x10 : Int, x10 = zd 0 1 x6 1 → (iChs_bestBit8 xs η0) 1 [x1, x2, x3, x4, x9, x10] η ∧ (fun (_ : Nat) (_ : List Int) (_ : zE) => (0 : Nat)) 1 [x1, x2, x3, x4, x9, x10] η < 1 := by
  have fig := hig.2
  have hig := hig.1
  intro c1 x7 e7 x8 e8 r8 x9 e9 x10 e10
  refine yj_c ?_ ?_
  · exact ⟨trivial, Nat.zero_lt_one⟩
  · have e7 : x7 = zd 0 1 x4 x6 := e7
    have e8 : x8 = η 6 (Int.toNat x7) := e8
    have e9 : x9 = zd 0 1 x5 x8 := e9
    have e10 : x10 = zd 0 1 x6 1 := e10
    have b4 : (0 : Int) ≤ x4 ∧ x4 ≤ 4 := hI.1.2.1.2.2.2.1
    show yw_bJ η0 (xs.getD 0 0) x1 x2 x3 x4 x9 x10 η
    exact wbJ_s (k := x1) (f := x4) (i := x6) fig (by omega) (by omega) e7 e8 e9 e10
set_option maxHeartbeats 8000000 in
theorem zhs_bestBit8 {ro : Nat → List Int32} : zMet pr_P pr_K pr_df ro (sm_X0 1 6) 1 200 tm_hs [(.inr (.inr (.inl (nat_lit 0)))), (.inl (nat_lit 1, (.ofNat (nat_lit 0))))] 1 [(nat_lit 0, nat_lit 0, nat_lit 1), (nat_lit 0, nat_lit 3, nat_lit 2), (nat_lit 0, nat_lit 20, nat_lit 3), (nat_lit 0, nat_lit 21, nat_lit 4), (nat_lit 0, nat_lit 22, nat_lit 5), (nat_lit 0, nat_lit 23, nat_lit 6), (nat_lit 0, nat_lit 24, nat_lit 7), (nat_lit 0, nat_lit 25, nat_lit 8), (nat_lit 0, nat_lit 26, nat_lit 9), (nat_lit 0, nat_lit 27, nat_lit 10), (nat_lit 0, nat_lit 28, nat_lit 11), (nat_lit 0, nat_lit 29, nat_lit 12), (nat_lit 0, nat_lit 30, nat_lit 13), (nat_lit 0, nat_lit 31, nat_lit 14), (nat_lit 0, nat_lit 32, nat_lit 15), (nat_lit 0, nat_lit 33, nat_lit 16), (nat_lit 0, nat_lit 34, nat_lit 17), (nat_lit 0, nat_lit 35, nat_lit 18), (nat_lit 0, nat_lit 36, nat_lit 19), (nat_lit 0, nat_lit 37, nat_lit 20), (nat_lit 0, nat_lit 38, nat_lit 21), (nat_lit 0, nat_lit 39, nat_lit 22), (nat_lit 0, nat_lit 40, nat_lit 23), (nat_lit 0, nat_lit 47, nat_lit 24), (nat_lit 0, nat_lit 48, nat_lit 25), (nat_lit 0, nat_lit 50, nat_lit 26), (nat_lit 0, nat_lit 51, nat_lit 27), (nat_lit 0, nat_lit 52, nat_lit 28), (nat_lit 0, nat_lit 53, nat_lit 29), (nat_lit 0, nat_lit 54, nat_lit 30), (nat_lit 0, nat_lit 55, nat_lit 31), (nat_lit 0, nat_lit 56, nat_lit 32), (nat_lit 0, nat_lit 57, nat_lit 33), (nat_lit 0, nat_lit 58, nat_lit 34), (nat_lit 0, nat_lit 59, nat_lit 35), (nat_lit 0, nat_lit 72, nat_lit 36), (nat_lit 0, nat_lit 73, nat_lit 37), (nat_lit 0, nat_lit 76, nat_lit 38), (nat_lit 0, nat_lit 77, nat_lit 39), (nat_lit 0, nat_lit 79, nat_lit 40), (nat_lit 0, nat_lit 81, nat_lit 41), (nat_lit 0, nat_lit 82, nat_lit 42)] [] (fun xs η => sP wl_hs zTr zPhs_bestBit8 xs η ∧ pPhs_bestBit8 xs η) (fun xs η y η' => sQ wl_hs zTr zOhs_bestBit8 zMhs_bestBit8 xs η y η' ∧ pQhs_bestBit8 xs η y η') :=
  zmet_alt (zmea_gen (mi := (nat_lit 1, nat_lit 1, nat_lit 8, nat_lit 7, nat_lit 1, tX8_bestBit)) (cd := [(nat_lit 117, nat_lit 0, nat_lit 0, [(.inl (nat_lit 1, (.ofNat (nat_lit 0)))), (.inl (nat_lit 2, (.ofNat (nat_lit 0)))), (.inl (nat_lit 3, (.ofNat (nat_lit 0))))], nat_lit 2, [], [])]) (cu := zUhs_bestBit8) (cs := [(nat_lit 0, zPhs_isIn, zOhs_isIn, zMhs_isIn)]) (iv := zVhs_bestBit8) (po := [zOhs_bestBit8]) (pr := zPhs_bestBit8) (mods := zMhs_bestBit8) (D7 := zDhs_bestBit8) (D0 := zEhs_bestBit8) (Dm := zFhs_bestBit8) (f0 := 19) pChs_bestBit8 qChs_bestBit8 iChs_bestBit8 pPhs_bestBit8 (fun xs η _ y η' => pQhs_bestBit8 xs η y η') zX_low pr_mtR rfl (List.forall_mem_cons.mpr ⟨zhs_isIn, fun _ h => nomatch h⟩) (by decide +kernel) (by decide +kernel) (by decide +kernel)
    (by
      intro xs η hr hl hp hpp
      match xs, hl, hp, hpp with
      | [x1], _, hp, hpp =>
        refine List.forall_mem_cons.mpr ⟨?_, List.forall_mem_cons.mpr ⟨?_, List.forall_mem_cons.mpr ⟨?_, fun _ h => nomatch h⟩⟩⟩
        · refine zden_L (n := 2) (ρ := [x1, 0]) rfl ?_
          show ∀ η1 : zE, η1 = zup η 0 (Int.toNat 2) 0 → ((gC2 wl_hs [(nat_lit 0, zPhs_isIn, zOhs_isIn, zMhs_isIn)] pChs_bestBit8 qChs_bestBit8) 0).1 [x1, 1, 12] η1
          intro η1 eη1
          exact trivial
        · refine zden_L (n := 2) (ρ := [x1, 0]) rfl ?_
          exact zhs_bestBit8_o0 (ro := ro) x1 η hp hpp
        · refine zden_L (n := 2) (ρ := [x1, 0]) rfl ?_
          exact zhs_bestBit8_o1 (ro := ro) x1 η hp hpp
      )
    (fun _ _ _ _ _ _ _ h => nomatch h)
    (List.forall_mem_cons.mpr ⟨⟨zDhs_bestBit8_0, zEhs_bestBit8_0, zFhs_bestBit8_0, 15, by decide +kernel, (by
      intro xs η0 hlx hp hpp ys η hr hl hI hig
      match ys, hl, hI, hig with
      | [x1, x2, x3, x4], _, hI, hig =>
        refine ⟨?_, ?_⟩
        · refine List.forall_mem_cons.mpr ⟨?_, List.forall_mem_cons.mpr ⟨?_, fun _ h => nomatch h⟩⟩
          · refine zden_L (n := 5) (ρ := [x4, x3, x2, x1, 0]) rfl ?_
            exact zhs_bestBit8_o2 (ro := ro) xs η0 hp hpp x1 x2 x3 x4 η hI hig
          · refine zden_L (n := 5) (ρ := [x4, x3, x2, x1, 0]) rfl ?_
            exact zhs_bestBit8_o3 (ro := ro) xs η0 hp hpp x1 x2 x3 x4 η hI hig
        · exact fun _ h => nomatch h
      )⟩, (List.forall_mem_cons.mpr ⟨⟨zDhs_bestBit8_1, zEhs_bestBit8_1, zFhs_bestBit8_1, 19, by decide +kernel, (by
      intro xs η0 hlx hp hpp ys η hr hl hI hig
      match ys, hl, hI, hig with
      | [x1, x2, x3, x4, x5, x6], _, hI, hig =>
        refine ⟨?_, ?_⟩
        · refine List.forall_mem_cons.mpr ⟨?_, List.forall_mem_cons.mpr ⟨?_, List.forall_mem_cons.mpr ⟨?_, fun _ h => nomatch h⟩⟩⟩
          · refine zden_L (n := 7) (ρ := [x6, x5, x4, x3, x2, x1, 0]) rfl ?_
            exact zhs_bestBit8_o4 (ro := ro) xs η0 hp hpp x1 x2 x3 x4 x5 x6 η hI hig
          · refine zden_L (n := 7) (ρ := [x6, x5, x4, x3, x2, x1, 0]) rfl ?_
            exact zhs_bestBit8_o5 (ro := ro) xs η0 hp hpp x1 x2 x3 x4 x5 x6 η hI hig
          · refine zden_L (n := 7) (ρ := [x6, x5, x4, x3, x2, x1, 0]) rfl ?_
            exact zhs_bestBit8_o6 (ro := ro) xs η0 hp hpp x1 x2 x3 x4 x5 x6 η hI hig
        · exact fun _ h => nomatch h
      )⟩, (fun _ h => nomatch h)⟩)⟩))
def zPhs_bestBit9 : zPq := ([((.ofNat (nat_lit 9)), (.ofNat (nat_lit 9)))], [])
def zOhs_bestBit9 : zPo := (((.negSucc (nat_lit 2147483647)), (.ofNat (nat_lit 2147483647))), [], [])
def zMhs_bestBit9 : List zCe := [(nat_lit 0, nat_lit 3)]
def pPhs_bestBit9 : List Int → zE → Prop := fun _ _ => True
def oQhs_bestBit9 : List Int → zE → Int → zE → Prop := fun _ _ _ _ => True
def fQhs_bestBit9 : List Int → zE → Int → zE → Prop := fun xs η y η' => y = (yw_bb (xs.getD 0 0) η) ∧ η' = (zup η 0 2 0)
def pQhs_bestBit9 : List Int → zE → Int → zE → Prop := fun xs η y η' => oQhs_bestBit9 xs η y η' ∧ fQhs_bestBit9 xs η y η'
def pChs_bestBit9 : Nat → List Int → zE → Prop := fun c => match c with
  | 0 => pPhs_isIn
  | _ => fun _ _ => True
def qChs_bestBit9 : Nat → List Int → zE → Int → zE → Prop := fun c => match c with
  | 0 => pQhs_isIn
  | _ => fun _ _ _ _ => True
def iChs_bestBit9 : List Int → zE → Nat → List Int → zE → Prop := fun xs η0 c => match c with
  | 0 => fun ys η => (True) ∧ (yw_bI η0 (xs.getD 0 0) (ys.getD 0 0) (ys.getD 1 0) (ys.getD 2 0) (ys.getD 3 0) η)
  | 1 => fun ys η => (True) ∧ (yw_bJ η0 (xs.getD 0 0) (ys.getD 0 0) (ys.getD 1 0) (ys.getD 2 0) (ys.getD 3 0) (ys.getD 4 0) (ys.getD 5 0) η)
  | _ => fun _ _ => True
def zVhs_bestBit9 : List zIv := [(nat_lit 0, ([((.ofNat (nat_lit 9)), (.ofNat (nat_lit 9))), ((.negSucc (nat_lit 2147483647)), (.ofNat (nat_lit 2147483647))), ((.negSucc (nat_lit 2147483647)), (.ofNat (nat_lit 2147483647))), ((.ofNat (nat_lit 0)), (.ofNat (nat_lit 4)))], []), ((.ofNat (nat_lit 2000)), [((.negSucc (nat_lit 99)), nat_lit 0, nat_lit 3, nat_lit 0)])), (nat_lit 1, ([((.ofNat (nat_lit 9)), (.ofNat (nat_lit 9))), ((.negSucc (nat_lit 2147483647)), (.ofNat (nat_lit 2147483647))), ((.negSucc (nat_lit 2147483647)), (.ofNat (nat_lit 2147483647))), ((.ofNat (nat_lit 0)), (.ofNat (nat_lit 3))), ((.negSucc (nat_lit 2147483647)), (.ofNat (nat_lit 2147483647))), ((.ofNat (nat_lit 0)), (.ofNat (nat_lit 9)))], []), ((.ofNat (nat_lit 1950)), [((.negSucc (nat_lit 99)), nat_lit 0, nat_lit 3, nat_lit 0), ((.negSucc (nat_lit 0)), nat_lit 0, nat_lit 5, nat_lit 0)]))]
def zUhs_bestBit9 : List zCu := [(nat_lit 25, nat_lit 0, [(nat_lit 0, (.inr (.inr (.inl (nat_lit 0))))), (nat_lit 1, (.inl (nat_lit 1, (.ofNat (nat_lit 0))))), (nat_lit 2, (.inl (nat_lit 2, (.ofNat (nat_lit 0))))), (nat_lit 3, (.inl (nat_lit 3, (.ofNat (nat_lit 0))))), (nat_lit 4, (.inl (nat_lit 4, (.ofNat (nat_lit 0)))))], []), (nat_lit 42, nat_lit 1, [(nat_lit 0, (.inr (.inr (.inl (nat_lit 0))))), (nat_lit 1, (.inl (nat_lit 1, (.ofNat (nat_lit 0))))), (nat_lit 2, (.inl (nat_lit 2, (.ofNat (nat_lit 0))))), (nat_lit 3, (.inl (nat_lit 3, (.ofNat (nat_lit 0))))), (nat_lit 4, (.inl (nat_lit 4, (.ofNat (nat_lit 0))))), (nat_lit 5, (.inl (nat_lit 5, (.ofNat (nat_lit 0))))), (nat_lit 6, (.inl (nat_lit 6, (.ofNat (nat_lit 0)))))], [])]
def zDhs_bestBit9 : List (List zK) := []
def zEhs_bestBit9 : List (List zK) := [[(nat_lit 13, nat_lit 0, [(nat_lit 1, (.ofNat (nat_lit 0))), (nat_lit 0, (.ofNat (nat_lit 1))), (nat_lit 0, (.ofNat (nat_lit 12)))]), (nat_lit 5, nat_lit 0, [(nat_lit 0, (.ofNat (nat_lit 0))), (nat_lit 0, (.ofNat (nat_lit 2))), (nat_lit 0, (.ofNat (nat_lit 0)))])],
  [(nat_lit 12, nat_lit 0, [(nat_lit 1, (.ofNat (nat_lit 0))), (nat_lit 0, (.negSucc (nat_lit 1))), (nat_lit 0, (.negSucc (nat_lit 0))), (nat_lit 0, (.ofNat (nat_lit 0)))]), (nat_lit 6, nat_lit 1, [(nat_lit 2, (.ofNat (nat_lit 0))), (nat_lit 0, (.ofNat (nat_lit 0)))]), (nat_lit 8, nat_lit 0, [(nat_lit 1, (.ofNat (nat_lit 0))), (nat_lit 0, (.ofNat (nat_lit 1))), (nat_lit 0, (.ofNat (nat_lit 12)))]), (nat_lit 5, nat_lit 0, [(nat_lit 0, (.ofNat (nat_lit 0))), (nat_lit 0, (.ofNat (nat_lit 2))), (nat_lit 0, (.ofNat (nat_lit 0)))])],
  [(nat_lit 11, nat_lit 0, [(nat_lit 0, (.negSucc (nat_lit 0)))]), (nat_lit 6, nat_lit 0, [(nat_lit 2, (.ofNat (nat_lit 0))), (nat_lit 0, (.ofNat (nat_lit 0)))]), (nat_lit 8, nat_lit 0, [(nat_lit 1, (.ofNat (nat_lit 0))), (nat_lit 0, (.ofNat (nat_lit 1))), (nat_lit 0, (.ofNat (nat_lit 12)))]), (nat_lit 5, nat_lit 0, [(nat_lit 0, (.ofNat (nat_lit 0))), (nat_lit 0, (.ofNat (nat_lit 2))), (nat_lit 0, (.ofNat (nat_lit 0)))])]]
def zFhs_bestBit9 : List (List zK) := []
def zDhs_bestBit9_0 : List (List zK) := []
def zEhs_bestBit9_0 : List (List zK) := [[(nat_lit 11, nat_lit 0, [(nat_lit 2, (.ofNat (nat_lit 0)))]), (nat_lit 6, nat_lit 4, [(nat_lit 5, (.ofNat (nat_lit 0))), (nat_lit 6, (.ofNat (nat_lit 0)))]), (nat_lit 4, nat_lit 0, [(nat_lit 0, (.ofNat (nat_lit 0))), (nat_lit 0, (.ofNat (nat_lit 12)))]), (nat_lit 0, nat_lit 1, [(nat_lit 4, (.ofNat (nat_lit 0))), (nat_lit 1, (.ofNat (nat_lit 0)))])],
  [(nat_lit 10, nat_lit 1, [(nat_lit 1, (.ofNat (nat_lit 0))), (nat_lit 2, (.ofNat (nat_lit 0))), (nat_lit 3, (.ofNat (nat_lit 0))), (nat_lit 4, (.ofNat (nat_lit 0))), (nat_lit 0, (.ofNat (nat_lit 0))), (nat_lit 0, (.ofNat (nat_lit 0)))]), (nat_lit 6, nat_lit 5, [(nat_lit 5, (.ofNat (nat_lit 0))), (nat_lit 6, (.ofNat (nat_lit 0)))]), (nat_lit 4, nat_lit 0, [(nat_lit 0, (.ofNat (nat_lit 0))), (nat_lit 0, (.ofNat (nat_lit 12)))]), (nat_lit 0, nat_lit 1, [(nat_lit 4, (.ofNat (nat_lit 0))), (nat_lit 1, (.ofNat (nat_lit 0)))])]]
def zFhs_bestBit9_0 : List (List zK) := []
def zDhs_bestBit9_1 : List (List zK) := [[(nat_lit 7, nat_lit 0, [(nat_lit 7, (.ofNat (nat_lit 0))), (nat_lit 0, (.ofNat (nat_lit 24)))]), (nat_lit 0, nat_lit 1, [(nat_lit 4, (.ofNat (nat_lit 0))), (nat_lit 6, (.ofNat (nat_lit 0)))]), (nat_lit 6, nat_lit 2, [(nat_lit 6, (.ofNat (nat_lit 0))), (nat_lit 1, (.ofNat (nat_lit 0)))])]]
def zEhs_bestBit9_1 : List (List zK) := [[(nat_lit 10, nat_lit 0, [(nat_lit 1, (.ofNat (nat_lit 0))), (nat_lit 4, (.ofNat (nat_lit 0))), (nat_lit 5, (.ofNat (nat_lit 0))), (nat_lit 7, (.ofNat (nat_lit 0)))]), (nat_lit 0, nat_lit 1, [(nat_lit 4, (.ofNat (nat_lit 0))), (nat_lit 0, (.ofNat (nat_lit 1)))]), (nat_lit 6, nat_lit 4, [(nat_lit 5, (.ofNat (nat_lit 0))), (nat_lit 3, (.ofNat (nat_lit 0)))]), (nat_lit 6, nat_lit 3, [(nat_lit 6, (.ofNat (nat_lit 0))), (nat_lit 1, (.ofNat (nat_lit 0)))])],
  [(nat_lit 10, nat_lit 0, [(nat_lit 1, (.ofNat (nat_lit 0))), (nat_lit 2, (.ofNat (nat_lit 0))), (nat_lit 3, (.ofNat (nat_lit 0))), (nat_lit 7, (.ofNat (nat_lit 0)))]), (nat_lit 0, nat_lit 1, [(nat_lit 4, (.ofNat (nat_lit 0))), (nat_lit 0, (.ofNat (nat_lit 1)))]), (nat_lit 6, nat_lit 5, [(nat_lit 5, (.ofNat (nat_lit 0))), (nat_lit 3, (.ofNat (nat_lit 0)))]), (nat_lit 6, nat_lit 3, [(nat_lit 6, (.ofNat (nat_lit 0))), (nat_lit 1, (.ofNat (nat_lit 0)))])],
  [(nat_lit 10, nat_lit 1, [(nat_lit 1, (.ofNat (nat_lit 0))), (nat_lit 2, (.ofNat (nat_lit 0))), (nat_lit 3, (.ofNat (nat_lit 0))), (nat_lit 4, (.ofNat (nat_lit 0))), (nat_lit 9, (.ofNat (nat_lit 0))), (nat_lit 10, (.ofNat (nat_lit 0)))]), (nat_lit 0, nat_lit 1, [(nat_lit 6, (.ofNat (nat_lit 0))), (nat_lit 0, (.ofNat (nat_lit 1)))]), (nat_lit 0, nat_lit 1, [(nat_lit 5, (.ofNat (nat_lit 0))), (nat_lit 8, (.ofNat (nat_lit 0)))]), (nat_lit 4, nat_lit 0, [(nat_lit 6, (.ofNat (nat_lit 0))), (nat_lit 7, (.ofNat (nat_lit 0)))]), (nat_lit 0, nat_lit 1, [(nat_lit 4, (.ofNat (nat_lit 0))), (nat_lit 6, (.ofNat (nat_lit 0)))]), (nat_lit 6, nat_lit 2, [(nat_lit 6, (.ofNat (nat_lit 0))), (nat_lit 1, (.ofNat (nat_lit 0)))])]]
def zFhs_bestBit9_1 : List (List zK) := []
set_option maxHeartbeats 8000000 in
theorem zhs_bestBit9_o0 {ro : Nat → List Int32} (x1 : Int) (η : zE) (hp : sP wl_hs zTr zPhs_bestBit9 [x1] η) (hpp : pPhs_bestBit9 [x1] η) : ∀ η1 : zE, η1 = zup η 0 (Int.toNat 2) 0 → ∀ (x2 : Int) (η2 : zE), ((gC2 wl_hs [(nat_lit 0, zPhs_isIn, zOhs_isIn, zMhs_isIn)] pChs_bestBit9 qChs_bestBit9) 0).2 [x1, 1, 12] η1 x2 η2 → (¬ x2 = 0) → (iChs_bestBit9 [x1] η) 0 [x1, (-2), (-1), 0] η2 := by
  intro η1 eη1 x2 η2 h2 c1
  have y2 : fQhs_isIn [x1, 1, 12] η1 x2 η2 := h2.2.2
  have k2 : sQ wl_hs zTr zOhs_isIn zMhs_isIn [x1, 1, 12] η1 x2 η2 ∧ oQhs_isIn [x1, 1, 12] η1 x2 η2 := ⟨h2.1, h2.2.1⟩
  refine yj_a ?_ ?_
  · have y2 : fQhs_isIn [x1, 1, 12] η1 x2 η2 := h2.2.2
    have k2 : sQ wl_hs zTr zOhs_isIn zMhs_isIn [x1, 1, 12] η1 x2 η2 ∧ oQhs_isIn [x1, 1, 12] η1 x2 η2 := ⟨h2.1, h2.2.1⟩
    exact trivial
  · have eη1 : η1 = zup η 0 2 0 := eη1
    obtain ⟨a2, b2⟩ : x2 = yq_in x1 1 12 ∧ η2 = η1 := y2
    show yw_bI η x1 x1 (-2) (-1) 0 η2
    exact wbI_0 (by rw [b2, eη1]) (by omega)
set_option maxHeartbeats 8000000 in
theorem zhs_bestBit9_o1 {ro : Nat → List Int32} (x1 : Int) (η : zE) (hp : sP wl_hs zTr zPhs_bestBit9 [x1] η) (hpp : pPhs_bestBit9 [x1] η) : ∀ η1 : zE, η1 = zup η 0 (Int.toNat 2) 0 → ∀ (x2 : Int) (η2 : zE), ((gC2 wl_hs [(nat_lit 0, zPhs_isIn, zOhs_isIn, zMhs_isIn)] pChs_bestBit9 qChs_bestBit9) 0).2 [x1, 1, 12] η1 x2 η2 → (x2 = 0) → (fun (_ : Nat) (y : Int) (η' : zE) => pQhs_bestBit9 [x1] η y η') 0 (-1) η2 := by
  intro η1 eη1 x2 η2 h2 c1
  have y2 : fQhs_isIn [x1, 1, 12] η1 x2 η2 := h2.2.2
  have k2 : sQ wl_hs zTr zOhs_isIn zMhs_isIn [x1, 1, 12] η1 x2 η2 ∧ oQhs_isIn [x1, 1, 12] η1 x2 η2 := ⟨h2.1, h2.2.1⟩
  refine yj_a ?_ ?_
  · have y2 : fQhs_isIn [x1, 1, 12] η1 x2 η2 := h2.2.2
    have k2 : sQ wl_hs zTr zOhs_isIn zMhs_isIn [x1, 1, 12] η1 x2 η2 ∧ oQhs_isIn [x1, 1, 12] η1 x2 η2 := ⟨h2.1, h2.2.1⟩
    exact trivial
  · have eη1 : η1 = zup η 0 2 0 := eη1
    obtain ⟨a2, b2⟩ : x2 = yq_in x1 1 12 ∧ η2 = η1 := y2
    show -1 = yw_bb x1 η ∧ η2 = zup η 0 2 0
    exact ⟨by unfold yw_bb; rw [if_pos (by omega)], (by rw [b2, eη1])⟩
set_option maxHeartbeats 8000000 in
theorem zhs_bestBit9_o2 {ro : Nat → List Int32} (xs : List Int) (η0 : zE) (hp : sP wl_hs zTr zPhs_bestBit9 xs η0) (hpp : pPhs_bestBit9 xs η0) (x1 x2 x3 x4 : Int) (η : zE) (hI : zsI wl_hs zTr zVhs_bestBit9 zMhs_bestBit9 η0 0 [x1, x2, x3, x4] η) (hig : iChs_bestBit9 xs η0 0 [x1, x2, x3, x4] η) : ∀ x5 : Int, x5 = zd 0 1 x4 x1 → ∀ x6 : Int, x6 = η 0 (Int.toNat 12) → zok 0 x6 → (x6 < x5) → (fun (_ : Nat) (y : Int) (η' : zE) => pQhs_bestBit9 xs η0 y η') 0 x2 η := by
  have fig := hig.2
  have hig := hig.1
  intro x5 e5 x6 e6 r6 c1
  refine yj_a ?_ ?_
  · exact trivial
  · have e5 : x5 = zd 0 1 x4 x1 := e5
    have e6 : x6 = η 0 12 := e6
    have b4 : (0 : Int) ≤ x4 ∧ x4 ≤ 4 := hI.1.2.1.2.2.2.1
    exact wbI_e (k := x1) (m := x3) (f := x4) fig (by omega) e5 (by rw [← e6]; omega)
set_option maxHeartbeats 8000000 in
theorem zhs_bestBit9_o3 {ro : Nat → List Int32} (xs : List Int) (η0 : zE) (hp : sP wl_hs zTr zPhs_bestBit9 xs η0) (hpp : pPhs_bestBit9 xs η0) (x1 x2 x3 x4 : Int) (η : zE) (hI : zsI wl_hs zTr zVhs_bestBit9 zMhs_bestBit9 η0 0 [x1, x2, x3, x4] η) (hig : iChs_bestBit9 xs η0 0 [x1, x2, x3, x4] η) : ∀ x5 : Int, x5 = zd 0 1 x4 x1 → ∀ x6 : Int, x6 = η 0 (Int.toNat 12) → zok 0 x6 → (x5 ≤ x6) → (iChs_bestBit9 xs η0) 1 [x1, x2, x3, x4, 0, 0] η ∧ (fun (_ : Nat) (_ : List Int) (_ : zE) => (0 : Nat)) 1 [x1, x2, x3, x4, 0, 0] η < 1 := by
  have fig := hig.2
  have hig := hig.1
  intro x5 e5 x6 e6 r6 c1
  refine yj_c ?_ ?_
  · exact ⟨trivial, Nat.zero_lt_one⟩
  · have e5 : x5 = zd 0 1 x4 x1 := e5
    have e6 : x6 = η 0 12 := e6
    have b4 : (0 : Int) ≤ x4 ∧ x4 ≤ 4 := hI.1.2.1.2.2.2.1
    show yw_bJ η0 (xs.getD 0 0) x1 x2 x3 x4 0 0 η
    exact wbJ_0 fig (by omega) e5 (by rw [← e6]; omega)
set_option maxHeartbeats 8000000 in
theorem zhs_bestBit9_o4 {ro : Nat → List Int32} (xs : List Int) (η0 : zE) (hp : sP wl_hs zTr zPhs_bestBit9 xs η0) (hpp : pPhs_bestBit9 xs η0) (x1 x2 x3 x4 x5 x6 : Int) (η : zE) (hI : zsI wl_hs zTr zVhs_bestBit9 zMhs_bestBit9 η0 1 [x1, x2, x3, x4, x5, x6] η) (hig : iChs_bestBit9 xs η0 1 [x1, x2, x3, x4, x5, x6] η) : (x1 ≤ x6) → (x3 < x5) → ∀ x7 : Int, x7 = zd 0 1 x4 1 → (iChs_bestBit9 xs η0) 0 [x1, x4, x5, x7] η ∧ (fun (_ : Nat) (_ : List Int) (_ : zE) => (0 : Nat)) 0 [x1, x4, x5, x7] η < 1 := by
  have fig := hig.2
  have hig := hig.1
  intro c1 c2 x7 e7
  refine yj_c ?_ ?_
  · exact ⟨trivial, Nat.zero_lt_one⟩
  · have e7 : x7 = zd 0 1 x4 1 := e7
    have b4 : (0 : Int) ≤ x4 ∧ x4 ≤ 3 := hI.1.2.1.2.2.2.1
    show yw_bI η0 (xs.getD 0 0) x1 x4 x5 x7 η
    refine wbJ_e (b := x2) (m := x3) (k := x1) (f := x4) (i := x6) (s := x5) fig (by omega) (by omega) e7 ?_
    rw [if_pos (by omega)]
set_option maxHeartbeats 8000000 in
theorem zhs_bestBit9_o5 {ro : Nat → List Int32} (xs : List Int) (η0 : zE) (hp : sP wl_hs zTr zPhs_bestBit9 xs η0) (hpp : pPhs_bestBit9 xs η0) (x1 x2 x3 x4 x5 x6 : Int) (η : zE) (hI : zsI wl_hs zTr zVhs_bestBit9 zMhs_bestBit9 η0 1 [x1, x2, x3, x4, x5, x6] η) (hig : iChs_bestBit9 xs η0 1 [x1, x2, x3, x4, x5, x6] η) : (x1 ≤ x6) → (x5 ≤ x3) → ∀ x7 : Int, x7 = zd 0 1 x4 1 → (iChs_bestBit9 xs η0) 0 [x1, x2, x3, x7] η ∧ (fun (_ : Nat) (_ : List Int) (_ : zE) => (0 : Nat)) 0 [x1, x2, x3, x7] η < 1 := by
  have fig := hig.2
  have hig := hig.1
  intro c1 c2 x7 e7
  refine yj_c ?_ ?_
  · exact ⟨trivial, Nat.zero_lt_one⟩
  · have e7 : x7 = zd 0 1 x4 1 := e7
    have b4 : (0 : Int) ≤ x4 ∧ x4 ≤ 3 := hI.1.2.1.2.2.2.1
    show yw_bI η0 (xs.getD 0 0) x1 x2 x3 x7 η
    refine wbJ_e (b := x2) (m := x3) (k := x1) (f := x4) (i := x6) (s := x5) fig (by omega) (by omega) e7 ?_
    rw [if_neg (by omega)]
set_option maxHeartbeats 8000000 in
theorem zhs_bestBit9_o6 {ro : Nat → List Int32} (xs : List Int) (η0 : zE) (hp : sP wl_hs zTr zPhs_bestBit9 xs η0) (hpp : pPhs_bestBit9 xs η0) (x1 x2 x3 x4 x5 x6 : Int) (η : zE) (hI : zsI wl_hs zTr zVhs_bestBit9 zMhs_bestBit9 η0 1 [x1, x2, x3, x4, x5, x6] η) (hig : iChs_bestBit9 xs η0 1 [x1, x2, x3, x4, x5, x6] η) : (x6 < x1) → ∀ x7 : Int, x7 = zd 0 1 x4 x6 → ∀ x8 : Int, x8 = η 6 (Int.toNat x7) → zok 0 x8 → ∀ x9 : Int, x9 = zd 0 1 x5 x8 → ∀ x10 : Int, x10 = zd 0 1 x6 1 → (iChs_bestBit9 xs η0) 1 [x1, x2, x3, x4, x9, x10] η ∧ (fun (_ : Nat) (_ : List Int) (_ : zE) => (0 : Nat)) 1 [x1, x2, x3, x4, x9, x10] η < 1 := by
  have fig := hig.2
  have hig := hig.1
  intro c1 x7 e7 x8 e8 r8 x9 e9 x10 e10
  refine yj_c ?_ ?_
  · exact ⟨trivial, Nat.zero_lt_one⟩
  · have e7 : x7 = zd 0 1 x4 x6 := e7
    have e8 : x8 = η 6 (Int.toNat x7) := e8
    have e9 : x9 = zd 0 1 x5 x8 := e9
    have e10 : x10 = zd 0 1 x6 1 := e10
    have b4 : (0 : Int) ≤ x4 ∧ x4 ≤ 3 := hI.1.2.1.2.2.2.1
    show yw_bJ η0 (xs.getD 0 0) x1 x2 x3 x4 x9 x10 η
    exact wbJ_s (k := x1) (f := x4) (i := x6) fig (by omega) (by omega) e7 e8 e9 e10
set_option maxHeartbeats 8000000 in
theorem zhs_bestBit9 {ro : Nat → List Int32} : zMet pr_P pr_K pr_df ro (sm_X0 1 6) 1 200 tm_hs [(.inr (.inr (.inl (nat_lit 0)))), (.inl (nat_lit 1, (.ofNat (nat_lit 0))))] 1 [(nat_lit 0, nat_lit 0, nat_lit 1), (nat_lit 0, nat_lit 3, nat_lit 2), (nat_lit 0, nat_lit 20, nat_lit 3), (nat_lit 0, nat_lit 21, nat_lit 4), (nat_lit 0, nat_lit 22, nat_lit 5), (nat_lit 0, nat_lit 23, nat_lit 6), (nat_lit 0, nat_lit 24, nat_lit 7), (nat_lit 0, nat_lit 25, nat_lit 8), (nat_lit 0, nat_lit 26, nat_lit 9), (nat_lit 0, nat_lit 27, nat_lit 10), (nat_lit 0, nat_lit 28, nat_lit 11), (nat_lit 0, nat_lit 29, nat_lit 12), (nat_lit 0, nat_lit 30, nat_lit 13), (nat_lit 0, nat_lit 31, nat_lit 14), (nat_lit 0, nat_lit 32, nat_lit 15), (nat_lit 0, nat_lit 33, nat_lit 16), (nat_lit 0, nat_lit 34, nat_lit 17), (nat_lit 0, nat_lit 35, nat_lit 18), (nat_lit 0, nat_lit 36, nat_lit 19), (nat_lit 0, nat_lit 37, nat_lit 20), (nat_lit 0, nat_lit 38, nat_lit 21), (nat_lit 0, nat_lit 39, nat_lit 22), (nat_lit 0, nat_lit 40, nat_lit 23), (nat_lit 0, nat_lit 47, nat_lit 24), (nat_lit 0, nat_lit 48, nat_lit 25), (nat_lit 0, nat_lit 50, nat_lit 26), (nat_lit 0, nat_lit 51, nat_lit 27), (nat_lit 0, nat_lit 52, nat_lit 28), (nat_lit 0, nat_lit 53, nat_lit 29), (nat_lit 0, nat_lit 54, nat_lit 30), (nat_lit 0, nat_lit 55, nat_lit 31), (nat_lit 0, nat_lit 56, nat_lit 32), (nat_lit 0, nat_lit 57, nat_lit 33), (nat_lit 0, nat_lit 58, nat_lit 34), (nat_lit 0, nat_lit 59, nat_lit 35), (nat_lit 0, nat_lit 72, nat_lit 36), (nat_lit 0, nat_lit 73, nat_lit 37), (nat_lit 0, nat_lit 76, nat_lit 38), (nat_lit 0, nat_lit 77, nat_lit 39), (nat_lit 0, nat_lit 79, nat_lit 40), (nat_lit 0, nat_lit 81, nat_lit 41), (nat_lit 0, nat_lit 82, nat_lit 42)] [] (fun xs η => sP wl_hs zTr zPhs_bestBit9 xs η ∧ pPhs_bestBit9 xs η) (fun xs η y η' => sQ wl_hs zTr zOhs_bestBit9 zMhs_bestBit9 xs η y η' ∧ pQhs_bestBit9 xs η y η') :=
  zmet_alt (zmea_gen (mi := (nat_lit 1, nat_lit 1, nat_lit 8, nat_lit 7, nat_lit 1, tX8_bestBit)) (cd := [(nat_lit 117, nat_lit 0, nat_lit 0, [(.inl (nat_lit 1, (.ofNat (nat_lit 0)))), (.inl (nat_lit 2, (.ofNat (nat_lit 0)))), (.inl (nat_lit 3, (.ofNat (nat_lit 0))))], nat_lit 2, [], [])]) (cu := zUhs_bestBit9) (cs := [(nat_lit 0, zPhs_isIn, zOhs_isIn, zMhs_isIn)]) (iv := zVhs_bestBit9) (po := [zOhs_bestBit9]) (pr := zPhs_bestBit9) (mods := zMhs_bestBit9) (D7 := zDhs_bestBit9) (D0 := zEhs_bestBit9) (Dm := zFhs_bestBit9) (f0 := 19) pChs_bestBit9 qChs_bestBit9 iChs_bestBit9 pPhs_bestBit9 (fun xs η _ y η' => pQhs_bestBit9 xs η y η') zX_low pr_mtR rfl (List.forall_mem_cons.mpr ⟨zhs_isIn, fun _ h => nomatch h⟩) (by decide +kernel) (by decide +kernel) (by decide +kernel)
    (by
      intro xs η hr hl hp hpp
      match xs, hl, hp, hpp with
      | [x1], _, hp, hpp =>
        refine List.forall_mem_cons.mpr ⟨?_, List.forall_mem_cons.mpr ⟨?_, List.forall_mem_cons.mpr ⟨?_, fun _ h => nomatch h⟩⟩⟩
        · refine zden_L (n := 2) (ρ := [x1, 0]) rfl ?_
          show ∀ η1 : zE, η1 = zup η 0 (Int.toNat 2) 0 → ((gC2 wl_hs [(nat_lit 0, zPhs_isIn, zOhs_isIn, zMhs_isIn)] pChs_bestBit9 qChs_bestBit9) 0).1 [x1, 1, 12] η1
          intro η1 eη1
          exact trivial
        · refine zden_L (n := 2) (ρ := [x1, 0]) rfl ?_
          exact zhs_bestBit9_o0 (ro := ro) x1 η hp hpp
        · refine zden_L (n := 2) (ρ := [x1, 0]) rfl ?_
          exact zhs_bestBit9_o1 (ro := ro) x1 η hp hpp
      )
    (fun _ _ _ _ _ _ _ h => nomatch h)
    (List.forall_mem_cons.mpr ⟨⟨zDhs_bestBit9_0, zEhs_bestBit9_0, zFhs_bestBit9_0, 15, by decide +kernel, (by
      intro xs η0 hlx hp hpp ys η hr hl hI hig
      match ys, hl, hI, hig with
      | [x1, x2, x3, x4], _, hI, hig =>
        refine ⟨?_, ?_⟩
        · refine List.forall_mem_cons.mpr ⟨?_, List.forall_mem_cons.mpr ⟨?_, fun _ h => nomatch h⟩⟩
          · refine zden_L (n := 5) (ρ := [x4, x3, x2, x1, 0]) rfl ?_
            exact zhs_bestBit9_o2 (ro := ro) xs η0 hp hpp x1 x2 x3 x4 η hI hig
          · refine zden_L (n := 5) (ρ := [x4, x3, x2, x1, 0]) rfl ?_
            exact zhs_bestBit9_o3 (ro := ro) xs η0 hp hpp x1 x2 x3 x4 η hI hig
        · exact fun _ h => nomatch h
      )⟩, (List.forall_mem_cons.mpr ⟨⟨zDhs_bestBit9_1, zEhs_bestBit9_1, zFhs_bestBit9_1, 19, by decide +kernel, (by
      intro xs η0 hlx hp hpp ys η hr hl hI hig
      match ys, hl, hI, hig with
      | [x1, x2, x3, x4, x5, x6], _, hI, hig =>
        refine ⟨?_, ?_⟩
        · refine List.forall_mem_cons.mpr ⟨?_, List.forall_mem_cons.mpr ⟨?_, List.forall_mem_cons.mpr ⟨?_, fun _ h => nomatch h⟩⟩⟩
          · refine zden_L (n := 7) (ρ := [x6, x5, x4, x3, x2, x1, 0]) rfl ?_
            exact zhs_bestBit9_o4 (ro := ro) xs η0 hp hpp x1 x2 x3 x4 x5 x6 η hI hig
          · refine zden_L (n := 7) (ρ := [x6, x5, x4, x3, x2, x1, 0]) rfl ?_
            exact zhs_bestBit9_o5 (ro := ro) xs η0 hp hpp x1 x2 x3 x4 x5 x6 η hI hig
          · refine zden_L (n := 7) (ρ := [x6, x5, x4, x3, x2, x1, 0]) rfl ?_
            exact zhs_bestBit9_o6 (ro := ro) xs η0 hp hpp x1 x2 x3 x4 x5 x6 η hI hig
        · exact fun _ h => nomatch h
      )⟩, (fun _ h => nomatch h)⟩)⟩))
def zPhs_bestBit10 : zPq := ([((.ofNat (nat_lit 10)), (.ofNat (nat_lit 10)))], [])
def zOhs_bestBit10 : zPo := (((.negSucc (nat_lit 2147483647)), (.ofNat (nat_lit 2147483647))), [], [])
def zMhs_bestBit10 : List zCe := [(nat_lit 0, nat_lit 3)]
def pPhs_bestBit10 : List Int → zE → Prop := fun _ _ => True
def oQhs_bestBit10 : List Int → zE → Int → zE → Prop := fun _ _ _ _ => True
def fQhs_bestBit10 : List Int → zE → Int → zE → Prop := fun xs η y η' => y = (yw_bb (xs.getD 0 0) η) ∧ η' = (zup η 0 2 0)
def pQhs_bestBit10 : List Int → zE → Int → zE → Prop := fun xs η y η' => oQhs_bestBit10 xs η y η' ∧ fQhs_bestBit10 xs η y η'
def pChs_bestBit10 : Nat → List Int → zE → Prop := fun c => match c with
  | 0 => pPhs_isIn
  | _ => fun _ _ => True
def qChs_bestBit10 : Nat → List Int → zE → Int → zE → Prop := fun c => match c with
  | 0 => pQhs_isIn
  | _ => fun _ _ _ _ => True
def iChs_bestBit10 : List Int → zE → Nat → List Int → zE → Prop := fun xs η0 c => match c with
  | 0 => fun ys η => (True) ∧ (yw_bI η0 (xs.getD 0 0) (ys.getD 0 0) (ys.getD 1 0) (ys.getD 2 0) (ys.getD 3 0) η)
  | 1 => fun ys η => (True) ∧ (yw_bJ η0 (xs.getD 0 0) (ys.getD 0 0) (ys.getD 1 0) (ys.getD 2 0) (ys.getD 3 0) (ys.getD 4 0) (ys.getD 5 0) η)
  | _ => fun _ _ => True
def zVhs_bestBit10 : List zIv := [(nat_lit 0, ([((.ofNat (nat_lit 10)), (.ofNat (nat_lit 10))), ((.negSucc (nat_lit 2147483647)), (.ofNat (nat_lit 2147483647))), ((.negSucc (nat_lit 2147483647)), (.ofNat (nat_lit 2147483647))), ((.ofNat (nat_lit 0)), (.ofNat (nat_lit 3)))], []), ((.ofNat (nat_lit 2000)), [((.negSucc (nat_lit 99)), nat_lit 0, nat_lit 3, nat_lit 0)])), (nat_lit 1, ([((.ofNat (nat_lit 10)), (.ofNat (nat_lit 10))), ((.negSucc (nat_lit 2147483647)), (.ofNat (nat_lit 2147483647))), ((.negSucc (nat_lit 2147483647)), (.ofNat (nat_lit 2147483647))), ((.ofNat (nat_lit 0)), (.ofNat (nat_lit 2))), ((.negSucc (nat_lit 2147483647)), (.ofNat (nat_lit 2147483647))), ((.ofNat (nat_lit 0)), (.ofNat (nat_lit 10)))], []), ((.ofNat (nat_lit 1950)), [((.negSucc (nat_lit 99)), nat_lit 0, nat_lit 3, nat_lit 0), ((.negSucc (nat_lit 0)), nat_lit 0, nat_lit 5, nat_lit 0)]))]
def zUhs_bestBit10 : List zCu := [(nat_lit 25, nat_lit 0, [(nat_lit 0, (.inr (.inr (.inl (nat_lit 0))))), (nat_lit 1, (.inl (nat_lit 1, (.ofNat (nat_lit 0))))), (nat_lit 2, (.inl (nat_lit 2, (.ofNat (nat_lit 0))))), (nat_lit 3, (.inl (nat_lit 3, (.ofNat (nat_lit 0))))), (nat_lit 4, (.inl (nat_lit 4, (.ofNat (nat_lit 0)))))], []), (nat_lit 42, nat_lit 1, [(nat_lit 0, (.inr (.inr (.inl (nat_lit 0))))), (nat_lit 1, (.inl (nat_lit 1, (.ofNat (nat_lit 0))))), (nat_lit 2, (.inl (nat_lit 2, (.ofNat (nat_lit 0))))), (nat_lit 3, (.inl (nat_lit 3, (.ofNat (nat_lit 0))))), (nat_lit 4, (.inl (nat_lit 4, (.ofNat (nat_lit 0))))), (nat_lit 5, (.inl (nat_lit 5, (.ofNat (nat_lit 0))))), (nat_lit 6, (.inl (nat_lit 6, (.ofNat (nat_lit 0)))))], [])]
def zDhs_bestBit10 : List (List zK) := []
def zEhs_bestBit10 : List (List zK) := [[(nat_lit 13, nat_lit 0, [(nat_lit 1, (.ofNat (nat_lit 0))), (nat_lit 0, (.ofNat (nat_lit 1))), (nat_lit 0, (.ofNat (nat_lit 12)))]), (nat_lit 5, nat_lit 0, [(nat_lit 0, (.ofNat (nat_lit 0))), (nat_lit 0, (.ofNat (nat_lit 2))), (nat_lit 0, (.ofNat (nat_lit 0)))])],
  [(nat_lit 12, nat_lit 0, [(nat_lit 1, (.ofNat (nat_lit 0))), (nat_lit 0, (.negSucc (nat_lit 1))), (nat_lit 0, (.negSucc (nat_lit 0))), (nat_lit 0, (.ofNat (nat_lit 0)))]), (nat_lit 6, nat_lit 1, [(nat_lit 2, (.ofNat (nat_lit 0))), (nat_lit 0, (.ofNat (nat_lit 0)))]), (nat_lit 8, nat_lit 0, [(nat_lit 1, (.ofNat (nat_lit 0))), (nat_lit 0, (.ofNat (nat_lit 1))), (nat_lit 0, (.ofNat (nat_lit 12)))]), (nat_lit 5, nat_lit 0, [(nat_lit 0, (.ofNat (nat_lit 0))), (nat_lit 0, (.ofNat (nat_lit 2))), (nat_lit 0, (.ofNat (nat_lit 0)))])],
  [(nat_lit 11, nat_lit 0, [(nat_lit 0, (.negSucc (nat_lit 0)))]), (nat_lit 6, nat_lit 0, [(nat_lit 2, (.ofNat (nat_lit 0))), (nat_lit 0, (.ofNat (nat_lit 0)))]), (nat_lit 8, nat_lit 0, [(nat_lit 1, (.ofNat (nat_lit 0))), (nat_lit 0, (.ofNat (nat_lit 1))), (nat_lit 0, (.ofNat (nat_lit 12)))]), (nat_lit 5, nat_lit 0, [(nat_lit 0, (.ofNat (nat_lit 0))), (nat_lit 0, (.ofNat (nat_lit 2))), (nat_lit 0, (.ofNat (nat_lit 0)))])]]
def zFhs_bestBit10 : List (List zK) := []
def zDhs_bestBit10_0 : List (List zK) := []
def zEhs_bestBit10_0 : List (List zK) := [[(nat_lit 11, nat_lit 0, [(nat_lit 2, (.ofNat (nat_lit 0)))]), (nat_lit 6, nat_lit 4, [(nat_lit 5, (.ofNat (nat_lit 0))), (nat_lit 6, (.ofNat (nat_lit 0)))]), (nat_lit 4, nat_lit 0, [(nat_lit 0, (.ofNat (nat_lit 0))), (nat_lit 0, (.ofNat (nat_lit 12)))]), (nat_lit 0, nat_lit 1, [(nat_lit 4, (.ofNat (nat_lit 0))), (nat_lit 1, (.ofNat (nat_lit 0)))])],
  [(nat_lit 10, nat_lit 1, [(nat_lit 1, (.ofNat (nat_lit 0))), (nat_lit 2, (.ofNat (nat_lit 0))), (nat_lit 3, (.ofNat (nat_lit 0))), (nat_lit 4, (.ofNat (nat_lit 0))), (nat_lit 0, (.ofNat (nat_lit 0))), (nat_lit 0, (.ofNat (nat_lit 0)))]), (nat_lit 6, nat_lit 5, [(nat_lit 5, (.ofNat (nat_lit 0))), (nat_lit 6, (.ofNat (nat_lit 0)))]), (nat_lit 4, nat_lit 0, [(nat_lit 0, (.ofNat (nat_lit 0))), (nat_lit 0, (.ofNat (nat_lit 12)))]), (nat_lit 0, nat_lit 1, [(nat_lit 4, (.ofNat (nat_lit 0))), (nat_lit 1, (.ofNat (nat_lit 0)))])]]
def zFhs_bestBit10_0 : List (List zK) := []
def zDhs_bestBit10_1 : List (List zK) := [[(nat_lit 7, nat_lit 0, [(nat_lit 7, (.ofNat (nat_lit 0))), (nat_lit 0, (.ofNat (nat_lit 24)))]), (nat_lit 0, nat_lit 1, [(nat_lit 4, (.ofNat (nat_lit 0))), (nat_lit 6, (.ofNat (nat_lit 0)))]), (nat_lit 6, nat_lit 2, [(nat_lit 6, (.ofNat (nat_lit 0))), (nat_lit 1, (.ofNat (nat_lit 0)))])]]
def zEhs_bestBit10_1 : List (List zK) := [[(nat_lit 10, nat_lit 0, [(nat_lit 1, (.ofNat (nat_lit 0))), (nat_lit 4, (.ofNat (nat_lit 0))), (nat_lit 5, (.ofNat (nat_lit 0))), (nat_lit 7, (.ofNat (nat_lit 0)))]), (nat_lit 0, nat_lit 1, [(nat_lit 4, (.ofNat (nat_lit 0))), (nat_lit 0, (.ofNat (nat_lit 1)))]), (nat_lit 6, nat_lit 4, [(nat_lit 5, (.ofNat (nat_lit 0))), (nat_lit 3, (.ofNat (nat_lit 0)))]), (nat_lit 6, nat_lit 3, [(nat_lit 6, (.ofNat (nat_lit 0))), (nat_lit 1, (.ofNat (nat_lit 0)))])],
  [(nat_lit 10, nat_lit 0, [(nat_lit 1, (.ofNat (nat_lit 0))), (nat_lit 2, (.ofNat (nat_lit 0))), (nat_lit 3, (.ofNat (nat_lit 0))), (nat_lit 7, (.ofNat (nat_lit 0)))]), (nat_lit 0, nat_lit 1, [(nat_lit 4, (.ofNat (nat_lit 0))), (nat_lit 0, (.ofNat (nat_lit 1)))]), (nat_lit 6, nat_lit 5, [(nat_lit 5, (.ofNat (nat_lit 0))), (nat_lit 3, (.ofNat (nat_lit 0)))]), (nat_lit 6, nat_lit 3, [(nat_lit 6, (.ofNat (nat_lit 0))), (nat_lit 1, (.ofNat (nat_lit 0)))])],
  [(nat_lit 10, nat_lit 1, [(nat_lit 1, (.ofNat (nat_lit 0))), (nat_lit 2, (.ofNat (nat_lit 0))), (nat_lit 3, (.ofNat (nat_lit 0))), (nat_lit 4, (.ofNat (nat_lit 0))), (nat_lit 9, (.ofNat (nat_lit 0))), (nat_lit 10, (.ofNat (nat_lit 0)))]), (nat_lit 0, nat_lit 1, [(nat_lit 6, (.ofNat (nat_lit 0))), (nat_lit 0, (.ofNat (nat_lit 1)))]), (nat_lit 0, nat_lit 1, [(nat_lit 5, (.ofNat (nat_lit 0))), (nat_lit 8, (.ofNat (nat_lit 0)))]), (nat_lit 4, nat_lit 0, [(nat_lit 6, (.ofNat (nat_lit 0))), (nat_lit 7, (.ofNat (nat_lit 0)))]), (nat_lit 0, nat_lit 1, [(nat_lit 4, (.ofNat (nat_lit 0))), (nat_lit 6, (.ofNat (nat_lit 0)))]), (nat_lit 6, nat_lit 2, [(nat_lit 6, (.ofNat (nat_lit 0))), (nat_lit 1, (.ofNat (nat_lit 0)))])]]
def zFhs_bestBit10_1 : List (List zK) := []
set_option maxHeartbeats 8000000 in
theorem zhs_bestBit10_o0 {ro : Nat → List Int32} (x1 : Int) (η : zE) (hp : sP wl_hs zTr zPhs_bestBit10 [x1] η) (hpp : pPhs_bestBit10 [x1] η) : ∀ η1 : zE, η1 = zup η 0 (Int.toNat 2) 0 → ∀ (x2 : Int) (η2 : zE), ((gC2 wl_hs [(nat_lit 0, zPhs_isIn, zOhs_isIn, zMhs_isIn)] pChs_bestBit10 qChs_bestBit10) 0).2 [x1, 1, 12] η1 x2 η2 → (¬ x2 = 0) → (iChs_bestBit10 [x1] η) 0 [x1, (-2), (-1), 0] η2 := by
  intro η1 eη1 x2 η2 h2 c1
  have y2 : fQhs_isIn [x1, 1, 12] η1 x2 η2 := h2.2.2
  have k2 : sQ wl_hs zTr zOhs_isIn zMhs_isIn [x1, 1, 12] η1 x2 η2 ∧ oQhs_isIn [x1, 1, 12] η1 x2 η2 := ⟨h2.1, h2.2.1⟩
  refine yj_a ?_ ?_
  · have y2 : fQhs_isIn [x1, 1, 12] η1 x2 η2 := h2.2.2
    have k2 : sQ wl_hs zTr zOhs_isIn zMhs_isIn [x1, 1, 12] η1 x2 η2 ∧ oQhs_isIn [x1, 1, 12] η1 x2 η2 := ⟨h2.1, h2.2.1⟩
    exact trivial
  · have eη1 : η1 = zup η 0 2 0 := eη1
    obtain ⟨a2, b2⟩ : x2 = yq_in x1 1 12 ∧ η2 = η1 := y2
    show yw_bI η x1 x1 (-2) (-1) 0 η2
    exact wbI_0 (by rw [b2, eη1]) (by omega)
set_option maxHeartbeats 8000000 in
theorem zhs_bestBit10_o1 {ro : Nat → List Int32} (x1 : Int) (η : zE) (hp : sP wl_hs zTr zPhs_bestBit10 [x1] η) (hpp : pPhs_bestBit10 [x1] η) : ∀ η1 : zE, η1 = zup η 0 (Int.toNat 2) 0 → ∀ (x2 : Int) (η2 : zE), ((gC2 wl_hs [(nat_lit 0, zPhs_isIn, zOhs_isIn, zMhs_isIn)] pChs_bestBit10 qChs_bestBit10) 0).2 [x1, 1, 12] η1 x2 η2 → (x2 = 0) → (fun (_ : Nat) (y : Int) (η' : zE) => pQhs_bestBit10 [x1] η y η') 0 (-1) η2 := by
  intro η1 eη1 x2 η2 h2 c1
  have y2 : fQhs_isIn [x1, 1, 12] η1 x2 η2 := h2.2.2
  have k2 : sQ wl_hs zTr zOhs_isIn zMhs_isIn [x1, 1, 12] η1 x2 η2 ∧ oQhs_isIn [x1, 1, 12] η1 x2 η2 := ⟨h2.1, h2.2.1⟩
  refine yj_a ?_ ?_
  · have y2 : fQhs_isIn [x1, 1, 12] η1 x2 η2 := h2.2.2
    have k2 : sQ wl_hs zTr zOhs_isIn zMhs_isIn [x1, 1, 12] η1 x2 η2 ∧ oQhs_isIn [x1, 1, 12] η1 x2 η2 := ⟨h2.1, h2.2.1⟩
    exact trivial
  · have eη1 : η1 = zup η 0 2 0 := eη1
    obtain ⟨a2, b2⟩ : x2 = yq_in x1 1 12 ∧ η2 = η1 := y2
    show -1 = yw_bb x1 η ∧ η2 = zup η 0 2 0
    exact ⟨by unfold yw_bb; rw [if_pos (by omega)], (by rw [b2, eη1])⟩
set_option maxHeartbeats 8000000 in
theorem zhs_bestBit10_o2 {ro : Nat → List Int32} (xs : List Int) (η0 : zE) (hp : sP wl_hs zTr zPhs_bestBit10 xs η0) (hpp : pPhs_bestBit10 xs η0) (x1 x2 x3 x4 : Int) (η : zE) (hI : zsI wl_hs zTr zVhs_bestBit10 zMhs_bestBit10 η0 0 [x1, x2, x3, x4] η) (hig : iChs_bestBit10 xs η0 0 [x1, x2, x3, x4] η) : ∀ x5 : Int, x5 = zd 0 1 x4 x1 → ∀ x6 : Int, x6 = η 0 (Int.toNat 12) → zok 0 x6 → (x6 < x5) → (fun (_ : Nat) (y : Int) (η' : zE) => pQhs_bestBit10 xs η0 y η') 0 x2 η := by
  have fig := hig.2
  have hig := hig.1
  intro x5 e5 x6 e6 r6 c1
  refine yj_a ?_ ?_
  · exact trivial
  · have e5 : x5 = zd 0 1 x4 x1 := e5
    have e6 : x6 = η 0 12 := e6
    have b4 : (0 : Int) ≤ x4 ∧ x4 ≤ 3 := hI.1.2.1.2.2.2.1
    exact wbI_e (k := x1) (m := x3) (f := x4) fig (by omega) e5 (by rw [← e6]; omega)
set_option maxHeartbeats 8000000 in
theorem zhs_bestBit10_o3 {ro : Nat → List Int32} (xs : List Int) (η0 : zE) (hp : sP wl_hs zTr zPhs_bestBit10 xs η0) (hpp : pPhs_bestBit10 xs η0) (x1 x2 x3 x4 : Int) (η : zE) (hI : zsI wl_hs zTr zVhs_bestBit10 zMhs_bestBit10 η0 0 [x1, x2, x3, x4] η) (hig : iChs_bestBit10 xs η0 0 [x1, x2, x3, x4] η) : ∀ x5 : Int, x5 = zd 0 1 x4 x1 → ∀ x6 : Int, x6 = η 0 (Int.toNat 12) → zok 0 x6 → (x5 ≤ x6) → (iChs_bestBit10 xs η0) 1 [x1, x2, x3, x4, 0, 0] η ∧ (fun (_ : Nat) (_ : List Int) (_ : zE) => (0 : Nat)) 1 [x1, x2, x3, x4, 0, 0] η < 1 := by
  have fig := hig.2
  have hig := hig.1
  intro x5 e5 x6 e6 r6 c1
  refine yj_c ?_ ?_
  · exact ⟨trivial, Nat.zero_lt_one⟩
  · have e5 : x5 = zd 0 1 x4 x1 := e5
    have e6 : x6 = η 0 12 := e6
    have b4 : (0 : Int) ≤ x4 ∧ x4 ≤ 3 := hI.1.2.1.2.2.2.1
    show yw_bJ η0 (xs.getD 0 0) x1 x2 x3 x4 0 0 η
    exact wbJ_0 fig (by omega) e5 (by rw [← e6]; omega)
set_option maxHeartbeats 8000000 in
theorem zhs_bestBit10_o4 {ro : Nat → List Int32} (xs : List Int) (η0 : zE) (hp : sP wl_hs zTr zPhs_bestBit10 xs η0) (hpp : pPhs_bestBit10 xs η0) (x1 x2 x3 x4 x5 x6 : Int) (η : zE) (hI : zsI wl_hs zTr zVhs_bestBit10 zMhs_bestBit10 η0 1 [x1, x2, x3, x4, x5, x6] η) (hig : iChs_bestBit10 xs η0 1 [x1, x2, x3, x4, x5, x6] η) : (x1 ≤ x6) → (x3 < x5) → ∀ x7 : Int, x7 = zd 0 1 x4 1 → (iChs_bestBit10 xs η0) 0 [x1, x4, x5, x7] η ∧ (fun (_ : Nat) (_ : List Int) (_ : zE) => (0 : Nat)) 0 [x1, x4, x5, x7] η < 1 := by
  have fig := hig.2
  have hig := hig.1
  intro c1 c2 x7 e7
  refine yj_c ?_ ?_
  · exact ⟨trivial, Nat.zero_lt_one⟩
  · have e7 : x7 = zd 0 1 x4 1 := e7
    have b4 : (0 : Int) ≤ x4 ∧ x4 ≤ 2 := hI.1.2.1.2.2.2.1
    show yw_bI η0 (xs.getD 0 0) x1 x4 x5 x7 η
    refine wbJ_e (b := x2) (m := x3) (k := x1) (f := x4) (i := x6) (s := x5) fig (by omega) (by omega) e7 ?_
    rw [if_pos (by omega)]
set_option maxHeartbeats 8000000 in
theorem zhs_bestBit10_o5 {ro : Nat → List Int32} (xs : List Int) (η0 : zE) (hp : sP wl_hs zTr zPhs_bestBit10 xs η0) (hpp : pPhs_bestBit10 xs η0) (x1 x2 x3 x4 x5 x6 : Int) (η : zE) (hI : zsI wl_hs zTr zVhs_bestBit10 zMhs_bestBit10 η0 1 [x1, x2, x3, x4, x5, x6] η) (hig : iChs_bestBit10 xs η0 1 [x1, x2, x3, x4, x5, x6] η) : (x1 ≤ x6) → (x5 ≤ x3) → ∀ x7 : Int, x7 = zd 0 1 x4 1 → (iChs_bestBit10 xs η0) 0 [x1, x2, x3, x7] η ∧ (fun (_ : Nat) (_ : List Int) (_ : zE) => (0 : Nat)) 0 [x1, x2, x3, x7] η < 1 := by
  have fig := hig.2
  have hig := hig.1
  intro c1 c2 x7 e7
  refine yj_c ?_ ?_
  · exact ⟨trivial, Nat.zero_lt_one⟩
  · have e7 : x7 = zd 0 1 x4 1 := e7
    have b4 : (0 : Int) ≤ x4 ∧ x4 ≤ 2 := hI.1.2.1.2.2.2.1
    show yw_bI η0 (xs.getD 0 0) x1 x2 x3 x7 η
    refine wbJ_e (b := x2) (m := x3) (k := x1) (f := x4) (i := x6) (s := x5) fig (by omega) (by omega) e7 ?_
    rw [if_neg (by omega)]
set_option maxHeartbeats 8000000 in
theorem zhs_bestBit10_o6 {ro : Nat → List Int32} (xs : List Int) (η0 : zE) (hp : sP wl_hs zTr zPhs_bestBit10 xs η0) (hpp : pPhs_bestBit10 xs η0) (x1 x2 x3 x4 x5 x6 : Int) (η : zE) (hI : zsI wl_hs zTr zVhs_bestBit10 zMhs_bestBit10 η0 1 [x1, x2, x3, x4, x5, x6] η) (hig : iChs_bestBit10 xs η0 1 [x1, x2, x3, x4, x5, x6] η) : (x6 < x1) → ∀ x7 : Int, x7 = zd 0 1 x4 x6 → ∀ x8 : Int, x8 = η 6 (Int.toNat x7) → zok 0 x8 → ∀ x9 : Int, x9 = zd 0 1 x5 x8 → ∀ x10 : Int, x10 = zd 0 1 x6 1 → (iChs_bestBit10 xs η0) 1 [x1, x2, x3, x4, x9, x10] η ∧ (fun (_ : Nat) (_ : List Int) (_ : zE) => (0 : Nat)) 1 [x1, x2, x3, x4, x9, x10] η < 1 := by
  have fig := hig.2
  have hig := hig.1
  intro c1 x7 e7 x8 e8 r8 x9 e9 x10 e10
  refine yj_c ?_ ?_
  · exact ⟨trivial, Nat.zero_lt_one⟩
  · have e7 : x7 = zd 0 1 x4 x6 := e7
    have e8 : x8 = η 6 (Int.toNat x7) := e8
    have e9 : x9 = zd 0 1 x5 x8 := e9
    have e10 : x10 = zd 0 1 x6 1 := e10
    have b4 : (0 : Int) ≤ x4 ∧ x4 ≤ 2 := hI.1.2.1.2.2.2.1
    show yw_bJ η0 (xs.getD 0 0) x1 x2 x3 x4 x9 x10 η
    exact wbJ_s (k := x1) (f := x4) (i := x6) fig (by omega) (by omega) e7 e8 e9 e10
set_option maxHeartbeats 8000000 in
theorem zhs_bestBit10 {ro : Nat → List Int32} : zMet pr_P pr_K pr_df ro (sm_X0 1 6) 1 200 tm_hs [(.inr (.inr (.inl (nat_lit 0)))), (.inl (nat_lit 1, (.ofNat (nat_lit 0))))] 1 [(nat_lit 0, nat_lit 0, nat_lit 1), (nat_lit 0, nat_lit 3, nat_lit 2), (nat_lit 0, nat_lit 20, nat_lit 3), (nat_lit 0, nat_lit 21, nat_lit 4), (nat_lit 0, nat_lit 22, nat_lit 5), (nat_lit 0, nat_lit 23, nat_lit 6), (nat_lit 0, nat_lit 24, nat_lit 7), (nat_lit 0, nat_lit 25, nat_lit 8), (nat_lit 0, nat_lit 26, nat_lit 9), (nat_lit 0, nat_lit 27, nat_lit 10), (nat_lit 0, nat_lit 28, nat_lit 11), (nat_lit 0, nat_lit 29, nat_lit 12), (nat_lit 0, nat_lit 30, nat_lit 13), (nat_lit 0, nat_lit 31, nat_lit 14), (nat_lit 0, nat_lit 32, nat_lit 15), (nat_lit 0, nat_lit 33, nat_lit 16), (nat_lit 0, nat_lit 34, nat_lit 17), (nat_lit 0, nat_lit 35, nat_lit 18), (nat_lit 0, nat_lit 36, nat_lit 19), (nat_lit 0, nat_lit 37, nat_lit 20), (nat_lit 0, nat_lit 38, nat_lit 21), (nat_lit 0, nat_lit 39, nat_lit 22), (nat_lit 0, nat_lit 40, nat_lit 23), (nat_lit 0, nat_lit 47, nat_lit 24), (nat_lit 0, nat_lit 48, nat_lit 25), (nat_lit 0, nat_lit 50, nat_lit 26), (nat_lit 0, nat_lit 51, nat_lit 27), (nat_lit 0, nat_lit 52, nat_lit 28), (nat_lit 0, nat_lit 53, nat_lit 29), (nat_lit 0, nat_lit 54, nat_lit 30), (nat_lit 0, nat_lit 55, nat_lit 31), (nat_lit 0, nat_lit 56, nat_lit 32), (nat_lit 0, nat_lit 57, nat_lit 33), (nat_lit 0, nat_lit 58, nat_lit 34), (nat_lit 0, nat_lit 59, nat_lit 35), (nat_lit 0, nat_lit 72, nat_lit 36), (nat_lit 0, nat_lit 73, nat_lit 37), (nat_lit 0, nat_lit 76, nat_lit 38), (nat_lit 0, nat_lit 77, nat_lit 39), (nat_lit 0, nat_lit 79, nat_lit 40), (nat_lit 0, nat_lit 81, nat_lit 41), (nat_lit 0, nat_lit 82, nat_lit 42)] [] (fun xs η => sP wl_hs zTr zPhs_bestBit10 xs η ∧ pPhs_bestBit10 xs η) (fun xs η y η' => sQ wl_hs zTr zOhs_bestBit10 zMhs_bestBit10 xs η y η' ∧ pQhs_bestBit10 xs η y η') :=
  zmet_alt (zmea_gen (mi := (nat_lit 1, nat_lit 1, nat_lit 8, nat_lit 7, nat_lit 1, tX8_bestBit)) (cd := [(nat_lit 117, nat_lit 0, nat_lit 0, [(.inl (nat_lit 1, (.ofNat (nat_lit 0)))), (.inl (nat_lit 2, (.ofNat (nat_lit 0)))), (.inl (nat_lit 3, (.ofNat (nat_lit 0))))], nat_lit 2, [], [])]) (cu := zUhs_bestBit10) (cs := [(nat_lit 0, zPhs_isIn, zOhs_isIn, zMhs_isIn)]) (iv := zVhs_bestBit10) (po := [zOhs_bestBit10]) (pr := zPhs_bestBit10) (mods := zMhs_bestBit10) (D7 := zDhs_bestBit10) (D0 := zEhs_bestBit10) (Dm := zFhs_bestBit10) (f0 := 19) pChs_bestBit10 qChs_bestBit10 iChs_bestBit10 pPhs_bestBit10 (fun xs η _ y η' => pQhs_bestBit10 xs η y η') zX_low pr_mtR rfl (List.forall_mem_cons.mpr ⟨zhs_isIn, fun _ h => nomatch h⟩) (by decide +kernel) (by decide +kernel) (by decide +kernel)
    (by
      intro xs η hr hl hp hpp
      match xs, hl, hp, hpp with
      | [x1], _, hp, hpp =>
        refine List.forall_mem_cons.mpr ⟨?_, List.forall_mem_cons.mpr ⟨?_, List.forall_mem_cons.mpr ⟨?_, fun _ h => nomatch h⟩⟩⟩
        · refine zden_L (n := 2) (ρ := [x1, 0]) rfl ?_
          show ∀ η1 : zE, η1 = zup η 0 (Int.toNat 2) 0 → ((gC2 wl_hs [(nat_lit 0, zPhs_isIn, zOhs_isIn, zMhs_isIn)] pChs_bestBit10 qChs_bestBit10) 0).1 [x1, 1, 12] η1
          intro η1 eη1
          exact trivial
        · refine zden_L (n := 2) (ρ := [x1, 0]) rfl ?_
          exact zhs_bestBit10_o0 (ro := ro) x1 η hp hpp
        · refine zden_L (n := 2) (ρ := [x1, 0]) rfl ?_
          exact zhs_bestBit10_o1 (ro := ro) x1 η hp hpp
      )
    (fun _ _ _ _ _ _ _ h => nomatch h)
    (List.forall_mem_cons.mpr ⟨⟨zDhs_bestBit10_0, zEhs_bestBit10_0, zFhs_bestBit10_0, 15, by decide +kernel, (by
      intro xs η0 hlx hp hpp ys η hr hl hI hig
      match ys, hl, hI, hig with
      | [x1, x2, x3, x4], _, hI, hig =>
        refine ⟨?_, ?_⟩
        · refine List.forall_mem_cons.mpr ⟨?_, List.forall_mem_cons.mpr ⟨?_, fun _ h => nomatch h⟩⟩
          · refine zden_L (n := 5) (ρ := [x4, x3, x2, x1, 0]) rfl ?_
            exact zhs_bestBit10_o2 (ro := ro) xs η0 hp hpp x1 x2 x3 x4 η hI hig
          · refine zden_L (n := 5) (ρ := [x4, x3, x2, x1, 0]) rfl ?_
            exact zhs_bestBit10_o3 (ro := ro) xs η0 hp hpp x1 x2 x3 x4 η hI hig
        · exact fun _ h => nomatch h
      )⟩, (List.forall_mem_cons.mpr ⟨⟨zDhs_bestBit10_1, zEhs_bestBit10_1, zFhs_bestBit10_1, 19, by decide +kernel, (by
      intro xs η0 hlx hp hpp ys η hr hl hI hig
      match ys, hl, hI, hig with
      | [x1, x2, x3, x4, x5, x6], _, hI, hig =>
        refine ⟨?_, ?_⟩
        · refine List.forall_mem_cons.mpr ⟨?_, List.forall_mem_cons.mpr ⟨?_, List.forall_mem_cons.mpr ⟨?_, fun _ h => nomatch h⟩⟩⟩
          · refine zden_L (n := 7) (ρ := [x6, x5, x4, x3, x2, x1, 0]) rfl ?_
            exact zhs_bestBit10_o4 (ro := ro) xs η0 hp hpp x1 x2 x3 x4 x5 x6 η hI hig
          · refine zden_L (n := 7) (ρ := [x6, x5, x4, x3, x2, x1, 0]) rfl ?_
            exact zhs_bestBit10_o5 (ro := ro) xs η0 hp hpp x1 x2 x3 x4 x5 x6 η hI hig
          · refine zden_L (n := 7) (ρ := [x6, x5, x4, x3, x2, x1, 0]) rfl ?_
            exact zhs_bestBit10_o6 (ro := ro) xs η0 hp hpp x1 x2 x3 x4 x5 x6 η hI hig
        · exact fun _ h => nomatch h
      )⟩, (fun _ h => nomatch h)⟩)⟩))
def zPhs_bestBit11 : zPq := ([((.ofNat (nat_lit 11)), (.ofNat (nat_lit 11)))], [])
def zOhs_bestBit11 : zPo := (((.negSucc (nat_lit 2147483647)), (.ofNat (nat_lit 2147483647))), [], [])
def zMhs_bestBit11 : List zCe := [(nat_lit 0, nat_lit 3)]
def pPhs_bestBit11 : List Int → zE → Prop := fun _ _ => True
def oQhs_bestBit11 : List Int → zE → Int → zE → Prop := fun _ _ _ _ => True
def fQhs_bestBit11 : List Int → zE → Int → zE → Prop := fun xs η y η' => y = (yw_bb (xs.getD 0 0) η) ∧ η' = (zup η 0 2 0)
def pQhs_bestBit11 : List Int → zE → Int → zE → Prop := fun xs η y η' => oQhs_bestBit11 xs η y η' ∧ fQhs_bestBit11 xs η y η'
def pChs_bestBit11 : Nat → List Int → zE → Prop := fun c => match c with
  | 0 => pPhs_isIn
  | _ => fun _ _ => True
def qChs_bestBit11 : Nat → List Int → zE → Int → zE → Prop := fun c => match c with
  | 0 => pQhs_isIn
  | _ => fun _ _ _ _ => True
def iChs_bestBit11 : List Int → zE → Nat → List Int → zE → Prop := fun xs η0 c => match c with
  | 0 => fun ys η => (True) ∧ (yw_bI η0 (xs.getD 0 0) (ys.getD 0 0) (ys.getD 1 0) (ys.getD 2 0) (ys.getD 3 0) η)
  | 1 => fun ys η => (True) ∧ (yw_bJ η0 (xs.getD 0 0) (ys.getD 0 0) (ys.getD 1 0) (ys.getD 2 0) (ys.getD 3 0) (ys.getD 4 0) (ys.getD 5 0) η)
  | _ => fun _ _ => True
def zVhs_bestBit11 : List zIv := [(nat_lit 0, ([((.ofNat (nat_lit 11)), (.ofNat (nat_lit 11))), ((.negSucc (nat_lit 2147483647)), (.ofNat (nat_lit 2147483647))), ((.negSucc (nat_lit 2147483647)), (.ofNat (nat_lit 2147483647))), ((.ofNat (nat_lit 0)), (.ofNat (nat_lit 2)))], []), ((.ofNat (nat_lit 2000)), [((.negSucc (nat_lit 99)), nat_lit 0, nat_lit 3, nat_lit 0)])), (nat_lit 1, ([((.ofNat (nat_lit 11)), (.ofNat (nat_lit 11))), ((.negSucc (nat_lit 2147483647)), (.ofNat (nat_lit 2147483647))), ((.negSucc (nat_lit 2147483647)), (.ofNat (nat_lit 2147483647))), ((.ofNat (nat_lit 0)), (.ofNat (nat_lit 1))), ((.negSucc (nat_lit 2147483647)), (.ofNat (nat_lit 2147483647))), ((.ofNat (nat_lit 0)), (.ofNat (nat_lit 11)))], []), ((.ofNat (nat_lit 1950)), [((.negSucc (nat_lit 99)), nat_lit 0, nat_lit 3, nat_lit 0), ((.negSucc (nat_lit 0)), nat_lit 0, nat_lit 5, nat_lit 0)]))]
def zUhs_bestBit11 : List zCu := [(nat_lit 25, nat_lit 0, [(nat_lit 0, (.inr (.inr (.inl (nat_lit 0))))), (nat_lit 1, (.inl (nat_lit 1, (.ofNat (nat_lit 0))))), (nat_lit 2, (.inl (nat_lit 2, (.ofNat (nat_lit 0))))), (nat_lit 3, (.inl (nat_lit 3, (.ofNat (nat_lit 0))))), (nat_lit 4, (.inl (nat_lit 4, (.ofNat (nat_lit 0)))))], []), (nat_lit 42, nat_lit 1, [(nat_lit 0, (.inr (.inr (.inl (nat_lit 0))))), (nat_lit 1, (.inl (nat_lit 1, (.ofNat (nat_lit 0))))), (nat_lit 2, (.inl (nat_lit 2, (.ofNat (nat_lit 0))))), (nat_lit 3, (.inl (nat_lit 3, (.ofNat (nat_lit 0))))), (nat_lit 4, (.inl (nat_lit 4, (.ofNat (nat_lit 0))))), (nat_lit 5, (.inl (nat_lit 5, (.ofNat (nat_lit 0))))), (nat_lit 6, (.inl (nat_lit 6, (.ofNat (nat_lit 0)))))], [])]
def zDhs_bestBit11 : List (List zK) := []
def zEhs_bestBit11 : List (List zK) := [[(nat_lit 13, nat_lit 0, [(nat_lit 1, (.ofNat (nat_lit 0))), (nat_lit 0, (.ofNat (nat_lit 1))), (nat_lit 0, (.ofNat (nat_lit 12)))]), (nat_lit 5, nat_lit 0, [(nat_lit 0, (.ofNat (nat_lit 0))), (nat_lit 0, (.ofNat (nat_lit 2))), (nat_lit 0, (.ofNat (nat_lit 0)))])],
  [(nat_lit 12, nat_lit 0, [(nat_lit 1, (.ofNat (nat_lit 0))), (nat_lit 0, (.negSucc (nat_lit 1))), (nat_lit 0, (.negSucc (nat_lit 0))), (nat_lit 0, (.ofNat (nat_lit 0)))]), (nat_lit 6, nat_lit 1, [(nat_lit 2, (.ofNat (nat_lit 0))), (nat_lit 0, (.ofNat (nat_lit 0)))]), (nat_lit 8, nat_lit 0, [(nat_lit 1, (.ofNat (nat_lit 0))), (nat_lit 0, (.ofNat (nat_lit 1))), (nat_lit 0, (.ofNat (nat_lit 12)))]), (nat_lit 5, nat_lit 0, [(nat_lit 0, (.ofNat (nat_lit 0))), (nat_lit 0, (.ofNat (nat_lit 2))), (nat_lit 0, (.ofNat (nat_lit 0)))])],
  [(nat_lit 11, nat_lit 0, [(nat_lit 0, (.negSucc (nat_lit 0)))]), (nat_lit 6, nat_lit 0, [(nat_lit 2, (.ofNat (nat_lit 0))), (nat_lit 0, (.ofNat (nat_lit 0)))]), (nat_lit 8, nat_lit 0, [(nat_lit 1, (.ofNat (nat_lit 0))), (nat_lit 0, (.ofNat (nat_lit 1))), (nat_lit 0, (.ofNat (nat_lit 12)))]), (nat_lit 5, nat_lit 0, [(nat_lit 0, (.ofNat (nat_lit 0))), (nat_lit 0, (.ofNat (nat_lit 2))), (nat_lit 0, (.ofNat (nat_lit 0)))])]]
def zFhs_bestBit11 : List (List zK) := []
def zDhs_bestBit11_0 : List (List zK) := []
def zEhs_bestBit11_0 : List (List zK) := [[(nat_lit 11, nat_lit 0, [(nat_lit 2, (.ofNat (nat_lit 0)))]), (nat_lit 6, nat_lit 4, [(nat_lit 5, (.ofNat (nat_lit 0))), (nat_lit 6, (.ofNat (nat_lit 0)))]), (nat_lit 4, nat_lit 0, [(nat_lit 0, (.ofNat (nat_lit 0))), (nat_lit 0, (.ofNat (nat_lit 12)))]), (nat_lit 0, nat_lit 1, [(nat_lit 4, (.ofNat (nat_lit 0))), (nat_lit 1, (.ofNat (nat_lit 0)))])],
  [(nat_lit 10, nat_lit 1, [(nat_lit 1, (.ofNat (nat_lit 0))), (nat_lit 2, (.ofNat (nat_lit 0))), (nat_lit 3, (.ofNat (nat_lit 0))), (nat_lit 4, (.ofNat (nat_lit 0))), (nat_lit 0, (.ofNat (nat_lit 0))), (nat_lit 0, (.ofNat (nat_lit 0)))]), (nat_lit 6, nat_lit 5, [(nat_lit 5, (.ofNat (nat_lit 0))), (nat_lit 6, (.ofNat (nat_lit 0)))]), (nat_lit 4, nat_lit 0, [(nat_lit 0, (.ofNat (nat_lit 0))), (nat_lit 0, (.ofNat (nat_lit 12)))]), (nat_lit 0, nat_lit 1, [(nat_lit 4, (.ofNat (nat_lit 0))), (nat_lit 1, (.ofNat (nat_lit 0)))])]]
def zFhs_bestBit11_0 : List (List zK) := []
def zDhs_bestBit11_1 : List (List zK) := [[(nat_lit 7, nat_lit 0, [(nat_lit 7, (.ofNat (nat_lit 0))), (nat_lit 0, (.ofNat (nat_lit 24)))]), (nat_lit 0, nat_lit 1, [(nat_lit 4, (.ofNat (nat_lit 0))), (nat_lit 6, (.ofNat (nat_lit 0)))]), (nat_lit 6, nat_lit 2, [(nat_lit 6, (.ofNat (nat_lit 0))), (nat_lit 1, (.ofNat (nat_lit 0)))])]]
def zEhs_bestBit11_1 : List (List zK) := [[(nat_lit 10, nat_lit 0, [(nat_lit 1, (.ofNat (nat_lit 0))), (nat_lit 4, (.ofNat (nat_lit 0))), (nat_lit 5, (.ofNat (nat_lit 0))), (nat_lit 7, (.ofNat (nat_lit 0)))]), (nat_lit 0, nat_lit 1, [(nat_lit 4, (.ofNat (nat_lit 0))), (nat_lit 0, (.ofNat (nat_lit 1)))]), (nat_lit 6, nat_lit 4, [(nat_lit 5, (.ofNat (nat_lit 0))), (nat_lit 3, (.ofNat (nat_lit 0)))]), (nat_lit 6, nat_lit 3, [(nat_lit 6, (.ofNat (nat_lit 0))), (nat_lit 1, (.ofNat (nat_lit 0)))])],
  [(nat_lit 10, nat_lit 0, [(nat_lit 1, (.ofNat (nat_lit 0))), (nat_lit 2, (.ofNat (nat_lit 0))), (nat_lit 3, (.ofNat (nat_lit 0))), (nat_lit 7, (.ofNat (nat_lit 0)))]), (nat_lit 0, nat_lit 1, [(nat_lit 4, (.ofNat (nat_lit 0))), (nat_lit 0, (.ofNat (nat_lit 1)))]), (nat_lit 6, nat_lit 5, [(nat_lit 5, (.ofNat (nat_lit 0))), (nat_lit 3, (.ofNat (nat_lit 0)))]), (nat_lit 6, nat_lit 3, [(nat_lit 6, (.ofNat (nat_lit 0))), (nat_lit 1, (.ofNat (nat_lit 0)))])],
  [(nat_lit 10, nat_lit 1, [(nat_lit 1, (.ofNat (nat_lit 0))), (nat_lit 2, (.ofNat (nat_lit 0))), (nat_lit 3, (.ofNat (nat_lit 0))), (nat_lit 4, (.ofNat (nat_lit 0))), (nat_lit 9, (.ofNat (nat_lit 0))), (nat_lit 10, (.ofNat (nat_lit 0)))]), (nat_lit 0, nat_lit 1, [(nat_lit 6, (.ofNat (nat_lit 0))), (nat_lit 0, (.ofNat (nat_lit 1)))]), (nat_lit 0, nat_lit 1, [(nat_lit 5, (.ofNat (nat_lit 0))), (nat_lit 8, (.ofNat (nat_lit 0)))]), (nat_lit 4, nat_lit 0, [(nat_lit 6, (.ofNat (nat_lit 0))), (nat_lit 7, (.ofNat (nat_lit 0)))]), (nat_lit 0, nat_lit 1, [(nat_lit 4, (.ofNat (nat_lit 0))), (nat_lit 6, (.ofNat (nat_lit 0)))]), (nat_lit 6, nat_lit 2, [(nat_lit 6, (.ofNat (nat_lit 0))), (nat_lit 1, (.ofNat (nat_lit 0)))])]]
def zFhs_bestBit11_1 : List (List zK) := []
set_option maxHeartbeats 8000000 in
theorem zhs_bestBit11_o0 {ro : Nat → List Int32} (x1 : Int) (η : zE) (hp : sP wl_hs zTr zPhs_bestBit11 [x1] η) (hpp : pPhs_bestBit11 [x1] η) : ∀ η1 : zE, η1 = zup η 0 (Int.toNat 2) 0 → ∀ (x2 : Int) (η2 : zE), ((gC2 wl_hs [(nat_lit 0, zPhs_isIn, zOhs_isIn, zMhs_isIn)] pChs_bestBit11 qChs_bestBit11) 0).2 [x1, 1, 12] η1 x2 η2 → (¬ x2 = 0) → (iChs_bestBit11 [x1] η) 0 [x1, (-2), (-1), 0] η2 := by
  intro η1 eη1 x2 η2 h2 c1
  have y2 : fQhs_isIn [x1, 1, 12] η1 x2 η2 := h2.2.2
  have k2 : sQ wl_hs zTr zOhs_isIn zMhs_isIn [x1, 1, 12] η1 x2 η2 ∧ oQhs_isIn [x1, 1, 12] η1 x2 η2 := ⟨h2.1, h2.2.1⟩
  refine yj_a ?_ ?_
  · have y2 : fQhs_isIn [x1, 1, 12] η1 x2 η2 := h2.2.2
    have k2 : sQ wl_hs zTr zOhs_isIn zMhs_isIn [x1, 1, 12] η1 x2 η2 ∧ oQhs_isIn [x1, 1, 12] η1 x2 η2 := ⟨h2.1, h2.2.1⟩
    exact trivial
  · have eη1 : η1 = zup η 0 2 0 := eη1
    obtain ⟨a2, b2⟩ : x2 = yq_in x1 1 12 ∧ η2 = η1 := y2
    show yw_bI η x1 x1 (-2) (-1) 0 η2
    exact wbI_0 (by rw [b2, eη1]) (by omega)
set_option maxHeartbeats 8000000 in
theorem zhs_bestBit11_o1 {ro : Nat → List Int32} (x1 : Int) (η : zE) (hp : sP wl_hs zTr zPhs_bestBit11 [x1] η) (hpp : pPhs_bestBit11 [x1] η) : ∀ η1 : zE, η1 = zup η 0 (Int.toNat 2) 0 → ∀ (x2 : Int) (η2 : zE), ((gC2 wl_hs [(nat_lit 0, zPhs_isIn, zOhs_isIn, zMhs_isIn)] pChs_bestBit11 qChs_bestBit11) 0).2 [x1, 1, 12] η1 x2 η2 → (x2 = 0) → (fun (_ : Nat) (y : Int) (η' : zE) => pQhs_bestBit11 [x1] η y η') 0 (-1) η2 := by
  intro η1 eη1 x2 η2 h2 c1
  have y2 : fQhs_isIn [x1, 1, 12] η1 x2 η2 := h2.2.2
  have k2 : sQ wl_hs zTr zOhs_isIn zMhs_isIn [x1, 1, 12] η1 x2 η2 ∧ oQhs_isIn [x1, 1, 12] η1 x2 η2 := ⟨h2.1, h2.2.1⟩
  refine yj_a ?_ ?_
  · have y2 : fQhs_isIn [x1, 1, 12] η1 x2 η2 := h2.2.2
    have k2 : sQ wl_hs zTr zOhs_isIn zMhs_isIn [x1, 1, 12] η1 x2 η2 ∧ oQhs_isIn [x1, 1, 12] η1 x2 η2 := ⟨h2.1, h2.2.1⟩
    exact trivial
  · have eη1 : η1 = zup η 0 2 0 := eη1
    obtain ⟨a2, b2⟩ : x2 = yq_in x1 1 12 ∧ η2 = η1 := y2
    show -1 = yw_bb x1 η ∧ η2 = zup η 0 2 0
    exact ⟨by unfold yw_bb; rw [if_pos (by omega)], (by rw [b2, eη1])⟩
set_option maxHeartbeats 8000000 in
theorem zhs_bestBit11_o2 {ro : Nat → List Int32} (xs : List Int) (η0 : zE) (hp : sP wl_hs zTr zPhs_bestBit11 xs η0) (hpp : pPhs_bestBit11 xs η0) (x1 x2 x3 x4 : Int) (η : zE) (hI : zsI wl_hs zTr zVhs_bestBit11 zMhs_bestBit11 η0 0 [x1, x2, x3, x4] η) (hig : iChs_bestBit11 xs η0 0 [x1, x2, x3, x4] η) : ∀ x5 : Int, x5 = zd 0 1 x4 x1 → ∀ x6 : Int, x6 = η 0 (Int.toNat 12) → zok 0 x6 → (x6 < x5) → (fun (_ : Nat) (y : Int) (η' : zE) => pQhs_bestBit11 xs η0 y η') 0 x2 η := by
  have fig := hig.2
  have hig := hig.1
  intro x5 e5 x6 e6 r6 c1
  refine yj_a ?_ ?_
  · exact trivial
  · have e5 : x5 = zd 0 1 x4 x1 := e5
    have e6 : x6 = η 0 12 := e6
    have b4 : (0 : Int) ≤ x4 ∧ x4 ≤ 2 := hI.1.2.1.2.2.2.1
    exact wbI_e (k := x1) (m := x3) (f := x4) fig (by omega) e5 (by rw [← e6]; omega)
set_option maxHeartbeats 8000000 in
theorem zhs_bestBit11_o3 {ro : Nat → List Int32} (xs : List Int) (η0 : zE) (hp : sP wl_hs zTr zPhs_bestBit11 xs η0) (hpp : pPhs_bestBit11 xs η0) (x1 x2 x3 x4 : Int) (η : zE) (hI : zsI wl_hs zTr zVhs_bestBit11 zMhs_bestBit11 η0 0 [x1, x2, x3, x4] η) (hig : iChs_bestBit11 xs η0 0 [x1, x2, x3, x4] η) : ∀ x5 : Int, x5 = zd 0 1 x4 x1 → ∀ x6 : Int, x6 = η 0 (Int.toNat 12) → zok 0 x6 → (x5 ≤ x6) → (iChs_bestBit11 xs η0) 1 [x1, x2, x3, x4, 0, 0] η ∧ (fun (_ : Nat) (_ : List Int) (_ : zE) => (0 : Nat)) 1 [x1, x2, x3, x4, 0, 0] η < 1 := by
  have fig := hig.2
  have hig := hig.1
  intro x5 e5 x6 e6 r6 c1
  refine yj_c ?_ ?_
  · exact ⟨trivial, Nat.zero_lt_one⟩
  · have e5 : x5 = zd 0 1 x4 x1 := e5
    have e6 : x6 = η 0 12 := e6
    have b4 : (0 : Int) ≤ x4 ∧ x4 ≤ 2 := hI.1.2.1.2.2.2.1
    show yw_bJ η0 (xs.getD 0 0) x1 x2 x3 x4 0 0 η
    exact wbJ_0 fig (by omega) e5 (by rw [← e6]; omega)
set_option maxHeartbeats 8000000 in
theorem zhs_bestBit11_o4 {ro : Nat → List Int32} (xs : List Int) (η0 : zE) (hp : sP wl_hs zTr zPhs_bestBit11 xs η0) (hpp : pPhs_bestBit11 xs η0) (x1 x2 x3 x4 x5 x6 : Int) (η : zE) (hI : zsI wl_hs zTr zVhs_bestBit11 zMhs_bestBit11 η0 1 [x1, x2, x3, x4, x5, x6] η) (hig : iChs_bestBit11 xs η0 1 [x1, x2, x3, x4, x5, x6] η) : (x1 ≤ x6) → (x3 < x5) → ∀ x7 : Int, x7 = zd 0 1 x4 1 → (iChs_bestBit11 xs η0) 0 [x1, x4, x5, x7] η ∧ (fun (_ : Nat) (_ : List Int) (_ : zE) => (0 : Nat)) 0 [x1, x4, x5, x7] η < 1 := by
  have fig := hig.2
  have hig := hig.1
  intro c1 c2 x7 e7
  refine yj_c ?_ ?_
  · exact ⟨trivial, Nat.zero_lt_one⟩
  · have e7 : x7 = zd 0 1 x4 1 := e7
    have b4 : (0 : Int) ≤ x4 ∧ x4 ≤ 1 := hI.1.2.1.2.2.2.1
    show yw_bI η0 (xs.getD 0 0) x1 x4 x5 x7 η
    refine wbJ_e (b := x2) (m := x3) (k := x1) (f := x4) (i := x6) (s := x5) fig (by omega) (by omega) e7 ?_
    rw [if_pos (by omega)]
set_option maxHeartbeats 8000000 in
theorem zhs_bestBit11_o5 {ro : Nat → List Int32} (xs : List Int) (η0 : zE) (hp : sP wl_hs zTr zPhs_bestBit11 xs η0) (hpp : pPhs_bestBit11 xs η0) (x1 x2 x3 x4 x5 x6 : Int) (η : zE) (hI : zsI wl_hs zTr zVhs_bestBit11 zMhs_bestBit11 η0 1 [x1, x2, x3, x4, x5, x6] η) (hig : iChs_bestBit11 xs η0 1 [x1, x2, x3, x4, x5, x6] η) : (x1 ≤ x6) → (x5 ≤ x3) → ∀ x7 : Int, x7 = zd 0 1 x4 1 → (iChs_bestBit11 xs η0) 0 [x1, x2, x3, x7] η ∧ (fun (_ : Nat) (_ : List Int) (_ : zE) => (0 : Nat)) 0 [x1, x2, x3, x7] η < 1 := by
  have fig := hig.2
  have hig := hig.1
  intro c1 c2 x7 e7
  refine yj_c ?_ ?_
  · exact ⟨trivial, Nat.zero_lt_one⟩
  · have e7 : x7 = zd 0 1 x4 1 := e7
    have b4 : (0 : Int) ≤ x4 ∧ x4 ≤ 1 := hI.1.2.1.2.2.2.1
    show yw_bI η0 (xs.getD 0 0) x1 x2 x3 x7 η
    refine wbJ_e (b := x2) (m := x3) (k := x1) (f := x4) (i := x6) (s := x5) fig (by omega) (by omega) e7 ?_
    rw [if_neg (by omega)]
set_option maxHeartbeats 8000000 in
theorem zhs_bestBit11_o6 {ro : Nat → List Int32} (xs : List Int) (η0 : zE) (hp : sP wl_hs zTr zPhs_bestBit11 xs η0) (hpp : pPhs_bestBit11 xs η0) (x1 x2 x3 x4 x5 x6 : Int) (η : zE) (hI : zsI wl_hs zTr zVhs_bestBit11 zMhs_bestBit11 η0 1 [x1, x2, x3, x4, x5, x6] η) (hig : iChs_bestBit11 xs η0 1 [x1, x2, x3, x4, x5, x6] η) : (x6 < x1) → ∀ x7 : Int, x7 = zd 0 1 x4 x6 → ∀ x8 : Int, x8 = η 6 (Int.toNat x7) → zok 0 x8 → ∀ x9 : Int, x9 = zd 0 1 x5 x8 → ∀ x10 : Int, x10 = zd 0 1 x6 1 → (iChs_bestBit11 xs η0) 1 [x1, x2, x3, x4, x9, x10] η ∧ (fun (_ : Nat) (_ : List Int) (_ : zE) => (0 : Nat)) 1 [x1, x2, x3, x4, x9, x10] η < 1 := by
  have fig := hig.2
  have hig := hig.1
  intro c1 x7 e7 x8 e8 r8 x9 e9 x10 e10
  refine yj_c ?_ ?_
  · exact ⟨trivial, Nat.zero_lt_one⟩
  · have e7 : x7 = zd 0 1 x4 x6 := e7
    have e8 : x8 = η 6 (Int.toNat x7) := e8
    have e9 : x9 = zd 0 1 x5 x8 := e9
    have e10 : x10 = zd 0 1 x6 1 := e10
    have b4 : (0 : Int) ≤ x4 ∧ x4 ≤ 1 := hI.1.2.1.2.2.2.1
    show yw_bJ η0 (xs.getD 0 0) x1 x2 x3 x4 x9 x10 η
    exact wbJ_s (k := x1) (f := x4) (i := x6) fig (by omega) (by omega) e7 e8 e9 e10
set_option maxHeartbeats 8000000 in
theorem zhs_bestBit11 {ro : Nat → List Int32} : zMet pr_P pr_K pr_df ro (sm_X0 1 6) 1 200 tm_hs [(.inr (.inr (.inl (nat_lit 0)))), (.inl (nat_lit 1, (.ofNat (nat_lit 0))))] 1 [(nat_lit 0, nat_lit 0, nat_lit 1), (nat_lit 0, nat_lit 3, nat_lit 2), (nat_lit 0, nat_lit 20, nat_lit 3), (nat_lit 0, nat_lit 21, nat_lit 4), (nat_lit 0, nat_lit 22, nat_lit 5), (nat_lit 0, nat_lit 23, nat_lit 6), (nat_lit 0, nat_lit 24, nat_lit 7), (nat_lit 0, nat_lit 25, nat_lit 8), (nat_lit 0, nat_lit 26, nat_lit 9), (nat_lit 0, nat_lit 27, nat_lit 10), (nat_lit 0, nat_lit 28, nat_lit 11), (nat_lit 0, nat_lit 29, nat_lit 12), (nat_lit 0, nat_lit 30, nat_lit 13), (nat_lit 0, nat_lit 31, nat_lit 14), (nat_lit 0, nat_lit 32, nat_lit 15), (nat_lit 0, nat_lit 33, nat_lit 16), (nat_lit 0, nat_lit 34, nat_lit 17), (nat_lit 0, nat_lit 35, nat_lit 18), (nat_lit 0, nat_lit 36, nat_lit 19), (nat_lit 0, nat_lit 37, nat_lit 20), (nat_lit 0, nat_lit 38, nat_lit 21), (nat_lit 0, nat_lit 39, nat_lit 22), (nat_lit 0, nat_lit 40, nat_lit 23), (nat_lit 0, nat_lit 47, nat_lit 24), (nat_lit 0, nat_lit 48, nat_lit 25), (nat_lit 0, nat_lit 50, nat_lit 26), (nat_lit 0, nat_lit 51, nat_lit 27), (nat_lit 0, nat_lit 52, nat_lit 28), (nat_lit 0, nat_lit 53, nat_lit 29), (nat_lit 0, nat_lit 54, nat_lit 30), (nat_lit 0, nat_lit 55, nat_lit 31), (nat_lit 0, nat_lit 56, nat_lit 32), (nat_lit 0, nat_lit 57, nat_lit 33), (nat_lit 0, nat_lit 58, nat_lit 34), (nat_lit 0, nat_lit 59, nat_lit 35), (nat_lit 0, nat_lit 72, nat_lit 36), (nat_lit 0, nat_lit 73, nat_lit 37), (nat_lit 0, nat_lit 76, nat_lit 38), (nat_lit 0, nat_lit 77, nat_lit 39), (nat_lit 0, nat_lit 79, nat_lit 40), (nat_lit 0, nat_lit 81, nat_lit 41), (nat_lit 0, nat_lit 82, nat_lit 42)] [] (fun xs η => sP wl_hs zTr zPhs_bestBit11 xs η ∧ pPhs_bestBit11 xs η) (fun xs η y η' => sQ wl_hs zTr zOhs_bestBit11 zMhs_bestBit11 xs η y η' ∧ pQhs_bestBit11 xs η y η') :=
  zmet_alt (zmea_gen (mi := (nat_lit 1, nat_lit 1, nat_lit 8, nat_lit 7, nat_lit 1, tX8_bestBit)) (cd := [(nat_lit 117, nat_lit 0, nat_lit 0, [(.inl (nat_lit 1, (.ofNat (nat_lit 0)))), (.inl (nat_lit 2, (.ofNat (nat_lit 0)))), (.inl (nat_lit 3, (.ofNat (nat_lit 0))))], nat_lit 2, [], [])]) (cu := zUhs_bestBit11) (cs := [(nat_lit 0, zPhs_isIn, zOhs_isIn, zMhs_isIn)]) (iv := zVhs_bestBit11) (po := [zOhs_bestBit11]) (pr := zPhs_bestBit11) (mods := zMhs_bestBit11) (D7 := zDhs_bestBit11) (D0 := zEhs_bestBit11) (Dm := zFhs_bestBit11) (f0 := 19) pChs_bestBit11 qChs_bestBit11 iChs_bestBit11 pPhs_bestBit11 (fun xs η _ y η' => pQhs_bestBit11 xs η y η') zX_low pr_mtR rfl (List.forall_mem_cons.mpr ⟨zhs_isIn, fun _ h => nomatch h⟩) (by decide +kernel) (by decide +kernel) (by decide +kernel)
    (by
      intro xs η hr hl hp hpp
      match xs, hl, hp, hpp with
      | [x1], _, hp, hpp =>
        refine List.forall_mem_cons.mpr ⟨?_, List.forall_mem_cons.mpr ⟨?_, List.forall_mem_cons.mpr ⟨?_, fun _ h => nomatch h⟩⟩⟩
        · refine zden_L (n := 2) (ρ := [x1, 0]) rfl ?_
          show ∀ η1 : zE, η1 = zup η 0 (Int.toNat 2) 0 → ((gC2 wl_hs [(nat_lit 0, zPhs_isIn, zOhs_isIn, zMhs_isIn)] pChs_bestBit11 qChs_bestBit11) 0).1 [x1, 1, 12] η1
          intro η1 eη1
          exact trivial
        · refine zden_L (n := 2) (ρ := [x1, 0]) rfl ?_
          exact zhs_bestBit11_o0 (ro := ro) x1 η hp hpp
        · refine zden_L (n := 2) (ρ := [x1, 0]) rfl ?_
          exact zhs_bestBit11_o1 (ro := ro) x1 η hp hpp
      )
    (fun _ _ _ _ _ _ _ h => nomatch h)
    (List.forall_mem_cons.mpr ⟨⟨zDhs_bestBit11_0, zEhs_bestBit11_0, zFhs_bestBit11_0, 15, by decide +kernel, (by
      intro xs η0 hlx hp hpp ys η hr hl hI hig
      match ys, hl, hI, hig with
      | [x1, x2, x3, x4], _, hI, hig =>
        refine ⟨?_, ?_⟩
        · refine List.forall_mem_cons.mpr ⟨?_, List.forall_mem_cons.mpr ⟨?_, fun _ h => nomatch h⟩⟩
          · refine zden_L (n := 5) (ρ := [x4, x3, x2, x1, 0]) rfl ?_
            exact zhs_bestBit11_o2 (ro := ro) xs η0 hp hpp x1 x2 x3 x4 η hI hig
          · refine zden_L (n := 5) (ρ := [x4, x3, x2, x1, 0]) rfl ?_
            exact zhs_bestBit11_o3 (ro := ro) xs η0 hp hpp x1 x2 x3 x4 η hI hig
        · exact fun _ h => nomatch h
      )⟩, (List.forall_mem_cons.mpr ⟨⟨zDhs_bestBit11_1, zEhs_bestBit11_1, zFhs_bestBit11_1, 19, by decide +kernel, (by
      intro xs η0 hlx hp hpp ys η hr hl hI hig
      match ys, hl, hI, hig with
      | [x1, x2, x3, x4, x5, x6], _, hI, hig =>
        refine ⟨?_, ?_⟩
        · refine List.forall_mem_cons.mpr ⟨?_, List.forall_mem_cons.mpr ⟨?_, List.forall_mem_cons.mpr ⟨?_, fun _ h => nomatch h⟩⟩⟩
          · refine zden_L (n := 7) (ρ := [x6, x5, x4, x3, x2, x1, 0]) rfl ?_
            exact zhs_bestBit11_o4 (ro := ro) xs η0 hp hpp x1 x2 x3 x4 x5 x6 η hI hig
          · refine zden_L (n := 7) (ρ := [x6, x5, x4, x3, x2, x1, 0]) rfl ?_
            exact zhs_bestBit11_o5 (ro := ro) xs η0 hp hpp x1 x2 x3 x4 x5 x6 η hI hig
          · refine zden_L (n := 7) (ρ := [x6, x5, x4, x3, x2, x1, 0]) rfl ?_
            exact zhs_bestBit11_o6 (ro := ro) xs η0 hp hpp x1 x2 x3 x4 x5 x6 η hI hig
        · exact fun _ h => nomatch h
      )⟩, (fun _ h => nomatch h)⟩)⟩))
def zPhs_bestBit12 : zPq := ([((.ofNat (nat_lit 12)), (.ofNat (nat_lit 12)))], [])
def zOhs_bestBit12 : zPo := (((.negSucc (nat_lit 2147483647)), (.ofNat (nat_lit 2147483647))), [], [])
def zMhs_bestBit12 : List zCe := [(nat_lit 0, nat_lit 3)]
def pPhs_bestBit12 : List Int → zE → Prop := fun _ _ => True
def oQhs_bestBit12 : List Int → zE → Int → zE → Prop := fun _ _ _ _ => True
def fQhs_bestBit12 : List Int → zE → Int → zE → Prop := fun xs η y η' => y = (yw_bb (xs.getD 0 0) η) ∧ η' = (zup η 0 2 0)
def pQhs_bestBit12 : List Int → zE → Int → zE → Prop := fun xs η y η' => oQhs_bestBit12 xs η y η' ∧ fQhs_bestBit12 xs η y η'
def pChs_bestBit12 : Nat → List Int → zE → Prop := fun c => match c with
  | 0 => pPhs_isIn
  | _ => fun _ _ => True
def qChs_bestBit12 : Nat → List Int → zE → Int → zE → Prop := fun c => match c with
  | 0 => pQhs_isIn
  | _ => fun _ _ _ _ => True
def iChs_bestBit12 : List Int → zE → Nat → List Int → zE → Prop := fun xs η0 c => match c with
  | 0 => fun ys η => (True) ∧ (yw_bI η0 (xs.getD 0 0) (ys.getD 0 0) (ys.getD 1 0) (ys.getD 2 0) (ys.getD 3 0) η)
  | 1 => fun ys η => (True) ∧ (yw_bJ η0 (xs.getD 0 0) (ys.getD 0 0) (ys.getD 1 0) (ys.getD 2 0) (ys.getD 3 0) (ys.getD 4 0) (ys.getD 5 0) η)
  | _ => fun _ _ => True
def zVhs_bestBit12 : List zIv := [(nat_lit 0, ([((.ofNat (nat_lit 12)), (.ofNat (nat_lit 12))), ((.negSucc (nat_lit 2147483647)), (.ofNat (nat_lit 2147483647))), ((.negSucc (nat_lit 2147483647)), (.ofNat (nat_lit 2147483647))), ((.ofNat (nat_lit 0)), (.ofNat (nat_lit 1)))], []), ((.ofNat (nat_lit 2000)), [((.negSucc (nat_lit 99)), nat_lit 0, nat_lit 3, nat_lit 0)])), (nat_lit 1, ([((.ofNat (nat_lit 12)), (.ofNat (nat_lit 12))), ((.negSucc (nat_lit 2147483647)), (.ofNat (nat_lit 2147483647))), ((.negSucc (nat_lit 2147483647)), (.ofNat (nat_lit 2147483647))), ((.ofNat (nat_lit 0)), (.ofNat (nat_lit 0))), ((.negSucc (nat_lit 2147483647)), (.ofNat (nat_lit 2147483647))), ((.ofNat (nat_lit 0)), (.ofNat (nat_lit 12)))], []), ((.ofNat (nat_lit 1950)), [((.negSucc (nat_lit 99)), nat_lit 0, nat_lit 3, nat_lit 0), ((.negSucc (nat_lit 0)), nat_lit 0, nat_lit 5, nat_lit 0)]))]
def zUhs_bestBit12 : List zCu := [(nat_lit 25, nat_lit 0, [(nat_lit 0, (.inr (.inr (.inl (nat_lit 0))))), (nat_lit 1, (.inl (nat_lit 1, (.ofNat (nat_lit 0))))), (nat_lit 2, (.inl (nat_lit 2, (.ofNat (nat_lit 0))))), (nat_lit 3, (.inl (nat_lit 3, (.ofNat (nat_lit 0))))), (nat_lit 4, (.inl (nat_lit 4, (.ofNat (nat_lit 0)))))], []), (nat_lit 42, nat_lit 1, [(nat_lit 0, (.inr (.inr (.inl (nat_lit 0))))), (nat_lit 1, (.inl (nat_lit 1, (.ofNat (nat_lit 0))))), (nat_lit 2, (.inl (nat_lit 2, (.ofNat (nat_lit 0))))), (nat_lit 3, (.inl (nat_lit 3, (.ofNat (nat_lit 0))))), (nat_lit 4, (.inl (nat_lit 4, (.ofNat (nat_lit 0))))), (nat_lit 5, (.inl (nat_lit 5, (.ofNat (nat_lit 0))))), (nat_lit 6, (.inl (nat_lit 6, (.ofNat (nat_lit 0)))))], [])]
def zDhs_bestBit12 : List (List zK) := []
def zEhs_bestBit12 : List (List zK) := [[(nat_lit 13, nat_lit 0, [(nat_lit 1, (.ofNat (nat_lit 0))), (nat_lit 0, (.ofNat (nat_lit 1))), (nat_lit 0, (.ofNat (nat_lit 12)))]), (nat_lit 5, nat_lit 0, [(nat_lit 0, (.ofNat (nat_lit 0))), (nat_lit 0, (.ofNat (nat_lit 2))), (nat_lit 0, (.ofNat (nat_lit 0)))])],
  [(nat_lit 12, nat_lit 0, [(nat_lit 1, (.ofNat (nat_lit 0))), (nat_lit 0, (.negSucc (nat_lit 1))), (nat_lit 0, (.negSucc (nat_lit 0))), (nat_lit 0, (.ofNat (nat_lit 0)))]), (nat_lit 6, nat_lit 1, [(nat_lit 2, (.ofNat (nat_lit 0))), (nat_lit 0, (.ofNat (nat_lit 0)))]), (nat_lit 8, nat_lit 0, [(nat_lit 1, (.ofNat (nat_lit 0))), (nat_lit 0, (.ofNat (nat_lit 1))), (nat_lit 0, (.ofNat (nat_lit 12)))]), (nat_lit 5, nat_lit 0, [(nat_lit 0, (.ofNat (nat_lit 0))), (nat_lit 0, (.ofNat (nat_lit 2))), (nat_lit 0, (.ofNat (nat_lit 0)))])],
  [(nat_lit 11, nat_lit 0, [(nat_lit 0, (.negSucc (nat_lit 0)))]), (nat_lit 6, nat_lit 0, [(nat_lit 2, (.ofNat (nat_lit 0))), (nat_lit 0, (.ofNat (nat_lit 0)))]), (nat_lit 8, nat_lit 0, [(nat_lit 1, (.ofNat (nat_lit 0))), (nat_lit 0, (.ofNat (nat_lit 1))), (nat_lit 0, (.ofNat (nat_lit 12)))]), (nat_lit 5, nat_lit 0, [(nat_lit 0, (.ofNat (nat_lit 0))), (nat_lit 0, (.ofNat (nat_lit 2))), (nat_lit 0, (.ofNat (nat_lit 0)))])]]
def zFhs_bestBit12 : List (List zK) := []
def zDhs_bestBit12_0 : List (List zK) := []
def zEhs_bestBit12_0 : List (List zK) := [[(nat_lit 11, nat_lit 0, [(nat_lit 2, (.ofNat (nat_lit 0)))]), (nat_lit 6, nat_lit 4, [(nat_lit 5, (.ofNat (nat_lit 0))), (nat_lit 6, (.ofNat (nat_lit 0)))]), (nat_lit 4, nat_lit 0, [(nat_lit 0, (.ofNat (nat_lit 0))), (nat_lit 0, (.ofNat (nat_lit 12)))]), (nat_lit 0, nat_lit 1, [(nat_lit 4, (.ofNat (nat_lit 0))), (nat_lit 1, (.ofNat (nat_lit 0)))])],
  [(nat_lit 10, nat_lit 1, [(nat_lit 1, (.ofNat (nat_lit 0))), (nat_lit 2, (.ofNat (nat_lit 0))), (nat_lit 3, (.ofNat (nat_lit 0))), (nat_lit 4, (.ofNat (nat_lit 0))), (nat_lit 0, (.ofNat (nat_lit 0))), (nat_lit 0, (.ofNat (nat_lit 0)))]), (nat_lit 6, nat_lit 5, [(nat_lit 5, (.ofNat (nat_lit 0))), (nat_lit 6, (.ofNat (nat_lit 0)))]), (nat_lit 4, nat_lit 0, [(nat_lit 0, (.ofNat (nat_lit 0))), (nat_lit 0, (.ofNat (nat_lit 12)))]), (nat_lit 0, nat_lit 1, [(nat_lit 4, (.ofNat (nat_lit 0))), (nat_lit 1, (.ofNat (nat_lit 0)))])]]
def zFhs_bestBit12_0 : List (List zK) := []
def zDhs_bestBit12_1 : List (List zK) := [[(nat_lit 7, nat_lit 0, [(nat_lit 7, (.ofNat (nat_lit 0))), (nat_lit 0, (.ofNat (nat_lit 24)))]), (nat_lit 0, nat_lit 1, [(nat_lit 4, (.ofNat (nat_lit 0))), (nat_lit 6, (.ofNat (nat_lit 0)))]), (nat_lit 6, nat_lit 2, [(nat_lit 6, (.ofNat (nat_lit 0))), (nat_lit 1, (.ofNat (nat_lit 0)))])]]
def zEhs_bestBit12_1 : List (List zK) := [[(nat_lit 10, nat_lit 0, [(nat_lit 1, (.ofNat (nat_lit 0))), (nat_lit 4, (.ofNat (nat_lit 0))), (nat_lit 5, (.ofNat (nat_lit 0))), (nat_lit 7, (.ofNat (nat_lit 0)))]), (nat_lit 0, nat_lit 1, [(nat_lit 4, (.ofNat (nat_lit 0))), (nat_lit 0, (.ofNat (nat_lit 1)))]), (nat_lit 6, nat_lit 4, [(nat_lit 5, (.ofNat (nat_lit 0))), (nat_lit 3, (.ofNat (nat_lit 0)))]), (nat_lit 6, nat_lit 3, [(nat_lit 6, (.ofNat (nat_lit 0))), (nat_lit 1, (.ofNat (nat_lit 0)))])],
  [(nat_lit 10, nat_lit 0, [(nat_lit 1, (.ofNat (nat_lit 0))), (nat_lit 2, (.ofNat (nat_lit 0))), (nat_lit 3, (.ofNat (nat_lit 0))), (nat_lit 7, (.ofNat (nat_lit 0)))]), (nat_lit 0, nat_lit 1, [(nat_lit 4, (.ofNat (nat_lit 0))), (nat_lit 0, (.ofNat (nat_lit 1)))]), (nat_lit 6, nat_lit 5, [(nat_lit 5, (.ofNat (nat_lit 0))), (nat_lit 3, (.ofNat (nat_lit 0)))]), (nat_lit 6, nat_lit 3, [(nat_lit 6, (.ofNat (nat_lit 0))), (nat_lit 1, (.ofNat (nat_lit 0)))])],
  [(nat_lit 10, nat_lit 1, [(nat_lit 1, (.ofNat (nat_lit 0))), (nat_lit 2, (.ofNat (nat_lit 0))), (nat_lit 3, (.ofNat (nat_lit 0))), (nat_lit 4, (.ofNat (nat_lit 0))), (nat_lit 9, (.ofNat (nat_lit 0))), (nat_lit 10, (.ofNat (nat_lit 0)))]), (nat_lit 0, nat_lit 1, [(nat_lit 6, (.ofNat (nat_lit 0))), (nat_lit 0, (.ofNat (nat_lit 1)))]), (nat_lit 0, nat_lit 1, [(nat_lit 5, (.ofNat (nat_lit 0))), (nat_lit 8, (.ofNat (nat_lit 0)))]), (nat_lit 4, nat_lit 0, [(nat_lit 6, (.ofNat (nat_lit 0))), (nat_lit 7, (.ofNat (nat_lit 0)))]), (nat_lit 0, nat_lit 1, [(nat_lit 4, (.ofNat (nat_lit 0))), (nat_lit 6, (.ofNat (nat_lit 0)))]), (nat_lit 6, nat_lit 2, [(nat_lit 6, (.ofNat (nat_lit 0))), (nat_lit 1, (.ofNat (nat_lit 0)))])]]
def zFhs_bestBit12_1 : List (List zK) := []
set_option maxHeartbeats 8000000 in
theorem zhs_bestBit12_o0 {ro : Nat → List Int32} (x1 : Int) (η : zE) (hp : sP wl_hs zTr zPhs_bestBit12 [x1] η) (hpp : pPhs_bestBit12 [x1] η) : ∀ η1 : zE, η1 = zup η 0 (Int.toNat 2) 0 → ∀ (x2 : Int) (η2 : zE), ((gC2 wl_hs [(nat_lit 0, zPhs_isIn, zOhs_isIn, zMhs_isIn)] pChs_bestBit12 qChs_bestBit12) 0).2 [x1, 1, 12] η1 x2 η2 → (¬ x2 = 0) → (iChs_bestBit12 [x1] η) 0 [x1, (-2), (-1), 0] η2 := by
  intro η1 eη1 x2 η2 h2 c1
  have y2 : fQhs_isIn [x1, 1, 12] η1 x2 η2 := h2.2.2
  have k2 : sQ wl_hs zTr zOhs_isIn zMhs_isIn [x1, 1, 12] η1 x2 η2 ∧ oQhs_isIn [x1, 1, 12] η1 x2 η2 := ⟨h2.1, h2.2.1⟩
  refine yj_a ?_ ?_
  · have y2 : fQhs_isIn [x1, 1, 12] η1 x2 η2 := h2.2.2
    have k2 : sQ wl_hs zTr zOhs_isIn zMhs_isIn [x1, 1, 12] η1 x2 η2 ∧ oQhs_isIn [x1, 1, 12] η1 x2 η2 := ⟨h2.1, h2.2.1⟩
    exact trivial
  · have eη1 : η1 = zup η 0 2 0 := eη1
    obtain ⟨a2, b2⟩ : x2 = yq_in x1 1 12 ∧ η2 = η1 := y2
    show yw_bI η x1 x1 (-2) (-1) 0 η2
    exact wbI_0 (by rw [b2, eη1]) (by omega)
set_option maxHeartbeats 8000000 in
theorem zhs_bestBit12_o1 {ro : Nat → List Int32} (x1 : Int) (η : zE) (hp : sP wl_hs zTr zPhs_bestBit12 [x1] η) (hpp : pPhs_bestBit12 [x1] η) : ∀ η1 : zE, η1 = zup η 0 (Int.toNat 2) 0 → ∀ (x2 : Int) (η2 : zE), ((gC2 wl_hs [(nat_lit 0, zPhs_isIn, zOhs_isIn, zMhs_isIn)] pChs_bestBit12 qChs_bestBit12) 0).2 [x1, 1, 12] η1 x2 η2 → (x2 = 0) → (fun (_ : Nat) (y : Int) (η' : zE) => pQhs_bestBit12 [x1] η y η') 0 (-1) η2 := by
  intro η1 eη1 x2 η2 h2 c1
  have y2 : fQhs_isIn [x1, 1, 12] η1 x2 η2 := h2.2.2
  have k2 : sQ wl_hs zTr zOhs_isIn zMhs_isIn [x1, 1, 12] η1 x2 η2 ∧ oQhs_isIn [x1, 1, 12] η1 x2 η2 := ⟨h2.1, h2.2.1⟩
  refine yj_a ?_ ?_
  · have y2 : fQhs_isIn [x1, 1, 12] η1 x2 η2 := h2.2.2
    have k2 : sQ wl_hs zTr zOhs_isIn zMhs_isIn [x1, 1, 12] η1 x2 η2 ∧ oQhs_isIn [x1, 1, 12] η1 x2 η2 := ⟨h2.1, h2.2.1⟩
    exact trivial
  · have eη1 : η1 = zup η 0 2 0 := eη1
    obtain ⟨a2, b2⟩ : x2 = yq_in x1 1 12 ∧ η2 = η1 := y2
    show -1 = yw_bb x1 η ∧ η2 = zup η 0 2 0
    exact ⟨by unfold yw_bb; rw [if_pos (by omega)], (by rw [b2, eη1])⟩
set_option maxHeartbeats 8000000 in
theorem zhs_bestBit12_o2 {ro : Nat → List Int32} (xs : List Int) (η0 : zE) (hp : sP wl_hs zTr zPhs_bestBit12 xs η0) (hpp : pPhs_bestBit12 xs η0) (x1 x2 x3 x4 : Int) (η : zE) (hI : zsI wl_hs zTr zVhs_bestBit12 zMhs_bestBit12 η0 0 [x1, x2, x3, x4] η) (hig : iChs_bestBit12 xs η0 0 [x1, x2, x3, x4] η) : ∀ x5 : Int, x5 = zd 0 1 x4 x1 → ∀ x6 : Int, x6 = η 0 (Int.toNat 12) → zok 0 x6 → (x6 < x5) → (fun (_ : Nat) (y : Int) (η' : zE) => pQhs_bestBit12 xs η0 y η') 0 x2 η := by
  have fig := hig.2
  have hig := hig.1
  intro x5 e5 x6 e6 r6 c1
  refine yj_a ?_ ?_
  · exact trivial
  · have e5 : x5 = zd 0 1 x4 x1 := e5
    have e6 : x6 = η 0 12 := e6
    have b4 : (0 : Int) ≤ x4 ∧ x4 ≤ 1 := hI.1.2.1.2.2.2.1
    exact wbI_e (k := x1) (m := x3) (f := x4) fig (by omega) e5 (by rw [← e6]; omega)
set_option maxHeartbeats 8000000 in
theorem zhs_bestBit12_o3 {ro : Nat → List Int32} (xs : List Int) (η0 : zE) (hp : sP wl_hs zTr zPhs_bestBit12 xs η0) (hpp : pPhs_bestBit12 xs η0) (x1 x2 x3 x4 : Int) (η : zE) (hI : zsI wl_hs zTr zVhs_bestBit12 zMhs_bestBit12 η0 0 [x1, x2, x3, x4] η) (hig : iChs_bestBit12 xs η0 0 [x1, x2, x3, x4] η) : ∀ x5 : Int, x5 = zd 0 1 x4 x1 → ∀ x6 : Int, x6 = η 0 (Int.toNat 12) → zok 0 x6 → (x5 ≤ x6) → (iChs_bestBit12 xs η0) 1 [x1, x2, x3, x4, 0, 0] η ∧ (fun (_ : Nat) (_ : List Int) (_ : zE) => (0 : Nat)) 1 [x1, x2, x3, x4, 0, 0] η < 1 := by
  have fig := hig.2
  have hig := hig.1
  intro x5 e5 x6 e6 r6 c1
  refine yj_c ?_ ?_
  · exact ⟨trivial, Nat.zero_lt_one⟩
  · have e5 : x5 = zd 0 1 x4 x1 := e5
    have e6 : x6 = η 0 12 := e6
    have b4 : (0 : Int) ≤ x4 ∧ x4 ≤ 1 := hI.1.2.1.2.2.2.1
    show yw_bJ η0 (xs.getD 0 0) x1 x2 x3 x4 0 0 η
    exact wbJ_0 fig (by omega) e5 (by rw [← e6]; omega)
set_option maxHeartbeats 8000000 in
theorem zhs_bestBit12_o4 {ro : Nat → List Int32} (xs : List Int) (η0 : zE) (hp : sP wl_hs zTr zPhs_bestBit12 xs η0) (hpp : pPhs_bestBit12 xs η0) (x1 x2 x3 x4 x5 x6 : Int) (η : zE) (hI : zsI wl_hs zTr zVhs_bestBit12 zMhs_bestBit12 η0 1 [x1, x2, x3, x4, x5, x6] η) (hig : iChs_bestBit12 xs η0 1 [x1, x2, x3, x4, x5, x6] η) : (x1 ≤ x6) → (x3 < x5) → ∀ x7 : Int, x7 = zd 0 1 x4 1 → (iChs_bestBit12 xs η0) 0 [x1, x4, x5, x7] η ∧ (fun (_ : Nat) (_ : List Int) (_ : zE) => (0 : Nat)) 0 [x1, x4, x5, x7] η < 1 := by
  have fig := hig.2
  have hig := hig.1
  intro c1 c2 x7 e7
  refine yj_c ?_ ?_
  · exact ⟨trivial, Nat.zero_lt_one⟩
  · have e7 : x7 = zd 0 1 x4 1 := e7
    have b4 : (0 : Int) ≤ x4 ∧ x4 ≤ 0 := hI.1.2.1.2.2.2.1
    show yw_bI η0 (xs.getD 0 0) x1 x4 x5 x7 η
    refine wbJ_e (b := x2) (m := x3) (k := x1) (f := x4) (i := x6) (s := x5) fig (by omega) (by omega) e7 ?_
    rw [if_pos (by omega)]
set_option maxHeartbeats 8000000 in
theorem zhs_bestBit12_o5 {ro : Nat → List Int32} (xs : List Int) (η0 : zE) (hp : sP wl_hs zTr zPhs_bestBit12 xs η0) (hpp : pPhs_bestBit12 xs η0) (x1 x2 x3 x4 x5 x6 : Int) (η : zE) (hI : zsI wl_hs zTr zVhs_bestBit12 zMhs_bestBit12 η0 1 [x1, x2, x3, x4, x5, x6] η) (hig : iChs_bestBit12 xs η0 1 [x1, x2, x3, x4, x5, x6] η) : (x1 ≤ x6) → (x5 ≤ x3) → ∀ x7 : Int, x7 = zd 0 1 x4 1 → (iChs_bestBit12 xs η0) 0 [x1, x2, x3, x7] η ∧ (fun (_ : Nat) (_ : List Int) (_ : zE) => (0 : Nat)) 0 [x1, x2, x3, x7] η < 1 := by
  have fig := hig.2
  have hig := hig.1
  intro c1 c2 x7 e7
  refine yj_c ?_ ?_
  · exact ⟨trivial, Nat.zero_lt_one⟩
  · have e7 : x7 = zd 0 1 x4 1 := e7
    have b4 : (0 : Int) ≤ x4 ∧ x4 ≤ 0 := hI.1.2.1.2.2.2.1
    show yw_bI η0 (xs.getD 0 0) x1 x2 x3 x7 η
    refine wbJ_e (b := x2) (m := x3) (k := x1) (f := x4) (i := x6) (s := x5) fig (by omega) (by omega) e7 ?_
    rw [if_neg (by omega)]
set_option maxHeartbeats 8000000 in
theorem zhs_bestBit12_o6 {ro : Nat → List Int32} (xs : List Int) (η0 : zE) (hp : sP wl_hs zTr zPhs_bestBit12 xs η0) (hpp : pPhs_bestBit12 xs η0) (x1 x2 x3 x4 x5 x6 : Int) (η : zE) (hI : zsI wl_hs zTr zVhs_bestBit12 zMhs_bestBit12 η0 1 [x1, x2, x3, x4, x5, x6] η) (hig : iChs_bestBit12 xs η0 1 [x1, x2, x3, x4, x5, x6] η) : (x6 < x1) → ∀ x7 : Int, x7 = zd 0 1 x4 x6 → ∀ x8 : Int, x8 = η 6 (Int.toNat x7) → zok 0 x8 → ∀ x9 : Int, x9 = zd 0 1 x5 x8 → ∀ x10 : Int, x10 = zd 0 1 x6 1 → (iChs_bestBit12 xs η0) 1 [x1, x2, x3, x4, x9, x10] η ∧ (fun (_ : Nat) (_ : List Int) (_ : zE) => (0 : Nat)) 1 [x1, x2, x3, x4, x9, x10] η < 1 := by
  have fig := hig.2
  have hig := hig.1
  intro c1 x7 e7 x8 e8 r8 x9 e9 x10 e10
  refine yj_c ?_ ?_
  · exact ⟨trivial, Nat.zero_lt_one⟩
  · have e7 : x7 = zd 0 1 x4 x6 := e7
    have e8 : x8 = η 6 (Int.toNat x7) := e8
    have e9 : x9 = zd 0 1 x5 x8 := e9
    have e10 : x10 = zd 0 1 x6 1 := e10
    have b4 : (0 : Int) ≤ x4 ∧ x4 ≤ 0 := hI.1.2.1.2.2.2.1
    show yw_bJ η0 (xs.getD 0 0) x1 x2 x3 x4 x9 x10 η
    exact wbJ_s (k := x1) (f := x4) (i := x6) fig (by omega) (by omega) e7 e8 e9 e10
set_option maxHeartbeats 8000000 in
theorem zhs_bestBit12 {ro : Nat → List Int32} : zMet pr_P pr_K pr_df ro (sm_X0 1 6) 1 200 tm_hs [(.inr (.inr (.inl (nat_lit 0)))), (.inl (nat_lit 1, (.ofNat (nat_lit 0))))] 1 [(nat_lit 0, nat_lit 0, nat_lit 1), (nat_lit 0, nat_lit 3, nat_lit 2), (nat_lit 0, nat_lit 20, nat_lit 3), (nat_lit 0, nat_lit 21, nat_lit 4), (nat_lit 0, nat_lit 22, nat_lit 5), (nat_lit 0, nat_lit 23, nat_lit 6), (nat_lit 0, nat_lit 24, nat_lit 7), (nat_lit 0, nat_lit 25, nat_lit 8), (nat_lit 0, nat_lit 26, nat_lit 9), (nat_lit 0, nat_lit 27, nat_lit 10), (nat_lit 0, nat_lit 28, nat_lit 11), (nat_lit 0, nat_lit 29, nat_lit 12), (nat_lit 0, nat_lit 30, nat_lit 13), (nat_lit 0, nat_lit 31, nat_lit 14), (nat_lit 0, nat_lit 32, nat_lit 15), (nat_lit 0, nat_lit 33, nat_lit 16), (nat_lit 0, nat_lit 34, nat_lit 17), (nat_lit 0, nat_lit 35, nat_lit 18), (nat_lit 0, nat_lit 36, nat_lit 19), (nat_lit 0, nat_lit 37, nat_lit 20), (nat_lit 0, nat_lit 38, nat_lit 21), (nat_lit 0, nat_lit 39, nat_lit 22), (nat_lit 0, nat_lit 40, nat_lit 23), (nat_lit 0, nat_lit 47, nat_lit 24), (nat_lit 0, nat_lit 48, nat_lit 25), (nat_lit 0, nat_lit 50, nat_lit 26), (nat_lit 0, nat_lit 51, nat_lit 27), (nat_lit 0, nat_lit 52, nat_lit 28), (nat_lit 0, nat_lit 53, nat_lit 29), (nat_lit 0, nat_lit 54, nat_lit 30), (nat_lit 0, nat_lit 55, nat_lit 31), (nat_lit 0, nat_lit 56, nat_lit 32), (nat_lit 0, nat_lit 57, nat_lit 33), (nat_lit 0, nat_lit 58, nat_lit 34), (nat_lit 0, nat_lit 59, nat_lit 35), (nat_lit 0, nat_lit 72, nat_lit 36), (nat_lit 0, nat_lit 73, nat_lit 37), (nat_lit 0, nat_lit 76, nat_lit 38), (nat_lit 0, nat_lit 77, nat_lit 39), (nat_lit 0, nat_lit 79, nat_lit 40), (nat_lit 0, nat_lit 81, nat_lit 41), (nat_lit 0, nat_lit 82, nat_lit 42)] [] (fun xs η => sP wl_hs zTr zPhs_bestBit12 xs η ∧ pPhs_bestBit12 xs η) (fun xs η y η' => sQ wl_hs zTr zOhs_bestBit12 zMhs_bestBit12 xs η y η' ∧ pQhs_bestBit12 xs η y η') :=
  zmet_alt (zmea_gen (mi := (nat_lit 1, nat_lit 1, nat_lit 8, nat_lit 7, nat_lit 1, tX8_bestBit)) (cd := [(nat_lit 117, nat_lit 0, nat_lit 0, [(.inl (nat_lit 1, (.ofNat (nat_lit 0)))), (.inl (nat_lit 2, (.ofNat (nat_lit 0)))), (.inl (nat_lit 3, (.ofNat (nat_lit 0))))], nat_lit 2, [], [])]) (cu := zUhs_bestBit12) (cs := [(nat_lit 0, zPhs_isIn, zOhs_isIn, zMhs_isIn)]) (iv := zVhs_bestBit12) (po := [zOhs_bestBit12]) (pr := zPhs_bestBit12) (mods := zMhs_bestBit12) (D7 := zDhs_bestBit12) (D0 := zEhs_bestBit12) (Dm := zFhs_bestBit12) (f0 := 19) pChs_bestBit12 qChs_bestBit12 iChs_bestBit12 pPhs_bestBit12 (fun xs η _ y η' => pQhs_bestBit12 xs η y η') zX_low pr_mtR rfl (List.forall_mem_cons.mpr ⟨zhs_isIn, fun _ h => nomatch h⟩) (by decide +kernel) (by decide +kernel) (by decide +kernel)
    (by
      intro xs η hr hl hp hpp
      match xs, hl, hp, hpp with
      | [x1], _, hp, hpp =>
        refine List.forall_mem_cons.mpr ⟨?_, List.forall_mem_cons.mpr ⟨?_, List.forall_mem_cons.mpr ⟨?_, fun _ h => nomatch h⟩⟩⟩
        · refine zden_L (n := 2) (ρ := [x1, 0]) rfl ?_
          show ∀ η1 : zE, η1 = zup η 0 (Int.toNat 2) 0 → ((gC2 wl_hs [(nat_lit 0, zPhs_isIn, zOhs_isIn, zMhs_isIn)] pChs_bestBit12 qChs_bestBit12) 0).1 [x1, 1, 12] η1
          intro η1 eη1
          exact trivial
        · refine zden_L (n := 2) (ρ := [x1, 0]) rfl ?_
          exact zhs_bestBit12_o0 (ro := ro) x1 η hp hpp
        · refine zden_L (n := 2) (ρ := [x1, 0]) rfl ?_
          exact zhs_bestBit12_o1 (ro := ro) x1 η hp hpp
      )
    (fun _ _ _ _ _ _ _ h => nomatch h)
    (List.forall_mem_cons.mpr ⟨⟨zDhs_bestBit12_0, zEhs_bestBit12_0, zFhs_bestBit12_0, 15, by decide +kernel, (by
      intro xs η0 hlx hp hpp ys η hr hl hI hig
      match ys, hl, hI, hig with
      | [x1, x2, x3, x4], _, hI, hig =>
        refine ⟨?_, ?_⟩
        · refine List.forall_mem_cons.mpr ⟨?_, List.forall_mem_cons.mpr ⟨?_, fun _ h => nomatch h⟩⟩
          · refine zden_L (n := 5) (ρ := [x4, x3, x2, x1, 0]) rfl ?_
            exact zhs_bestBit12_o2 (ro := ro) xs η0 hp hpp x1 x2 x3 x4 η hI hig
          · refine zden_L (n := 5) (ρ := [x4, x3, x2, x1, 0]) rfl ?_
            exact zhs_bestBit12_o3 (ro := ro) xs η0 hp hpp x1 x2 x3 x4 η hI hig
        · exact fun _ h => nomatch h
      )⟩, (List.forall_mem_cons.mpr ⟨⟨zDhs_bestBit12_1, zEhs_bestBit12_1, zFhs_bestBit12_1, 19, by decide +kernel, (by
      intro xs η0 hlx hp hpp ys η hr hl hI hig
      match ys, hl, hI, hig with
      | [x1, x2, x3, x4, x5, x6], _, hI, hig =>
        refine ⟨?_, ?_⟩
        · refine List.forall_mem_cons.mpr ⟨?_, List.forall_mem_cons.mpr ⟨?_, List.forall_mem_cons.mpr ⟨?_, fun _ h => nomatch h⟩⟩⟩
          · refine zden_L (n := 7) (ρ := [x6, x5, x4, x3, x2, x1, 0]) rfl ?_
            exact zhs_bestBit12_o4 (ro := ro) xs η0 hp hpp x1 x2 x3 x4 x5 x6 η hI hig
          · refine zden_L (n := 7) (ρ := [x6, x5, x4, x3, x2, x1, 0]) rfl ?_
            exact zhs_bestBit12_o5 (ro := ro) xs η0 hp hpp x1 x2 x3 x4 x5 x6 η hI hig
          · refine zden_L (n := 7) (ρ := [x6, x5, x4, x3, x2, x1, 0]) rfl ?_
            exact zhs_bestBit12_o6 (ro := ro) xs η0 hp hpp x1 x2 x3 x4 x5 x6 η hI hig
        · exact fun _ h => nomatch h
      )⟩, (fun _ h => nomatch h)⟩)⟩))
def zPhs_bestBit13 : zPq := ([((.ofNat (nat_lit 13)), (.ofNat (nat_lit 2147483647)))], [])
def zOhs_bestBit13 : zPo := (((.negSucc (nat_lit 2147483647)), (.ofNat (nat_lit 2147483647))), [], [])
def zMhs_bestBit13 : List zCe := [(nat_lit 0, nat_lit 3)]
def pPhs_bestBit13 : List Int → zE → Prop := fun _ _ => True
def oQhs_bestBit13 : List Int → zE → Int → zE → Prop := fun _ _ _ _ => True
def fQhs_bestBit13 : List Int → zE → Int → zE → Prop := fun xs η y η' => y = (yw_bb (xs.getD 0 0) η) ∧ η' = (zup η 0 2 0)
def pQhs_bestBit13 : List Int → zE → Int → zE → Prop := fun xs η y η' => oQhs_bestBit13 xs η y η' ∧ fQhs_bestBit13 xs η y η'
def pChs_bestBit13 : Nat → List Int → zE → Prop := fun c => match c with
  | 0 => pPhs_isIn
  | _ => fun _ _ => True
def qChs_bestBit13 : Nat → List Int → zE → Int → zE → Prop := fun c => match c with
  | 0 => pQhs_isIn
  | _ => fun _ _ _ _ => True
def iChs_bestBit13 : List Int → zE → Nat → List Int → zE → Prop := fun xs η0 c => match c with
  | 0 => fun ys η => (True) ∧ (yw_bI η0 (xs.getD 0 0) (ys.getD 0 0) (ys.getD 1 0) (ys.getD 2 0) (ys.getD 3 0) η)
  | _ => fun _ _ => True
def zVhs_bestBit13 : List zIv := [(nat_lit 0, ([((.ofNat (nat_lit 13)), (.ofNat (nat_lit 12))), ((.negSucc (nat_lit 2147483647)), (.ofNat (nat_lit 2147483647))), ((.negSucc (nat_lit 2147483647)), (.ofNat (nat_lit 2147483647))), ((.ofNat (nat_lit 0)), (.ofNat (nat_lit 0)))], []), ((.ofNat (nat_lit 5)), []))]
def zUhs_bestBit13 : List zCu := [(nat_lit 25, nat_lit 0, [(nat_lit 0, (.inr (.inr (.inl (nat_lit 0))))), (nat_lit 1, (.inl (nat_lit 1, (.ofNat (nat_lit 0))))), (nat_lit 2, (.inl (nat_lit 2, (.ofNat (nat_lit 0))))), (nat_lit 3, (.inl (nat_lit 3, (.ofNat (nat_lit 0))))), (nat_lit 4, (.inl (nat_lit 4, (.ofNat (nat_lit 0)))))], [])]
def zDhs_bestBit13 : List (List zK) := []
def zEhs_bestBit13 : List (List zK) := [[(nat_lit 13, nat_lit 0, [(nat_lit 1, (.ofNat (nat_lit 0))), (nat_lit 0, (.ofNat (nat_lit 1))), (nat_lit 0, (.ofNat (nat_lit 12)))]), (nat_lit 5, nat_lit 0, [(nat_lit 0, (.ofNat (nat_lit 0))), (nat_lit 0, (.ofNat (nat_lit 2))), (nat_lit 0, (.ofNat (nat_lit 0)))])],
  [(nat_lit 12, nat_lit 0, [(nat_lit 1, (.ofNat (nat_lit 0))), (nat_lit 0, (.negSucc (nat_lit 1))), (nat_lit 0, (.negSucc (nat_lit 0))), (nat_lit 0, (.ofNat (nat_lit 0)))]), (nat_lit 6, nat_lit 1, [(nat_lit 2, (.ofNat (nat_lit 0))), (nat_lit 0, (.ofNat (nat_lit 0)))]), (nat_lit 8, nat_lit 0, [(nat_lit 1, (.ofNat (nat_lit 0))), (nat_lit 0, (.ofNat (nat_lit 1))), (nat_lit 0, (.ofNat (nat_lit 12)))]), (nat_lit 5, nat_lit 0, [(nat_lit 0, (.ofNat (nat_lit 0))), (nat_lit 0, (.ofNat (nat_lit 2))), (nat_lit 0, (.ofNat (nat_lit 0)))])],
  [(nat_lit 11, nat_lit 0, [(nat_lit 0, (.negSucc (nat_lit 0)))]), (nat_lit 6, nat_lit 0, [(nat_lit 2, (.ofNat (nat_lit 0))), (nat_lit 0, (.ofNat (nat_lit 0)))]), (nat_lit 8, nat_lit 0, [(nat_lit 1, (.ofNat (nat_lit 0))), (nat_lit 0, (.ofNat (nat_lit 1))), (nat_lit 0, (.ofNat (nat_lit 12)))]), (nat_lit 5, nat_lit 0, [(nat_lit 0, (.ofNat (nat_lit 0))), (nat_lit 0, (.ofNat (nat_lit 2))), (nat_lit 0, (.ofNat (nat_lit 0)))])]]
def zFhs_bestBit13 : List (List zK) := []
def zDhs_bestBit13_0 : List (List zK) := [[(nat_lit 7, nat_lit 3, []), (nat_lit 6, nat_lit 4, [(nat_lit 5, (.ofNat (nat_lit 0))), (nat_lit 6, (.ofNat (nat_lit 0)))]), (nat_lit 4, nat_lit 0, [(nat_lit 0, (.ofNat (nat_lit 0))), (nat_lit 0, (.ofNat (nat_lit 12)))]), (nat_lit 0, nat_lit 1, [(nat_lit 4, (.ofNat (nat_lit 0))), (nat_lit 1, (.ofNat (nat_lit 0)))])],
  [(nat_lit 7, nat_lit 3, []), (nat_lit 6, nat_lit 5, [(nat_lit 5, (.ofNat (nat_lit 0))), (nat_lit 6, (.ofNat (nat_lit 0)))]), (nat_lit 4, nat_lit 0, [(nat_lit 0, (.ofNat (nat_lit 0))), (nat_lit 0, (.ofNat (nat_lit 12)))]), (nat_lit 0, nat_lit 1, [(nat_lit 4, (.ofNat (nat_lit 0))), (nat_lit 1, (.ofNat (nat_lit 0)))])]]
def zEhs_bestBit13_0 : List (List zK) := []
def zFhs_bestBit13_0 : List (List zK) := []
set_option maxHeartbeats 8000000 in
theorem zhs_bestBit13_o0 {ro : Nat → List Int32} (x1 : Int) (η : zE) (hp : sP wl_hs zTr zPhs_bestBit13 [x1] η) (hpp : pPhs_bestBit13 [x1] η) : ∀ η1 : zE, η1 = zup η 0 (Int.toNat 2) 0 → ∀ (x2 : Int) (η2 : zE), ((gC2 wl_hs [(nat_lit 0, zPhs_isIn, zOhs_isIn, zMhs_isIn)] pChs_bestBit13 qChs_bestBit13) 0).2 [x1, 1, 12] η1 x2 η2 → (¬ x2 = 0) → (iChs_bestBit13 [x1] η) 0 [x1, (-2), (-1), 0] η2 := by
  intro η1 eη1 x2 η2 h2 c1
  have y2 : fQhs_isIn [x1, 1, 12] η1 x2 η2 := h2.2.2
  have k2 : sQ wl_hs zTr zOhs_isIn zMhs_isIn [x1, 1, 12] η1 x2 η2 ∧ oQhs_isIn [x1, 1, 12] η1 x2 η2 := ⟨h2.1, h2.2.1⟩
  refine yj_a ?_ ?_
  · have y2 : fQhs_isIn [x1, 1, 12] η1 x2 η2 := h2.2.2
    have k2 : sQ wl_hs zTr zOhs_isIn zMhs_isIn [x1, 1, 12] η1 x2 η2 ∧ oQhs_isIn [x1, 1, 12] η1 x2 η2 := ⟨h2.1, h2.2.1⟩
    exact trivial
  · have eη1 : η1 = zup η 0 2 0 := eη1
    obtain ⟨a2, b2⟩ : x2 = yq_in x1 1 12 ∧ η2 = η1 := y2
    show yw_bI η x1 x1 (-2) (-1) 0 η2
    exact wbI_0 (by rw [b2, eη1]) (by omega)
set_option maxHeartbeats 8000000 in
theorem zhs_bestBit13_o1 {ro : Nat → List Int32} (x1 : Int) (η : zE) (hp : sP wl_hs zTr zPhs_bestBit13 [x1] η) (hpp : pPhs_bestBit13 [x1] η) : ∀ η1 : zE, η1 = zup η 0 (Int.toNat 2) 0 → ∀ (x2 : Int) (η2 : zE), ((gC2 wl_hs [(nat_lit 0, zPhs_isIn, zOhs_isIn, zMhs_isIn)] pChs_bestBit13 qChs_bestBit13) 0).2 [x1, 1, 12] η1 x2 η2 → (x2 = 0) → (fun (_ : Nat) (y : Int) (η' : zE) => pQhs_bestBit13 [x1] η y η') 0 (-1) η2 := by
  intro η1 eη1 x2 η2 h2 c1
  have y2 : fQhs_isIn [x1, 1, 12] η1 x2 η2 := h2.2.2
  have k2 : sQ wl_hs zTr zOhs_isIn zMhs_isIn [x1, 1, 12] η1 x2 η2 ∧ oQhs_isIn [x1, 1, 12] η1 x2 η2 := ⟨h2.1, h2.2.1⟩
  refine yj_a ?_ ?_
  · have y2 : fQhs_isIn [x1, 1, 12] η1 x2 η2 := h2.2.2
    have k2 : sQ wl_hs zTr zOhs_isIn zMhs_isIn [x1, 1, 12] η1 x2 η2 ∧ oQhs_isIn [x1, 1, 12] η1 x2 η2 := ⟨h2.1, h2.2.1⟩
    exact trivial
  · have eη1 : η1 = zup η 0 2 0 := eη1
    obtain ⟨a2, b2⟩ : x2 = yq_in x1 1 12 ∧ η2 = η1 := y2
    show -1 = yw_bb x1 η ∧ η2 = zup η 0 2 0
    exact ⟨by unfold yw_bb; rw [if_pos (by omega)], (by rw [b2, eη1])⟩
set_option maxHeartbeats 8000000 in
theorem zhs_bestBit13 {ro : Nat → List Int32} : zMet pr_P pr_K pr_df ro (sm_X0 1 6) 1 200 tm_hs [(.inr (.inr (.inl (nat_lit 0)))), (.inl (nat_lit 1, (.ofNat (nat_lit 0))))] 1 [(nat_lit 0, nat_lit 0, nat_lit 1), (nat_lit 0, nat_lit 3, nat_lit 2), (nat_lit 0, nat_lit 20, nat_lit 3), (nat_lit 0, nat_lit 21, nat_lit 4), (nat_lit 0, nat_lit 22, nat_lit 5), (nat_lit 0, nat_lit 23, nat_lit 6), (nat_lit 0, nat_lit 24, nat_lit 7), (nat_lit 0, nat_lit 25, nat_lit 8), (nat_lit 0, nat_lit 26, nat_lit 9), (nat_lit 0, nat_lit 27, nat_lit 10), (nat_lit 0, nat_lit 28, nat_lit 11), (nat_lit 0, nat_lit 29, nat_lit 12), (nat_lit 0, nat_lit 30, nat_lit 13), (nat_lit 0, nat_lit 31, nat_lit 14), (nat_lit 0, nat_lit 32, nat_lit 15), (nat_lit 0, nat_lit 33, nat_lit 16), (nat_lit 0, nat_lit 34, nat_lit 17), (nat_lit 0, nat_lit 35, nat_lit 18), (nat_lit 0, nat_lit 36, nat_lit 19), (nat_lit 0, nat_lit 37, nat_lit 20), (nat_lit 0, nat_lit 38, nat_lit 21), (nat_lit 0, nat_lit 39, nat_lit 22), (nat_lit 0, nat_lit 40, nat_lit 23), (nat_lit 0, nat_lit 47, nat_lit 24), (nat_lit 0, nat_lit 48, nat_lit 25), (nat_lit 0, nat_lit 50, nat_lit 26), (nat_lit 0, nat_lit 51, nat_lit 27), (nat_lit 0, nat_lit 52, nat_lit 28), (nat_lit 0, nat_lit 53, nat_lit 29), (nat_lit 0, nat_lit 54, nat_lit 30), (nat_lit 0, nat_lit 55, nat_lit 31), (nat_lit 0, nat_lit 56, nat_lit 32), (nat_lit 0, nat_lit 57, nat_lit 33), (nat_lit 0, nat_lit 58, nat_lit 34), (nat_lit 0, nat_lit 59, nat_lit 35), (nat_lit 0, nat_lit 72, nat_lit 36), (nat_lit 0, nat_lit 73, nat_lit 37), (nat_lit 0, nat_lit 76, nat_lit 38), (nat_lit 0, nat_lit 77, nat_lit 39), (nat_lit 0, nat_lit 79, nat_lit 40), (nat_lit 0, nat_lit 81, nat_lit 41), (nat_lit 0, nat_lit 82, nat_lit 42)] [] (fun xs η => sP wl_hs zTr zPhs_bestBit13 xs η ∧ pPhs_bestBit13 xs η) (fun xs η y η' => sQ wl_hs zTr zOhs_bestBit13 zMhs_bestBit13 xs η y η' ∧ pQhs_bestBit13 xs η y η') :=
  zmet_alt (zmea_gen (mi := (nat_lit 1, nat_lit 1, nat_lit 8, nat_lit 7, nat_lit 1, tX8_bestBit)) (cd := [(nat_lit 117, nat_lit 0, nat_lit 0, [(.inl (nat_lit 1, (.ofNat (nat_lit 0)))), (.inl (nat_lit 2, (.ofNat (nat_lit 0)))), (.inl (nat_lit 3, (.ofNat (nat_lit 0))))], nat_lit 2, [], [])]) (cu := zUhs_bestBit13) (cs := [(nat_lit 0, zPhs_isIn, zOhs_isIn, zMhs_isIn)]) (iv := zVhs_bestBit13) (po := [zOhs_bestBit13]) (pr := zPhs_bestBit13) (mods := zMhs_bestBit13) (D7 := zDhs_bestBit13) (D0 := zEhs_bestBit13) (Dm := zFhs_bestBit13) (f0 := 19) pChs_bestBit13 qChs_bestBit13 iChs_bestBit13 pPhs_bestBit13 (fun xs η _ y η' => pQhs_bestBit13 xs η y η') zX_low pr_mtR rfl (List.forall_mem_cons.mpr ⟨zhs_isIn, fun _ h => nomatch h⟩) (by decide +kernel) (by decide +kernel) (by decide +kernel)
    (by
      intro xs η hr hl hp hpp
      match xs, hl, hp, hpp with
      | [x1], _, hp, hpp =>
        refine List.forall_mem_cons.mpr ⟨?_, List.forall_mem_cons.mpr ⟨?_, List.forall_mem_cons.mpr ⟨?_, fun _ h => nomatch h⟩⟩⟩
        · refine zden_L (n := 2) (ρ := [x1, 0]) rfl ?_
          show ∀ η1 : zE, η1 = zup η 0 (Int.toNat 2) 0 → ((gC2 wl_hs [(nat_lit 0, zPhs_isIn, zOhs_isIn, zMhs_isIn)] pChs_bestBit13 qChs_bestBit13) 0).1 [x1, 1, 12] η1
          intro η1 eη1
          exact trivial
        · refine zden_L (n := 2) (ρ := [x1, 0]) rfl ?_
          exact zhs_bestBit13_o0 (ro := ro) x1 η hp hpp
        · refine zden_L (n := 2) (ρ := [x1, 0]) rfl ?_
          exact zhs_bestBit13_o1 (ro := ro) x1 η hp hpp
      )
    (fun _ _ _ _ _ _ _ h => nomatch h)
    (List.forall_mem_cons.mpr ⟨⟨zDhs_bestBit13_0, zEhs_bestBit13_0, zFhs_bestBit13_0, 10, by decide +kernel, (by
      intro xs η0 hlx hp hpp ys η hr hl hI hig
      match ys, hl, hI, hig with
      | [x1, x2, x3, x4], _, hI, hig =>
        refine ⟨?_, ?_⟩
        · exact fun _ h => nomatch h
        · exact fun _ h => nomatch h
      )⟩, (fun _ h => nomatch h)⟩))
def zPhs_bestBit : zPq := ([((.negSucc (nat_lit 2147483647)), (.ofNat (nat_lit 2147483647)))], [])
def zOhs_bestBit : zPo := (((.negSucc (nat_lit 2147483647)), (.ofNat (nat_lit 2147483647))), [], [])
def zMhs_bestBit : List zCe := [(nat_lit 0, nat_lit 3)]
def pPhs_bestBit : List Int → zE → Prop := fun _ _ => True
def oQhs_bestBit : List Int → zE → Int → zE → Prop := fun _ _ _ _ => True
def fQhs_bestBit : List Int → zE → Int → zE → Prop := fun xs η y η' => y = (yw_bb (xs.getD 0 0) η) ∧ η' = (zup η 0 2 0)
def pQhs_bestBit : List Int → zE → Int → zE → Prop := fun xs η y η' => oQhs_bestBit xs η y η' ∧ fQhs_bestBit xs η y η'
theorem zhs_bestBit {ro : Nat → List Int32} : zMet pr_P pr_K pr_df ro (sm_X0 1 6) 1 200 tm_hs [(.inr (.inr (.inl (nat_lit 0)))), (.inl (nat_lit 1, (.ofNat (nat_lit 0))))] 1 [(nat_lit 0, nat_lit 0, nat_lit 1), (nat_lit 0, nat_lit 3, nat_lit 2), (nat_lit 0, nat_lit 20, nat_lit 3), (nat_lit 0, nat_lit 21, nat_lit 4), (nat_lit 0, nat_lit 22, nat_lit 5), (nat_lit 0, nat_lit 23, nat_lit 6), (nat_lit 0, nat_lit 24, nat_lit 7), (nat_lit 0, nat_lit 25, nat_lit 8), (nat_lit 0, nat_lit 26, nat_lit 9), (nat_lit 0, nat_lit 27, nat_lit 10), (nat_lit 0, nat_lit 28, nat_lit 11), (nat_lit 0, nat_lit 29, nat_lit 12), (nat_lit 0, nat_lit 30, nat_lit 13), (nat_lit 0, nat_lit 31, nat_lit 14), (nat_lit 0, nat_lit 32, nat_lit 15), (nat_lit 0, nat_lit 33, nat_lit 16), (nat_lit 0, nat_lit 34, nat_lit 17), (nat_lit 0, nat_lit 35, nat_lit 18), (nat_lit 0, nat_lit 36, nat_lit 19), (nat_lit 0, nat_lit 37, nat_lit 20), (nat_lit 0, nat_lit 38, nat_lit 21), (nat_lit 0, nat_lit 39, nat_lit 22), (nat_lit 0, nat_lit 40, nat_lit 23), (nat_lit 0, nat_lit 47, nat_lit 24), (nat_lit 0, nat_lit 48, nat_lit 25), (nat_lit 0, nat_lit 50, nat_lit 26), (nat_lit 0, nat_lit 51, nat_lit 27), (nat_lit 0, nat_lit 52, nat_lit 28), (nat_lit 0, nat_lit 53, nat_lit 29), (nat_lit 0, nat_lit 54, nat_lit 30), (nat_lit 0, nat_lit 55, nat_lit 31), (nat_lit 0, nat_lit 56, nat_lit 32), (nat_lit 0, nat_lit 57, nat_lit 33), (nat_lit 0, nat_lit 58, nat_lit 34), (nat_lit 0, nat_lit 59, nat_lit 35), (nat_lit 0, nat_lit 72, nat_lit 36), (nat_lit 0, nat_lit 73, nat_lit 37), (nat_lit 0, nat_lit 76, nat_lit 38), (nat_lit 0, nat_lit 77, nat_lit 39), (nat_lit 0, nat_lit 79, nat_lit 40), (nat_lit 0, nat_lit 81, nat_lit 41), (nat_lit 0, nat_lit 82, nat_lit 42)] [] (fun xs η => sP wl_hs zTr zPhs_bestBit xs η ∧ pPhs_bestBit xs η) (fun xs η y η' => sQ wl_hs zTr zOhs_bestBit zMhs_bestBit xs η y η' ∧ pQhs_bestBit xs η y η') :=
  zmet_join (fun xs η hp => by
    have hp := hp.1
    obtain ⟨x0, r0, e0, q0, hb0⟩ := sB_cons hp.2.1
    have q0 : (-2147483648 : Int) ≤ x0 ∧ x0 ≤ 2147483647 := q0
    subst e0
    by_cases c0 : x0 ≤ 0
    · exact ⟨1, (fun xs η => sP wl_hs zTr zPhs_bestBit0 xs η ∧ pPhs_bestBit0 xs η), by decide, zhs_bestBit0, ⟨hp.1, show (-2147483648 ≤ x0 ∧ x0 ≤ 0) ∧ _ from ⟨⟨by omega, by omega⟩, hb0⟩, hp.2.2⟩, trivial⟩
    by_cases c1 : x0 ≤ 1
    · exact ⟨1, (fun xs η => sP wl_hs zTr zPhs_bestBit1 xs η ∧ pPhs_bestBit1 xs η), by decide, zhs_bestBit1, ⟨hp.1, show (1 ≤ x0 ∧ x0 ≤ 1) ∧ _ from ⟨⟨by omega, by omega⟩, hb0⟩, hp.2.2⟩, trivial⟩
    by_cases c2 : x0 ≤ 2
    · exact ⟨1, (fun xs η => sP wl_hs zTr zPhs_bestBit2 xs η ∧ pPhs_bestBit2 xs η), by decide, zhs_bestBit2, ⟨hp.1, show (2 ≤ x0 ∧ x0 ≤ 2) ∧ _ from ⟨⟨by omega, by omega⟩, hb0⟩, hp.2.2⟩, trivial⟩
    by_cases c3 : x0 ≤ 3
    · exact ⟨1, (fun xs η => sP wl_hs zTr zPhs_bestBit3 xs η ∧ pPhs_bestBit3 xs η), by decide, zhs_bestBit3, ⟨hp.1, show (3 ≤ x0 ∧ x0 ≤ 3) ∧ _ from ⟨⟨by omega, by omega⟩, hb0⟩, hp.2.2⟩, trivial⟩
    by_cases c4 : x0 ≤ 4
    · exact ⟨1, (fun xs η => sP wl_hs zTr zPhs_bestBit4 xs η ∧ pPhs_bestBit4 xs η), by decide, zhs_bestBit4, ⟨hp.1, show (4 ≤ x0 ∧ x0 ≤ 4) ∧ _ from ⟨⟨by omega, by omega⟩, hb0⟩, hp.2.2⟩, trivial⟩
    by_cases c5 : x0 ≤ 5
    · exact ⟨1, (fun xs η => sP wl_hs zTr zPhs_bestBit5 xs η ∧ pPhs_bestBit5 xs η), by decide, zhs_bestBit5, ⟨hp.1, show (5 ≤ x0 ∧ x0 ≤ 5) ∧ _ from ⟨⟨by omega, by omega⟩, hb0⟩, hp.2.2⟩, trivial⟩
    by_cases c6 : x0 ≤ 6
    · exact ⟨1, (fun xs η => sP wl_hs zTr zPhs_bestBit6 xs η ∧ pPhs_bestBit6 xs η), by decide, zhs_bestBit6, ⟨hp.1, show (6 ≤ x0 ∧ x0 ≤ 6) ∧ _ from ⟨⟨by omega, by omega⟩, hb0⟩, hp.2.2⟩, trivial⟩
    by_cases c7 : x0 ≤ 7
    · exact ⟨1, (fun xs η => sP wl_hs zTr zPhs_bestBit7 xs η ∧ pPhs_bestBit7 xs η), by decide, zhs_bestBit7, ⟨hp.1, show (7 ≤ x0 ∧ x0 ≤ 7) ∧ _ from ⟨⟨by omega, by omega⟩, hb0⟩, hp.2.2⟩, trivial⟩
    by_cases c8 : x0 ≤ 8
    · exact ⟨1, (fun xs η => sP wl_hs zTr zPhs_bestBit8 xs η ∧ pPhs_bestBit8 xs η), by decide, zhs_bestBit8, ⟨hp.1, show (8 ≤ x0 ∧ x0 ≤ 8) ∧ _ from ⟨⟨by omega, by omega⟩, hb0⟩, hp.2.2⟩, trivial⟩
    by_cases c9 : x0 ≤ 9
    · exact ⟨1, (fun xs η => sP wl_hs zTr zPhs_bestBit9 xs η ∧ pPhs_bestBit9 xs η), by decide, zhs_bestBit9, ⟨hp.1, show (9 ≤ x0 ∧ x0 ≤ 9) ∧ _ from ⟨⟨by omega, by omega⟩, hb0⟩, hp.2.2⟩, trivial⟩
    by_cases c10 : x0 ≤ 10
    · exact ⟨1, (fun xs η => sP wl_hs zTr zPhs_bestBit10 xs η ∧ pPhs_bestBit10 xs η), by decide, zhs_bestBit10, ⟨hp.1, show (10 ≤ x0 ∧ x0 ≤ 10) ∧ _ from ⟨⟨by omega, by omega⟩, hb0⟩, hp.2.2⟩, trivial⟩
    by_cases c11 : x0 ≤ 11
    · exact ⟨1, (fun xs η => sP wl_hs zTr zPhs_bestBit11 xs η ∧ pPhs_bestBit11 xs η), by decide, zhs_bestBit11, ⟨hp.1, show (11 ≤ x0 ∧ x0 ≤ 11) ∧ _ from ⟨⟨by omega, by omega⟩, hb0⟩, hp.2.2⟩, trivial⟩
    by_cases c12 : x0 ≤ 12
    · exact ⟨1, (fun xs η => sP wl_hs zTr zPhs_bestBit12 xs η ∧ pPhs_bestBit12 xs η), by decide, zhs_bestBit12, ⟨hp.1, show (12 ≤ x0 ∧ x0 ≤ 12) ∧ _ from ⟨⟨by omega, by omega⟩, hb0⟩, hp.2.2⟩, trivial⟩
    exact ⟨1, (fun xs η => sP wl_hs zTr zPhs_bestBit13 xs η ∧ pPhs_bestBit13 xs η), by decide, zhs_bestBit13, ⟨hp.1, show (13 ≤ x0 ∧ x0 ≤ 2147483647) ∧ _ from ⟨⟨by omega, by omega⟩, hb0⟩, hp.2.2⟩, trivial⟩)
