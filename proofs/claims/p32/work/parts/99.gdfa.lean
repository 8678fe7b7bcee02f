def tm_hs : zTm := tm_k
def wl_hs : wL := wl_k
def zPhs_isIn : zPq := ([((.negSucc (nat_lit 2147483647)), (.ofNat (nat_lit 2147483647))), ((.negSucc (nat_lit 2147483647)), (.ofNat (nat_lit 2147483647))), ((.negSucc (nat_lit 2147483647)), (.ofNat (nat_lit 2147483647)))], [])
def zOhs_isIn : zPo := (((.ofNat (nat_lit 0)), (.ofNat (nat_lit 1))), [], [((nat_lit 2, (.ofNat (nat_lit 0))), (nat_lit 1, (.ofNat (nat_lit 0)))), ((nat_lit 1, (.ofNat (nat_lit 0))), (nat_lit 3, (.ofNat (nat_lit 0))))])
def zMhs_isIn : List zCe := []
def pPhs_isIn : List Int → zE → Prop := fun _ _ => True
def oQhs_isIn : List Int → zE → Int → zE → Prop := fun _ _ _ _ => True
def fQhs_isIn : List Int → zE → Int → zE → Prop := fun xs η y η' => y = (yq_in (xs.getD 0 0) (xs.getD 1 0) (xs.getD 2 0)) ∧ η' = η
def pQhs_isIn : List Int → zE → Int → zE → Prop := fun xs η y η' => oQhs_isIn xs η y η' ∧ fQhs_isIn xs η y η'
def pChs_isIn : Nat → List Int → zE → Prop := fun c => match c with
  | _ => fun _ _ => True
def qChs_isIn : Nat → List Int → zE → Int → zE → Prop := fun c => match c with
  | _ => fun _ _ _ _ => True
def iChs_isIn : List Int → zE → Nat → List Int → zE → Prop := fun xs η0 c => match c with
  | _ => fun _ _ => True
def zVhs_isIn : List zIv := []
def zDhs_isIn : List (List zK) := [[(nat_lit 7, nat_lit 2, [(nat_lit 0, (.ofNat (nat_lit 0)))]), (nat_lit 6, nat_lit 2, [(nat_lit 1, (.ofNat (nat_lit 0))), (nat_lit 2, (.ofNat (nat_lit 0)))])],
  [(nat_lit 7, nat_lit 2, [(nat_lit 0, (.ofNat (nat_lit 0)))]), (nat_lit 6, nat_lit 4, [(nat_lit 1, (.ofNat (nat_lit 0))), (nat_lit 3, (.ofNat (nat_lit 0)))]), (nat_lit 6, nat_lit 3, [(nat_lit 1, (.ofNat (nat_lit 0))), (nat_lit 2, (.ofNat (nat_lit 0)))])],
  [(nat_lit 7, nat_lit 2, [(nat_lit 0, (.ofNat (nat_lit 1)))]), (nat_lit 6, nat_lit 5, [(nat_lit 1, (.ofNat (nat_lit 0))), (nat_lit 3, (.ofNat (nat_lit 0)))]), (nat_lit 6, nat_lit 3, [(nat_lit 1, (.ofNat (nat_lit 0))), (nat_lit 2, (.ofNat (nat_lit 0)))])]]
def zEhs_isIn : List (List zK) := [[(nat_lit 11, nat_lit 0, [(nat_lit 0, (.ofNat (nat_lit 0)))]), (nat_lit 6, nat_lit 2, [(nat_lit 1, (.ofNat (nat_lit 0))), (nat_lit 2, (.ofNat (nat_lit 0)))])],
  [(nat_lit 11, nat_lit 0, [(nat_lit 0, (.ofNat (nat_lit 0)))]), (nat_lit 6, nat_lit 4, [(nat_lit 1, (.ofNat (nat_lit 0))), (nat_lit 3, (.ofNat (nat_lit 0)))]), (nat_lit 6, nat_lit 3, [(nat_lit 1, (.ofNat (nat_lit 0))), (nat_lit 2, (.ofNat (nat_lit 0)))])],
  [(nat_lit 11, nat_lit 0, [(nat_lit 0, (.ofNat (nat_lit 1)))]), (nat_lit 6, nat_lit 5, [(nat_lit 1, (.ofNat (nat_lit 0))), (nat_lit 3, (.ofNat (nat_lit 0)))]), (nat_lit 6, nat_lit 3, [(nat_lit 1, (.ofNat (nat_lit 0))), (nat_lit 2, (.ofNat (nat_lit 0)))])]]
def zFhs_isIn : List (List zK) := []
set_option maxHeartbeats 8000000 in
theorem zhs_isIn_o0 {ro : Nat → List Int32} (x1 x2 x3 : Int) (η : zE) (hp : sP wl_hs zTr zPhs_isIn [x1, x2, x3] η) (hpp : pPhs_isIn [x1, x2, x3] η) : (x1 < x2) → (fun (_ : Nat) (y : Int) (η' : zE) => pQhs_isIn [x1, x2, x3] η y η') 0 0 η := by
  intro c1
  refine yj_a ?_ ?_
  · exact trivial
  · show 0 = (yq_in x1 x2 x3) ∧ η = η
    refine ⟨?_, rfl⟩
    unfold yq_in
    split <;> first | (exfalso; omega) | rfl
set_option maxHeartbeats 8000000 in
theorem zhs_isIn_o1 {ro : Nat → List Int32} (x1 x2 x3 : Int) (η : zE) (hp : sP wl_hs zTr zPhs_isIn [x1, x2, x3] η) (hpp : pPhs_isIn [x1, x2, x3] η) : (x2 ≤ x1) → (x3 < x1) → (fun (_ : Nat) (y : Int) (η' : zE) => pQhs_isIn [x1, x2, x3] η y η') 0 0 η := by
  intro c1 c2
  refine yj_a ?_ ?_
  · exact trivial
  · show 0 = (yq_in x1 x2 x3) ∧ η = η
    refine ⟨?_, rfl⟩
    unfold yq_in
    split <;> first | (exfalso; omega) | rfl
set_option maxHeartbeats 8000000 in
theorem zhs_isIn_o2 {ro : Nat → List Int32} (x1 x2 x3 : Int) (η : zE) (hp : sP wl_hs zTr zPhs_isIn [x1, x2, x3] η) (hpp : pPhs_isIn [x1, x2, x3] η) : (x2 ≤ x1) → (x1 ≤ x3) → (fun (_ : Nat) (y : Int) (η' : zE) => pQhs_isIn [x1, x2, x3] η y η') 0 1 η := by
  intro c1 c2
  refine yj_a ?_ ?_
  · exact trivial
  · show 1 = (yq_in x1 x2 x3) ∧ η = η
    refine ⟨?_, rfl⟩
    unfold yq_in
    split <;> first | (exfalso; omega) | rfl
set_option maxHeartbeats 8000000 in
theorem zhs_isIn {ro : Nat → List Int32} : zMet pr_P pr_K pr_df ro (sm_X0 1 6) 0 117 tm_hs [(.inl (nat_lit 1, (.ofNat (nat_lit 0)))), (.inl (nat_lit 2, (.ofNat (nat_lit 0)))), (.inl (nat_lit 3, (.ofNat (nat_lit 0))))] 2 [] [] (fun xs η => sP wl_hs zTr zPhs_isIn xs η ∧ pPhs_isIn xs η) (fun xs η y η' => sQ wl_hs zTr zOhs_isIn zMhs_isIn xs η y η' ∧ pQhs_isIn xs η y η') :=
  zmet_alt (zmea_gen (mi := (nat_lit 3, nat_lit 0, nat_lit 8, nat_lit 3, nat_lit 2, tX8_isIn)) (cd := []) (cu := []) (cs := []) (iv := zVhs_isIn) (po := [zOhs_isIn]) (pr := zPhs_isIn) (mods := zMhs_isIn) (D7 := zDhs_isIn) (D0 := zEhs_isIn) (Dm := zFhs_isIn) (f0 := 13) pChs_isIn qChs_isIn iChs_isIn pPhs_isIn (fun xs η _ y η' => pQhs_isIn xs η y η') zX_low pr_mtR rfl (fun _ h => nomatch h) (by decide +kernel) (by decide +kernel) (by decide +kernel)
    (by
      intro xs η hr hl hp hpp
      match xs, hl, hp, hpp with
      | [x1, x2, x3], _, hp, hpp =>
        refine List.forall_mem_cons.mpr ⟨?_, List.forall_mem_cons.mpr ⟨?_, List.forall_mem_cons.mpr ⟨?_, fun _ h => nomatch h⟩⟩⟩
        · refine zden_L (n := 4) (ρ := [x3, x2, x1, 0]) rfl ?_
          exact zhs_isIn_o0 (ro := ro) x1 x2 x3 η hp hpp
        · refine zden_L (n := 4) (ρ := [x3, x2, x1, 0]) rfl ?_
          exact zhs_isIn_o1 (ro := ro) x1 x2 x3 η hp hpp
        · refine zden_L (n := 4) (ρ := [x3, x2, x1, 0]) rfl ?_
          exact zhs_isIn_o2 (ro := ro) x1 x2 x3 η hp hpp
      )
    (fun _ _ _ _ _ _ _ h => nomatch h)
    (fun _ h => nomatch h))
def zPhs_isGroove : zPq := ([((.negSucc (nat_lit 2147483647)), (.ofNat (nat_lit 2147483647)))], [])
def zOhs_isGroove : zPo := (((.ofNat (nat_lit 0)), (.ofNat (nat_lit 1))), [], [((nat_lit 0, (.ofNat (nat_lit 0))), (nat_lit 1, (.ofNat (nat_lit 0)))), ((nat_lit 1, (.ofNat (nat_lit 0))), (nat_lit 0, (.ofNat (nat_lit 11))))])
def zMhs_isGroove : List zCe := []
def pPhs_isGroove : List Int → zE → Prop := fun _ _ => True
def oQhs_isGroove : List Int → zE → Int → zE → Prop := fun _ _ _ _ => True
def fQhs_isGroove : List Int → zE → Int → zE → Prop := fun xs η y η' => y = (yw_ig (xs.getD 0 0) η) ∧ η' = η
def pQhs_isGroove : List Int → zE → Int → zE → Prop := fun xs η y η' => oQhs_isGroove xs η y η' ∧ fQhs_isGroove xs η y η'
def pChs_isGroove : Nat → List Int → zE → Prop := fun c => match c with
  | _ => fun _ _ => True
def qChs_isGroove : Nat → List Int → zE → Int → zE → Prop := fun c => match c with
  | _ => fun _ _ _ _ => True
def iChs_isGroove : List Int → zE → Nat → List Int → zE → Prop := fun xs η0 c => match c with
  | _ => fun _ _ => True
def zVhs_isGroove : List zIv := []
def zDhs_isGroove : List (List zK) := [[(nat_lit 7, nat_lit 2, [(nat_lit 0, (.ofNat (nat_lit 0)))]), (nat_lit 6, nat_lit 2, [(nat_lit 1, (.ofNat (nat_lit 0))), (nat_lit 0, (.ofNat (nat_lit 0)))])],
  [(nat_lit 7, nat_lit 2, [(nat_lit 0, (.ofNat (nat_lit 0)))]), (nat_lit 6, nat_lit 3, [(nat_lit 1, (.ofNat (nat_lit 0))), (nat_lit 2, (.ofNat (nat_lit 0)))]), (nat_lit 4, nat_lit 0, [(nat_lit 0, (.ofNat (nat_lit 0))), (nat_lit 0, (.ofNat (nat_lit 12)))]), (nat_lit 6, nat_lit 3, [(nat_lit 1, (.ofNat (nat_lit 0))), (nat_lit 0, (.ofNat (nat_lit 0)))])],
  [(nat_lit 7, nat_lit 2, [(nat_lit 0, (.ofNat (nat_lit 1)))]), (nat_lit 6, nat_lit 2, [(nat_lit 1, (.ofNat (nat_lit 0))), (nat_lit 2, (.ofNat (nat_lit 0)))]), (nat_lit 4, nat_lit 0, [(nat_lit 0, (.ofNat (nat_lit 0))), (nat_lit 0, (.ofNat (nat_lit 12)))]), (nat_lit 6, nat_lit 3, [(nat_lit 1, (.ofNat (nat_lit 0))), (nat_lit 0, (.ofNat (nat_lit 0)))])]]
def zEhs_isGroove : List (List zK) := [[(nat_lit 11, nat_lit 0, [(nat_lit 0, (.ofNat (nat_lit 0)))]), (nat_lit 6, nat_lit 2, [(nat_lit 1, (.ofNat (nat_lit 0))), (nat_lit 0, (.ofNat (nat_lit 0)))])],
  [(nat_lit 11, nat_lit 0, [(nat_lit 0, (.ofNat (nat_lit 0)))]), (nat_lit 6, nat_lit 3, [(nat_lit 1, (.ofNat (nat_lit 0))), (nat_lit 2, (.ofNat (nat_lit 0)))]), (nat_lit 4, nat_lit 0, [(nat_lit 0, (.ofNat (nat_lit 0))), (nat_lit 0, (.ofNat (nat_lit 12)))]), (nat_lit 6, nat_lit 3, [(nat_lit 1, (.ofNat (nat_lit 0))), (nat_lit 0, (.ofNat (nat_lit 0)))])],
  [(nat_lit 11, nat_lit 0, [(nat_lit 0, (.ofNat (nat_lit 1)))]), (nat_lit 6, nat_lit 2, [(nat_lit 1, (.ofNat (nat_lit 0))), (nat_lit 2, (.ofNat (nat_lit 0)))]), (nat_lit 4, nat_lit 0, [(nat_lit 0, (.ofNat (nat_lit 0))), (nat_lit 0, (.ofNat (nat_lit 12)))]), (nat_lit 6, nat_lit 3, [(nat_lit 1, (.ofNat (nat_lit 0))), (nat_lit 0, (.ofNat (nat_lit 0)))])]]
def zFhs_isGroove : List (List zK) := []
set_option maxHeartbeats 8000000 in
theorem zhs_isGroove_o0 {ro : Nat → List Int32} (x1 : Int) (η : zE) (hp : sP wl_hs zTr zPhs_isGroove [x1] η) (hpp : pPhs_isGroove [x1] η) : (x1 < 0) → (fun (_ : Nat) (y : Int) (η' : zE) => pQhs_isGroove [x1] η y η') 0 0 η := by
  intro c1
  refine yj_a ?_ ?_
  · exact trivial
  · show 0 = (yw_ig x1 η) ∧ η = η
    simp only [yw_ig]
    all_goals (split <;> first | (exfalso; omega) | exact ⟨rfl, rfl⟩ | exact ⟨rfl, trivial⟩)
set_option maxHeartbeats 8000000 in
theorem zhs_isGroove_o1 {ro : Nat → List Int32} (x1 : Int) (η : zE) (hp : sP wl_hs zTr zPhs_isGroove [x1] η) (hpp : pPhs_isGroove [x1] η) : (0 ≤ x1) → ∀ x2 : Int, x2 = η 0 (Int.toNat 12) → zok 0 x2 → (x2 ≤ x1) → (fun (_ : Nat) (y : Int) (η' : zE) => pQhs_isGroove [x1] η y η') 0 0 η := by
  intro c1 x2 e2 r2 c2
  refine yj_a ?_ ?_
  · exact trivial
  · have e2 : x2 = η 0 12 := e2
    show 0 = (yw_ig x1 η) ∧ η = η
    simp only [yw_ig, ← e2]
    all_goals (split <;> first | (exfalso; omega) | exact ⟨rfl, rfl⟩ | exact ⟨rfl, trivial⟩)
set_option maxHeartbeats 8000000 in
theorem zhs_isGroove_o2 {ro : Nat → List Int32} (x1 : Int) (η : zE) (hp : sP wl_hs zTr zPhs_isGroove [x1] η) (hpp : pPhs_isGroove [x1] η) : (0 ≤ x1) → ∀ x2 : Int, x2 = η 0 (Int.toNat 12) → zok 0 x2 → (x1 < x2) → (fun (_ : Nat) (y : Int) (η' : zE) => pQhs_isGroove [x1] η y η') 0 1 η := by
  intro c1 x2 e2 r2 c2
  refine yj_a ?_ ?_
  · exact trivial
  · have e2 : x2 = η 0 12 := e2
    show 1 = (yw_ig x1 η) ∧ η = η
    simp only [yw_ig, ← e2]
    all_goals (split <;> first | (exfalso; omega) | exact ⟨rfl, rfl⟩ | exact ⟨rfl, trivial⟩)
set_option maxHeartbeats 8000000 in
theorem zhs_isGroove {ro : Nat → List Int32} : zMet pr_P pr_K pr_df ro (sm_X0 1 6) 0 158 tm_hs [(.inr (.inr (.inl (nat_lit 0)))), (.inl (nat_lit 1, (.ofNat (nat_lit 0))))] 2 [(nat_lit 0, nat_lit 0, nat_lit 1), (nat_lit 0, nat_lit 3, nat_lit 2), (nat_lit 0, nat_lit 20, nat_lit 3), (nat_lit 0, nat_lit 21, nat_lit 4), (nat_lit 0, nat_lit 22, nat_lit 5), (nat_lit 0, nat_lit 23, nat_lit 6), (nat_lit 0, nat_lit 24, nat_lit 7), (nat_lit 0, nat_lit 25, nat_lit 8), (nat_lit 0, nat_lit 26, nat_lit 9), (nat_lit 0, nat_lit 27, nat_lit 10), (nat_lit 0, nat_lit 28, nat_lit 11), (nat_lit 0, nat_lit 29, nat_lit 12), (nat_lit 0, nat_lit 30, nat_lit 13), (nat_lit 0, nat_lit 31, nat_lit 14), (nat_lit 0, nat_lit 32, nat_lit 15), (nat_lit 0, nat_lit 33, nat_lit 16), (nat_lit 0, nat_lit 34, nat_lit 17), (nat_lit 0, nat_lit 35, nat_lit 18), (nat_lit 0, nat_lit 36, nat_lit 19), (nat_lit 0, nat_lit 37, nat_lit 20), (nat_lit 0, nat_lit 38, nat_lit 21), (nat_lit 0, nat_lit 39, nat_lit 22), (nat_lit 0, nat_lit 40, nat_lit 23), (nat_lit 0, nat_lit 47, nat_lit 24), (nat_lit 0, nat_lit 48, nat_lit 25), (nat_lit 0, nat_lit 50, nat_lit 26), (nat_lit 0, nat_lit 51, nat_lit 27), (nat_lit 0, nat_lit 52, nat_lit 28), (nat_lit 0, nat_lit 53, nat_lit 29), (nat_lit 0, nat_lit 54, nat_lit 30), (nat_lit 0, nat_lit 55, nat_lit 31), (nat_lit 0, nat_lit 56, nat_lit 32), (nat_lit 0, nat_lit 57, nat_lit 33), (nat_lit 0, nat_lit 58, nat_lit 34), (nat_lit 0, nat_lit 59, nat_lit 35), (nat_lit 0, nat_lit 72, nat_lit 36), (nat_lit 0, nat_lit 73, nat_lit 37), (nat_lit 0, nat_lit 76, nat_lit 38), (nat_lit 0, nat_lit 77, nat_lit 39), (nat_lit 0, nat_lit 79, nat_lit 40), (nat_lit 0, nat_lit 81, nat_lit 41), (nat_lit 0, nat_lit 82, nat_lit 42)] [] (fun xs η => sP wl_hs zTr zPhs_isGroove xs η ∧ pPhs_isGroove xs η) (fun xs η y η' => sQ wl_hs zTr zOhs_isGroove zMhs_isGroove xs η y η' ∧ pQhs_isGroove xs η y η') :=
  zmet_alt (zmea_gen (mi := (nat_lit 1, nat_lit 1, nat_lit 8, nat_lit 2, nat_lit 2, tX8_isGroove)) (cd := []) (cu := []) (cs := []) (iv := zVhs_isGroove) (po := [zOhs_isGroove]) (pr := zPhs_isGroove) (mods := zMhs_isGroove) (D7 := zDhs_isGroove) (D0 := zEhs_isGroove) (Dm := zFhs_isGroove) (f0 := 13) pChs_isGroove qChs_isGroove iChs_isGroove pPhs_isGroove (fun xs η _ y η' => pQhs_isGroove xs η y η') zX_low pr_mtR rfl (fun _ h => nomatch h) (by decide +kernel) (by decide +kernel) (by decide +kernel)
    (by
      intro xs η hr hl hp hpp
      match xs, hl, hp, hpp with
      | [x1], _, hp, hpp =>
        refine List.forall_mem_cons.mpr ⟨?_, List.forall_mem_cons.mpr ⟨?_, List.forall_mem_cons.mpr ⟨?_, fun _ h => nomatch h⟩⟩⟩
        · refine zden_L (n := 2) (ρ := [x1, 0]) rfl ?_
          exact zhs_isGroove_o0 (ro := ro) x1 η hp hpp
        · refine zden_L (n := 2) (ρ := [x1, 0]) rfl ?_
          exact zhs_isGroove_o1 (ro := ro) x1 η hp hpp
        · refine zden_L (n := 2) (ρ := [x1, 0]) rfl ?_
          exact zhs_isGroove_o2 (ro := ro) x1 η hp hpp
      )
    (fun _ _ _ _ _ _ _ h => nomatch h)
    (fun _ h => nomatch h))
def zPhs_find_g0 : zPq := ([((.ofNat (nat_lit 0)), (.ofNat (nat_lit 4))), ((.negSucc (nat_lit 2147483647)), (.ofNat (nat_lit 2147483647)))], [])
def zOhs_find_g0 : zPo := (((.negSucc (nat_lit 0)), (.ofNat (nat_lit 3))), [], [])
def zMhs_find_g0 : List zCe := []
def pPhs_find_g0 : List Int → zE → Prop := fun _ _ => True
def oQhs_find_g0 : List Int → zE → Int → zE → Prop := fun _ _ _ _ => True
def fQhs_find_g0 : List Int → zE → Int → zE → Prop := fun xs η y η' => y = (yp_fd (η 12) (xs.getD 1 0) (Int.toNat (xs.getD 0 0)) (Int.toNat (xs.getD 0 0))) ∧ η' = η
def pQhs_find_g0 : List Int → zE → Int → zE → Prop := fun xs η y η' => oQhs_find_g0 xs η y η' ∧ fQhs_find_g0 xs η y η'
def pChs_find_g0 : Nat → List Int → zE → Prop := fun c => match c with
  | _ => fun _ _ => True
def qChs_find_g0 : Nat → List Int → zE → Int → zE → Prop := fun c => match c with
  | _ => fun _ _ _ _ => True
def iChs_find_g0 : List Int → zE → Nat → List Int → zE → Prop := fun xs η0 c => match c with
  | 0 => fun ys η => (True) ∧ (ys.getD 0 0 = 0 ∧ ys.getD 1 0 = xs.getD 0 0 ∧ ys.getD 2 0 = xs.getD 1 0 ∧ yw_fI η0 12 (xs.getD 0 0) (xs.getD 1 0) (ys.getD 3 0) η)
  | _ => fun _ _ => True
def zVhs_find_g0 : List zIv := [(nat_lit 0, ([((.ofNat (nat_lit 0)), (.ofNat (nat_lit 0))), ((.ofNat (nat_lit 0)), (.ofNat (nat_lit 4))), ((.negSucc (nat_lit 2147483647)), (.ofNat (nat_lit 2147483647))), ((.ofNat (nat_lit 0)), (.ofNat (nat_lit 4)))], []), ((.ofNat (nat_lit 4)), [((.negSucc (nat_lit 0)), nat_lit 0, nat_lit 3, nat_lit 0)]))]
def zUhs_find_g0 : List zCu := [(nat_lit 3, nat_lit 0, [(nat_lit 0, (.inr (.inr (.inl (nat_lit 12))))), (nat_lit 1, (.inl (nat_lit 1, (.ofNat (nat_lit 0))))), (nat_lit 2, (.inl (nat_lit 2, (.ofNat (nat_lit 0))))), (nat_lit 3, (.inl (nat_lit 3, (.ofNat (nat_lit 0))))), (nat_lit 4, (.inl (nat_lit 4, (.ofNat (nat_lit 0)))))], [])]
def zDhs_find_g0 : List (List zK) := []
def zEhs_find_g0 : List (List zK) := [[(nat_lit 12, nat_lit 0, [(nat_lit 0, (.ofNat (nat_lit 0))), (nat_lit 1, (.ofNat (nat_lit 0))), (nat_lit 2, (.ofNat (nat_lit 0))), (nat_lit 0, (.ofNat (nat_lit 0)))])]]
def zFhs_find_g0 : List (List zK) := []
def zDhs_find_g0_0 : List (List zK) := [[(nat_lit 7, nat_lit 0, [(nat_lit 5, (.ofNat (nat_lit 0))), (nat_lit 0, (.ofNat (nat_lit 8)))]), (nat_lit 0, nat_lit 1, [(nat_lit 1, (.ofNat (nat_lit 0))), (nat_lit 4, (.ofNat (nat_lit 0)))]), (nat_lit 6, nat_lit 2, [(nat_lit 4, (.ofNat (nat_lit 0))), (nat_lit 2, (.ofNat (nat_lit 0)))])]]
def zEhs_find_g0_0 : List (List zK) := [[(nat_lit 11, nat_lit 0, [(nat_lit 0, (.negSucc (nat_lit 0)))]), (nat_lit 6, nat_lit 3, [(nat_lit 4, (.ofNat (nat_lit 0))), (nat_lit 2, (.ofNat (nat_lit 0)))])],
  [(nat_lit 10, nat_lit 0, [(nat_lit 1, (.ofNat (nat_lit 0))), (nat_lit 2, (.ofNat (nat_lit 0))), (nat_lit 3, (.ofNat (nat_lit 0))), (nat_lit 7, (.ofNat (nat_lit 0)))]), (nat_lit 0, nat_lit 1, [(nat_lit 4, (.ofNat (nat_lit 0))), (nat_lit 0, (.ofNat (nat_lit 1)))]), (nat_lit 6, nat_lit 1, [(nat_lit 6, (.ofNat (nat_lit 0))), (nat_lit 3, (.ofNat (nat_lit 0)))]), (nat_lit 4, nat_lit 0, [(nat_lit 12, (.ofNat (nat_lit 0))), (nat_lit 5, (.ofNat (nat_lit 0)))]), (nat_lit 0, nat_lit 1, [(nat_lit 1, (.ofNat (nat_lit 0))), (nat_lit 4, (.ofNat (nat_lit 0)))]), (nat_lit 6, nat_lit 2, [(nat_lit 4, (.ofNat (nat_lit 0))), (nat_lit 2, (.ofNat (nat_lit 0)))])],
  [(nat_lit 11, nat_lit 0, [(nat_lit 4, (.ofNat (nat_lit 0)))]), (nat_lit 6, nat_lit 0, [(nat_lit 6, (.ofNat (nat_lit 0))), (nat_lit 3, (.ofNat (nat_lit 0)))]), (nat_lit 4, nat_lit 0, [(nat_lit 12, (.ofNat (nat_lit 0))), (nat_lit 5, (.ofNat (nat_lit 0)))]), (nat_lit 0, nat_lit 1, [(nat_lit 1, (.ofNat (nat_lit 0))), (nat_lit 4, (.ofNat (nat_lit 0)))]), (nat_lit 6, nat_lit 2, [(nat_lit 4, (.ofNat (nat_lit 0))), (nat_lit 2, (.ofNat (nat_lit 0)))])]]
def zFhs_find_g0_0 : List (List zK) := []
set_option maxHeartbeats 8000000 in
theorem zhs_find_g0_o0 {ro : Nat → List Int32} (xs : List Int) (η0 : zE) (hp : sP wl_hs zTr zPhs_find_g0 xs η0) (hpp : pPhs_find_g0 xs η0) (x1 x2 x3 x4 : Int) (η : zE) (hI : zsI wl_hs zTr zVhs_find_g0 zMhs_find_g0 η0 0 [x1, x2, x3, x4] η) (hig : iChs_find_g0 xs η0 0 [x1, x2, x3, x4] η) : (x2 ≤ x4) → (fun (_ : Nat) (y : Int) (η' : zE) => pQhs_find_g0 xs η0 y η') 0 (-1) η := by
  have fig := hig.2
  have hig := hig.1
  intro c1
  refine yj_a ?_ ?_
  · exact trivial
  · obtain ⟨f1, f2, f3, fI⟩ : x1 = 0 ∧ x2 = xs.getD 0 0 ∧ x3 = xs.getD 1 0 ∧ yw_fI η0 12 (xs.getD 0 0) (xs.getD 1 0) x4 η := fig
    rw [← f2, ← f3] at fI
    have b4 : (0 : Int) ≤ x4 ∧ x4 ≤ 4 := hI.1.2.1.2.2.2.1
    show -1 = yp_fd (η0 12) (xs.getD 1 0) (xs.getD 0 0).toNat (xs.getD 0 0).toNat ∧ η = η0
    rw [← f2, ← f3]
    exact wfI_e fI (by omega)
set_option maxHeartbeats 8000000 in
theorem zhs_find_g0_o1 {ro : Nat → List Int32} (xs : List Int) (η0 : zE) (hp : sP wl_hs zTr zPhs_find_g0 xs η0) (hpp : pPhs_find_g0 xs η0) (x1 x2 x3 x4 : Int) (η : zE) (hI : zsI wl_hs zTr zVhs_find_g0 zMhs_find_g0 η0 0 [x1, x2, x3, x4] η) (hig : iChs_find_g0 xs η0 0 [x1, x2, x3, x4] η) : (x4 < x2) → ∀ x5 : Int, x5 = zd 0 1 x1 x4 → ∀ x6 : Int, x6 = η 12 (Int.toNat x5) → zok 0 x6 → (¬ x6 = x3) → ∀ x7 : Int, x7 = zd 0 1 x4 1 → (iChs_find_g0 xs η0) 0 [x1, x2, x3, x7] η ∧ (fun (_ : Nat) (_ : List Int) (_ : zE) => (0 : Nat)) 0 [x1, x2, x3, x7] η < 1 := by
  have fig := hig.2
  have hig := hig.1
  intro c1 x5 e5 x6 e6 r6 c2 x7 e7
  refine yj_c ?_ ?_
  · exact ⟨trivial, Nat.zero_lt_one⟩
  · obtain ⟨f1, f2, f3, fI⟩ : x1 = 0 ∧ x2 = xs.getD 0 0 ∧ x3 = xs.getD 1 0 ∧ yw_fI η0 12 (xs.getD 0 0) (xs.getD 1 0) x4 η := fig
    rw [← f2, ← f3] at fI
    have b4 : (0 : Int) ≤ x4 ∧ x4 ≤ 4 := hI.1.2.1.2.2.2.1
    rw [f1, zd_a ⟨by omega, by omega⟩, Int.zero_add] at e5
    have e6 : x6 = η 12 x5.toNat := e6
    rw [e5] at e6
    have e7 : x7 = zd 0 1 x4 1 := e7
    rw [zd_a ⟨by omega, by omega⟩] at e7
    refine ⟨f1, f2, f3, ?_⟩
    show yw_fI η0 12 (xs.getD 0 0) (xs.getD 1 0) x7 η
    rw [← f2, ← f3, e7]
    exact wfI_n fI (by omega) (by rw [← e6]; assumption)
set_option maxHeartbeats 8000000 in
theorem zhs_find_g0_o2 {ro : Nat → List Int32} (xs : List Int) (η0 : zE) (hp : sP wl_hs zTr zPhs_find_g0 xs η0) (hpp : pPhs_find_g0 xs η0) (x1 x2 x3 x4 : Int) (η : zE) (hI : zsI wl_hs zTr zVhs_find_g0 zMhs_find_g0 η0 0 [x1, x2, x3, x4] η) (hig : iChs_find_g0 xs η0 0 [x1, x2, x3, x4] η) : (x4 < x2) → ∀ x5 : Int, x5 = zd 0 1 x1 x4 → ∀ x6 : Int, x6 = η 12 (Int.toNat x5) → zok 0 x6 → (x6 = x3) → (fun (_ : Nat) (y : Int) (η' : zE) => pQhs_find_g0 xs η0 y η') 0 x4 η := by
  have fig := hig.2
  have hig := hig.1
  intro c1 x5 e5 x6 e6 r6 c2
  refine yj_a ?_ ?_
  · exact trivial
  · obtain ⟨f1, f2, f3, fI⟩ : x1 = 0 ∧ x2 = xs.getD 0 0 ∧ x3 = xs.getD 1 0 ∧ yw_fI η0 12 (xs.getD 0 0) (xs.getD 1 0) x4 η := fig
    rw [← f2, ← f3] at fI
    have b4 : (0 : Int) ≤ x4 ∧ x4 ≤ 4 := hI.1.2.1.2.2.2.1
    rw [f1, zd_a ⟨by omega, by omega⟩, Int.zero_add] at e5
    have e6 : x6 = η 12 x5.toNat := e6
    rw [e5] at e6
    show x4 = yp_fd (η0 12) (xs.getD 1 0) (xs.getD 0 0).toNat (xs.getD 0 0).toNat ∧ η = η0
    rw [← f2, ← f3]
    exact wfI_t fI (by omega) (by rw [← e6]; assumption)
set_option maxHeartbeats 8000000 in
theorem zhs_find_g0 {ro : Nat → List Int32} : zMet pr_P pr_K pr_df ro (sm_X0 1 6) 0 131 tm_hs [(.inr (.inr (.inl (nat_lit 12)))), (.inl (nat_lit 0, (.ofNat (nat_lit 0)))), (.inl (nat_lit 1, (.ofNat (nat_lit 0)))), (.inl (nat_lit 2, (.ofNat (nat_lit 0))))] 1 [] [] (fun xs η => sP wl_hs zTr zPhs_find_g0 xs η ∧ pPhs_find_g0 xs η) (fun xs η y η' => sQ wl_hs zTr zOhs_find_g0 zMhs_find_g0 xs η y η' ∧ pQhs_find_g0 xs η y η') :=
  zmet_alt (zmea_gen (mi := (nat_lit 4, nat_lit 0, nat_lit 8, nat_lit 5, nat_lit 1, tX8_find)) (cd := []) (cu := zUhs_find_g0) (cs := []) (iv := zVhs_find_g0) (po := [zOhs_find_g0]) (pr := zPhs_find_g0) (mods := zMhs_find_g0) (D7 := zDhs_find_g0) (D0 := zEhs_find_g0) (Dm := zFhs_find_g0) (f0 := 7) pChs_find_g0 qChs_find_g0 iChs_find_g0 pPhs_find_g0 (fun xs η _ y η' => pQhs_find_g0 xs η y η') zX_low pr_mtR rfl (fun _ h => nomatch h) (by decide +kernel) (by decide +kernel) (by decide +kernel)
    (by
      intro xs η hr hl hp hpp
      match xs, hl, hp, hpp with
      | [x1, x2], _, hp, hpp =>
        refine List.forall_mem_cons.mpr ⟨?_, fun _ h => nomatch h⟩
        · refine zden_L (n := 3) (ρ := [x2, x1, 0]) rfl ?_
          show (iChs_find_g0 [x1, x2] η) 0 [0, x1, x2, 0] η
          refine yj_a ?_ ?_
          · exact trivial
          · exact ⟨rfl, rfl, rfl, rfl, Int.le_refl _, rfl⟩
      )
    (fun _ _ _ _ _ _ _ h => nomatch h)
    (List.forall_mem_cons.mpr ⟨⟨zDhs_find_g0_0, zEhs_find_g0_0, zFhs_find_g0_0, 17, by decide +kernel, (by
      intro xs η0 hlx hp hpp ys η hr hl hI hig
      match ys, hl, hI, hig with
      | [x1, x2, x3, x4], _, hI, hig =>
        refine ⟨?_, ?_⟩
        · refine List.forall_mem_cons.mpr ⟨?_, List.forall_mem_cons.mpr ⟨?_, List.forall_mem_cons.mpr ⟨?_, fun _ h => nomatch h⟩⟩⟩
          · refine zden_L (n := 5) (ρ := [x4, x3, x2, x1, 0]) rfl ?_
            exact zhs_find_g0_o0 (ro := ro) xs η0 hp hpp x1 x2 x3 x4 η hI hig
          · refine zden_L (n := 5) (ρ := [x4, x3, x2, x1, 0]) rfl ?_
            exact zhs_find_g0_o1 (ro := ro) xs η0 hp hpp x1 x2 x3 x4 η hI hig
          · refine zden_L (n := 5) (ρ := [x4, x3, x2, x1, 0]) rfl ?_
            exact zhs_find_g0_o2 (ro := ro) xs η0 hp hpp x1 x2 x3 x4 η hI hig
        · exact fun _ h => nomatch h
      )⟩, (fun _ h => nomatch h)⟩))
def zPhs_named : zPq := ([((.negSucc (nat_lit 2147483647)), (.ofNat (nat_lit 2147483647)))], [])
def zOhs_named : zPo := (((.negSucc (nat_lit 2147483647)), (.ofNat (nat_lit 2147483647))), [], [])
def zMhs_named : List zCe := [(nat_lit 0, nat_lit 3)]
def pPhs_named : List Int → zE → Prop := fun _ _ => True
def oQhs_named : List Int → zE → Int → zE → Prop := fun _ _ _ _ => True
def fQhs_named : List Int → zE → Int → zE → Prop := fun xs η y η' => y = (yp_fd (η 12) (xs.getD 0 0) (Int.toNat (η 0 14)) (Int.toNat (η 0 14))) ∧ η' = (zup η 0 2 0)
def pQhs_named : List Int → zE → Int → zE → Prop := fun xs η y η' => oQhs_named xs η y η' ∧ fQhs_named xs η y η'
def pChs_named : Nat → List Int → zE → Prop := fun c => match c with
  | 0 => pPhs_find_g0
  | _ => fun _ _ => True
def qChs_named : Nat → List Int → zE → Int → zE → Prop := fun c => match c with
  | 0 => pQhs_find_g0
  | _ => fun _ _ _ _ => True
def iChs_named : List Int → zE → Nat → List Int → zE → Prop := fun xs η0 c => match c with
  | _ => fun _ _ => True
def zVhs_named : List zIv := []
def zDhs_named : List (List zK) := []
def zEhs_named : List (List zK) := [[(nat_lit 13, nat_lit 0, [(nat_lit 2, (.ofNat (nat_lit 0))), (nat_lit 1, (.ofNat (nat_lit 0)))]), (nat_lit 4, nat_lit 0, [(nat_lit 0, (.ofNat (nat_lit 0))), (nat_lit 0, (.ofNat (nat_lit 14)))]), (nat_lit 5, nat_lit 0, [(nat_lit 0, (.ofNat (nat_lit 0))), (nat_lit 0, (.ofNat (nat_lit 2))), (nat_lit 0, (.ofNat (nat_lit 0)))])],
  [(nat_lit 11, nat_lit 0, [(nat_lit 3, (.ofNat (nat_lit 0)))]), (nat_lit 8, nat_lit 0, [(nat_lit 2, (.ofNat (nat_lit 0))), (nat_lit 1, (.ofNat (nat_lit 0)))]), (nat_lit 4, nat_lit 0, [(nat_lit 0, (.ofNat (nat_lit 0))), (nat_lit 0, (.ofNat (nat_lit 14)))]), (nat_lit 5, nat_lit 0, [(nat_lit 0, (.ofNat (nat_lit 0))), (nat_lit 0, (.ofNat (nat_lit 2))), (nat_lit 0, (.ofNat (nat_lit 0)))])]]
def zFhs_named : List (List zK) := []
set_option maxHeartbeats 8000000 in
theorem zhs_named_o0 {ro : Nat → List Int32} (x1 : Int) (η : zE) (hp : sP wl_hs zTr zPhs_named [x1] η) (hpp : pPhs_named [x1] η) : ∀ η1 : zE, η1 = zup η 0 (Int.toNat 2) 0 → ∀ x2 : Int, x2 = η1 0 (Int.toNat 14) → zok 0 x2 → ∀ (x3 : Int) (η2 : zE), ((gC2 wl_hs [(nat_lit 0, zPhs_find_g0, zOhs_find_g0, zMhs_find_g0)] pChs_named qChs_named) 0).2 [x2, x1] η1 x3 η2 → (fun (_ : Nat) (y : Int) (η' : zE) => pQhs_named [x1] η y η') 0 x3 η2 := by
  intro η1 eη1 x2 e2 r2 x3 η2 h3
  have y3 : fQhs_find_g0 [x2, x1] η1 x3 η2 := h3.2.2
  have k3 : sQ wl_hs zTr zOhs_find_g0 zMhs_find_g0 [x2, x1] η1 x3 η2 ∧ oQhs_find_g0 [x2, x1] η1 x3 η2 := ⟨h3.1, h3.2.1⟩
  refine yj_a ?_ ?_
  · have y3 : fQhs_find_g0 [x2, x1] η1 x3 η2 := h3.2.2
    have k3 : sQ wl_hs zTr zOhs_find_g0 zMhs_find_g0 [x2, x1] η1 x3 η2 ∧ oQhs_find_g0 [x2, x1] η1 x3 η2 := ⟨h3.1, h3.2.1⟩
    exact trivial
  · have eη1 : η1 = zup η 0 2 0 := eη1
    have e2 : x2 = η1 0 14 := e2
    clear r2
    obtain ⟨a3, b3⟩ : x3 = (yp_fd (η1 12) x1 (Int.toNat x2) (Int.toNat x2)) ∧ η2 = η1 := y3
    clear k3 h3
    show x3 = yp_fd (η 12) x1 (Int.toNat (η 0 14)) (Int.toNat (η 0 14)) ∧ η2 = zup η 0 2 0
    subst eη1
    subst e2
    subst a3; subst b3
    exact ⟨rfl, rfl⟩
set_option maxHeartbeats 8000000 in
theorem zhs_named {ro : Nat → List Int32} : zMet pr_P pr_K pr_df ro (sm_X0 1 6) 1 139 tm_hs [(.inr (.inr (.inl (nat_lit 0)))), (.inl (nat_lit 1, (.ofNat (nat_lit 0))))] 1 [(nat_lit 0, nat_lit 0, nat_lit 1), (nat_lit 0, nat_lit 3, nat_lit 2), (nat_lit 0, nat_lit 20, nat_lit 3), (nat_lit 0, nat_lit 21, nat_lit 4), (nat_lit 0, nat_lit 22, nat_lit 5), (nat_lit 0, nat_lit 23, nat_lit 6), (nat_lit 0, nat_lit 24, nat_lit 7), (nat_lit 0, nat_lit 25, nat_lit 8), (nat_lit 0, nat_lit 26, nat_lit 9), (nat_lit 0, nat_lit 27, nat_lit 10), (nat_lit 0, nat_lit 28, nat_lit 11), (nat_lit 0, nat_lit 29, nat_lit 12), (nat_lit 0, nat_lit 30, nat_lit 13), (nat_lit 0, nat_lit 31, nat_lit 14), (nat_lit 0, nat_lit 32, nat_lit 15), (nat_lit 0, nat_lit 33, nat_lit 16), (nat_lit 0, nat_lit 34, nat_lit 17), (nat_lit 0, nat_lit 35, nat_lit 18), (nat_lit 0, nat_lit 36, nat_lit 19), (nat_lit 0, nat_lit 37, nat_lit 20), (nat_lit 0, nat_lit 38, nat_lit 21), (nat_lit 0, nat_lit 39, nat_lit 22), (nat_lit 0, nat_lit 40, nat_lit 23), (nat_lit 0, nat_lit 47, nat_lit 24), (nat_lit 0, nat_lit 48, nat_lit 25), (nat_lit 0, nat_lit 50, nat_lit 26), (nat_lit 0, nat_lit 51, nat_lit 27), (nat_lit 0, nat_lit 52, nat_lit 28), (nat_lit 0, nat_lit 53, nat_lit 29), (nat_lit 0, nat_lit 54, nat_lit 30), (nat_lit 0, nat_lit 55, nat_lit 31), (nat_lit 0, nat_lit 56, nat_lit 32), (nat_lit 0, nat_lit 57, nat_lit 33), (nat_lit 0, nat_lit 58, nat_lit 34), (nat_lit 0, nat_lit 59, nat_lit 35), (nat_lit 0, nat_lit 72, nat_lit 36), (nat_lit 0, nat_lit 73, nat_lit 37), (nat_lit 0, nat_lit 76, nat_lit 38), (nat_lit 0, nat_lit 77, nat_lit 39), (nat_lit 0, nat_lit 79, nat_lit 40), (nat_lit 0, nat_lit 81, nat_lit 41), (nat_lit 0, nat_lit 82, nat_lit 42)] [] (fun xs η => sP wl_hs zTr zPhs_named xs η ∧ pPhs_named xs η) (fun xs η y η' => sQ wl_hs zTr zOhs_named zMhs_named xs η y η' ∧ pQhs_named xs η y η') :=
  zmet_alt (zmea_gen (mi := (nat_lit 1, nat_lit 1, nat_lit 8, nat_lit 2, nat_lit 1, tX8_named)) (cd := [(nat_lit 131, nat_lit 0, nat_lit 0, [(.inr (.inr (.inl (nat_lit 12)))), (.inl (nat_lit 0, (.ofNat (nat_lit 0)))), (.inl (nat_lit 1, (.ofNat (nat_lit 0)))), (.inl (nat_lit 2, (.ofNat (nat_lit 0))))], nat_lit 1, [], [])]) (cu := []) (cs := [(nat_lit 0, zPhs_find_g0, zOhs_find_g0, zMhs_find_g0)]) (iv := zVhs_named) (po := [zOhs_named]) (pr := zPhs_named) (mods := zMhs_named) (D7 := zDhs_named) (D0 := zEhs_named) (Dm := zFhs_named) (f0 := 15) pChs_named qChs_named iChs_named pPhs_named (fun xs η _ y η' => pQhs_named xs η y η') zX_low pr_mtR rfl (List.forall_mem_cons.mpr ⟨zhs_find_g0, fun _ h => nomatch h⟩) (by decide +kernel) (by decide +kernel) (by decide +kernel)
    (by
      intro xs η hr hl hp hpp
      match xs, hl, hp, hpp with
      | [x1], _, hp, hpp =>
        refine List.forall_mem_cons.mpr ⟨?_, List.forall_mem_cons.mpr ⟨?_, fun _ h => nomatch h⟩⟩
        · refine zden_L (n := 2) (ρ := [x1, 0]) rfl ?_
          show ∀ η1 : zE, η1 = zup η 0 (Int.toNat 2) 0 → ∀ x2 : Int, x2 = η1 0 (Int.toNat 14) → zok 0 x2 → ((gC2 wl_hs [(nat_lit 0, zPhs_find_g0, zOhs_find_g0, zMhs_find_g0)] pChs_named qChs_named) 0).1 [x2, x1] η1
          intro η1 eη1 x2 e2 r2
          exact trivial
        · refine zden_L (n := 2) (ρ := [x1, 0]) rfl ?_
          exact zhs_named_o0 (ro := ro) x1 η hp hpp
      )
    (fun _ _ _ _ _ _ _ h => nomatch h)
    (fun _ h => nomatch h))
def zPhs_noted : zPq := ([((.negSucc (nat_lit 2147483647)), (.ofNat (nat_lit 2147483647))), ((.ofNat (nat_lit 0)), (.ofNat (nat_lit 23))), ((.negSucc (nat_lit 2147483647)), (.ofNat (nat_lit 2147483647)))], [(nat_lit 0, nat_lit 74, (.ofNat (nat_lit 0)), (.ofNat (nat_lit 23)))])
def zOhs_noted : zPo := (((.negSucc (nat_lit 2147483647)), (.ofNat (nat_lit 2147483647))), [], [])
def zMhs_noted : List zCe := [(nat_lit 0, nat_lit 75), (nat_lit 38, nat_lit 0)]
def pPhs_noted : List Int → zE → Prop := fun _ _ => True
def oQhs_noted : List Int → zE → Int → zE → Prop := fun _ _ _ _ => True
def fQhs_noted : List Int → zE → Int → zE → Prop := fun xs η y η' => y = (yw_ny η) ∧ η' = (yw_no (xs.getD 0 0) (xs.getD 1 0) (xs.getD 2 0) η)
def pQhs_noted : List Int → zE → Int → zE → Prop := fun xs η y η' => oQhs_noted xs η y η' ∧ fQhs_noted xs η y η'
def pChs_noted : Nat → List Int → zE → Prop := fun c => match c with
  | _ => fun _ _ => True
def qChs_noted : Nat → List Int → zE → Int → zE → Prop := fun c => match c with
  | _ => fun _ _ _ _ => True
def iChs_noted : List Int → zE → Nat → List Int → zE → Prop := fun xs η0 c => match c with
  | _ => fun _ _ => True
def zVhs_noted : List zIv := []
def zDhs_noted : List (List zK) := [[(nat_lit 7, nat_lit 0, [(nat_lit 5, (.ofNat (nat_lit 0))), (nat_lit 0, (.ofNat (nat_lit 72)))]), (nat_lit 0, nat_lit 3, [(nat_lit 0, (.ofNat (nat_lit 3))), (nat_lit 4, (.ofNat (nat_lit 0)))]), (nat_lit 4, nat_lit 0, [(nat_lit 0, (.ofNat (nat_lit 0))), (nat_lit 0, (.ofNat (nat_lit 74)))])],
  [(nat_lit 7, nat_lit 0, [(nat_lit 8, (.ofNat (nat_lit 0))), (nat_lit 0, (.ofNat (nat_lit 72)))]), (nat_lit 0, nat_lit 1, [(nat_lit 7, (.ofNat (nat_lit 0))), (nat_lit 0, (.ofNat (nat_lit 1)))]), (nat_lit 0, nat_lit 3, [(nat_lit 0, (.ofNat (nat_lit 3))), (nat_lit 6, (.ofNat (nat_lit 0)))]), (nat_lit 4, nat_lit 0, [(nat_lit 0, (.ofNat (nat_lit 0))), (nat_lit 0, (.ofNat (nat_lit 74)))]), (nat_lit 5, nat_lit 0, [(nat_lit 38, (.ofNat (nat_lit 0))), (nat_lit 5, (.ofNat (nat_lit 0))), (nat_lit 1, (.ofNat (nat_lit 0)))]), (nat_lit 0, nat_lit 3, [(nat_lit 0, (.ofNat (nat_lit 3))), (nat_lit 4, (.ofNat (nat_lit 0)))]), (nat_lit 4, nat_lit 0, [(nat_lit 0, (.ofNat (nat_lit 0))), (nat_lit 0, (.ofNat (nat_lit 74)))])],
  [(nat_lit 7, nat_lit 0, [(nat_lit 11, (.ofNat (nat_lit 0))), (nat_lit 0, (.ofNat (nat_lit 72)))]), (nat_lit 0, nat_lit 1, [(nat_lit 10, (.ofNat (nat_lit 0))), (nat_lit 0, (.ofNat (nat_lit 2)))]), (nat_lit 0, nat_lit 3, [(nat_lit 0, (.ofNat (nat_lit 3))), (nat_lit 9, (.ofNat (nat_lit 0)))]), (nat_lit 4, nat_lit 0, [(nat_lit 0, (.ofNat (nat_lit 0))), (nat_lit 0, (.ofNat (nat_lit 74)))]), (nat_lit 5, nat_lit 0, [(nat_lit 38, (.ofNat (nat_lit 0))), (nat_lit 8, (.ofNat (nat_lit 0))), (nat_lit 2, (.ofNat (nat_lit 0)))]), (nat_lit 0, nat_lit 1, [(nat_lit 7, (.ofNat (nat_lit 0))), (nat_lit 0, (.ofNat (nat_lit 1)))]), (nat_lit 0, nat_lit 3, [(nat_lit 0, (.ofNat (nat_lit 3))), (nat_lit 6, (.ofNat (nat_lit 0)))]), (nat_lit 4, nat_lit 0, [(nat_lit 0, (.ofNat (nat_lit 0))), (nat_lit 0, (.ofNat (nat_lit 74)))]), (nat_lit 5, nat_lit 0, [(nat_lit 38, (.ofNat (nat_lit 0))), (nat_lit 5, (.ofNat (nat_lit 0))), (nat_lit 1, (.ofNat (nat_lit 0)))]), (nat_lit 0, nat_lit 3, [(nat_lit 0, (.ofNat (nat_lit 3))), (nat_lit 4, (.ofNat (nat_lit 0)))]), (nat_lit 4, nat_lit 0, [(nat_lit 0, (.ofNat (nat_lit 0))), (nat_lit 0, (.ofNat (nat_lit 74)))])]]
def zEhs_noted : List (List zK) := [[(nat_lit 11, nat_lit 0, [(nat_lit 15, (.ofNat (nat_lit 0)))]), (nat_lit 0, nat_lit 2, [(nat_lit 14, (.ofNat (nat_lit 0))), (nat_lit 0, (.ofNat (nat_lit 1)))]), (nat_lit 4, nat_lit 0, [(nat_lit 0, (.ofNat (nat_lit 0))), (nat_lit 0, (.ofNat (nat_lit 74)))]), (nat_lit 5, nat_lit 0, [(nat_lit 0, (.ofNat (nat_lit 0))), (nat_lit 0, (.ofNat (nat_lit 74))), (nat_lit 13, (.ofNat (nat_lit 0)))]), (nat_lit 0, nat_lit 1, [(nat_lit 12, (.ofNat (nat_lit 0))), (nat_lit 0, (.ofNat (nat_lit 1)))]), (nat_lit 4, nat_lit 0, [(nat_lit 0, (.ofNat (nat_lit 0))), (nat_lit 0, (.ofNat (nat_lit 74)))]), (nat_lit 5, nat_lit 0, [(nat_lit 38, (.ofNat (nat_lit 0))), (nat_lit 11, (.ofNat (nat_lit 0))), (nat_lit 3, (.ofNat (nat_lit 0)))]), (nat_lit 0, nat_lit 1, [(nat_lit 10, (.ofNat (nat_lit 0))), (nat_lit 0, (.ofNat (nat_lit 2)))]), (nat_lit 0, nat_lit 3, [(nat_lit 0, (.ofNat (nat_lit 3))), (nat_lit 9, (.ofNat (nat_lit 0)))]), (nat_lit 4, nat_lit 0, [(nat_lit 0, (.ofNat (nat_lit 0))), (nat_lit 0, (.ofNat (nat_lit 74)))]), (nat_lit 5, nat_lit 0, [(nat_lit 38, (.ofNat (nat_lit 0))), (nat_lit 8, (.ofNat (nat_lit 0))), (nat_lit 2, (.ofNat (nat_lit 0)))]), (nat_lit 0, nat_lit 1, [(nat_lit 7, (.ofNat (nat_lit 0))), (nat_lit 0, (.ofNat (nat_lit 1)))]), (nat_lit 0, nat_lit 3, [(nat_lit 0, (.ofNat (nat_lit 3))), (nat_lit 6, (.ofNat (nat_lit 0)))]), (nat_lit 4, nat_lit 0, [(nat_lit 0, (.ofNat (nat_lit 0))), (nat_lit 0, (.ofNat (nat_lit 74)))]), (nat_lit 5, nat_lit 0, [(nat_lit 38, (.ofNat (nat_lit 0))), (nat_lit 5, (.ofNat (nat_lit 0))), (nat_lit 1, (.ofNat (nat_lit 0)))]), (nat_lit 0, nat_lit 3, [(nat_lit 0, (.ofNat (nat_lit 3))), (nat_lit 4, (.ofNat (nat_lit 0)))]), (nat_lit 4, nat_lit 0, [(nat_lit 0, (.ofNat (nat_lit 0))), (nat_lit 0, (.ofNat (nat_lit 74)))])]]
def zFhs_noted : List (List zK) := []
set_option maxHeartbeats 8000000 in
theorem zhs_noted_o0 {ro : Nat → List Int32} (x1 x2 x3 : Int) (η : zE) (hp : sP wl_hs zTr zPhs_noted [x1, x2, x3] η) (hpp : pPhs_noted [x1, x2, x3] η) : ∀ x4 : Int, x4 = η 0 (Int.toNat 74) → zok 0 x4 → ∀ x5 : Int, x5 = zd 0 3 3 x4 → ∀ η1 : zE, η1 = zup η 38 (Int.toNat x5) x1 → ∀ x6 : Int, x6 = η1 0 (Int.toNat 74) → zok 0 x6 → ∀ x7 : Int, x7 = zd 0 3 3 x6 → ∀ x8 : Int, x8 = zd 0 1 x7 1 → ∀ η2 : zE, η2 = zup η1 38 (Int.toNat x8) x2 → ∀ x9 : Int, x9 = η2 0 (Int.toNat 74) → zok 0 x9 → ∀ x10 : Int, x10 = zd 0 3 3 x9 → ∀ x11 : Int, x11 = zd 0 1 x10 2 → ∀ η3 : zE, η3 = zup η2 38 (Int.toNat x11) x3 → ∀ x12 : Int, x12 = η3 0 (Int.toNat 74) → zok 0 x12 → ∀ x13 : Int, x13 = zd 0 1 x12 1 → ∀ η4 : zE, η4 = zup η3 0 (Int.toNat 74) x13 → ∀ x14 : Int, x14 = η4 0 (Int.toNat 74) → zok 0 x14 → ∀ x15 : Int, x15 = zd 0 2 x14 1 → (fun (_ : Nat) (y : Int) (η' : zE) => pQhs_noted [x1, x2, x3] η y η') 0 x15 η4 := by
  intro x4 e4 r4 x5 e5 η1 eη1 x6 e6 r6 x7 e7 x8 e8 η2 eη2 x9 e9 r9 x10 e10 x11 e11 η3 eη3 x12 e12 r12 x13 e13 η4 eη4 x14 e14 r14 x15 e15
  refine yj_a ?_ ?_
  · exact trivial
  · have e4 : x4 = η 0 74 := e4
    clear r4
    have eη1 : η1 = zup η 38 (Int.toNat x5) x1 := eη1
    have e6 : x6 = η1 0 74 := e6
    clear r6
    have eη2 : η2 = zup η1 38 (Int.toNat x8) x2 := eη2
    have e9 : x9 = η2 0 74 := e9
    clear r9
    have eη3 : η3 = zup η2 38 (Int.toNat x11) x3 := eη3
    have e12 : x12 = η3 0 74 := e12
    clear r12
    have eη4 : η4 = zup η3 0 74 x13 := eη4
    have e14 : x14 = η4 0 74 := e14
    clear r14
    show x15 = yw_ny η ∧ η4 = yw_no x1 x2 x3 η
    subst e4
    subst e5
    subst eη1
    subst e6
    subst e7
    subst e8
    subst eη2
    subst e9
    subst e10
    subst e11
    subst eη3
    subst e12
    subst e13
    subst eη4
    subst e14
    subst e15
    exact ⟨rfl, rfl⟩
set_option maxHeartbeats 8000000 in
theorem zhs_noted {ro : Nat → List Int32} : zMet pr_P pr_K pr_df ro (sm_X0 1 6) 0 206 tm_hs [(.inr (.inr (.inl (nat_lit 0)))), (.inl (nat_lit 1, (.ofNat (nat_lit 0)))), (.inl (nat_lit 2, (.ofNat (nat_lit 0)))), (.inl (nat_lit 3, (.ofNat (nat_lit 0))))] 1 [(nat_lit 0, nat_lit 0, nat_lit 1), (nat_lit 0, nat_lit 3, nat_lit 2), (nat_lit 0, nat_lit 20, nat_lit 3), (nat_lit 0, nat_lit 21, nat_lit 4), (nat_lit 0, nat_lit 22, nat_lit 5), (nat_lit 0, nat_lit 23, nat_lit 6), (nat_lit 0, nat_lit 24, nat_lit 7), (nat_lit 0, nat_lit 25, nat_lit 8), (nat_lit 0, nat_lit 26, nat_lit 9), (nat_lit 0, nat_lit 27, nat_lit 10), (nat_lit 0, nat_lit 28, nat_lit 11), (nat_lit 0, nat_lit 29, nat_lit 12), (nat_lit 0, nat_lit 30, nat_lit 13), (nat_lit 0, nat_lit 31, nat_lit 14), (nat_lit 0, nat_lit 32, nat_lit 15), (nat_lit 0, nat_lit 33, nat_lit 16), (nat_lit 0, nat_lit 34, nat_lit 17), (nat_lit 0, nat_lit 35, nat_lit 18), (nat_lit 0, nat_lit 36, nat_lit 19), (nat_lit 0, nat_lit 37, nat_lit 20), (nat_lit 0, nat_lit 38, nat_lit 21), (nat_lit 0, nat_lit 39, nat_lit 22), (nat_lit 0, nat_lit 40, nat_lit 23), (nat_lit 0, nat_lit 47, nat_lit 24), (nat_lit 0, nat_lit 48, nat_lit 25), (nat_lit 0, nat_lit 50, nat_lit 26), (nat_lit 0, nat_lit 51, nat_lit 27), (nat_lit 0, nat_lit 52, nat_lit 28), (nat_lit 0, nat_lit 53, nat_lit 29), (nat_lit 0, nat_lit 54, nat_lit 30), (nat_lit 0, nat_lit 55, nat_lit 31), (nat_lit 0, nat_lit 56, nat_lit 32), (nat_lit 0, nat_lit 57, nat_lit 33), (nat_lit 0, nat_lit 58, nat_lit 34), (nat_lit 0, nat_lit 59, nat_lit 35), (nat_lit 0, nat_lit 72, nat_lit 36), (nat_lit 0, nat_lit 73, nat_lit 37), (nat_lit 0, nat_lit 76, nat_lit 38), (nat_lit 0, nat_lit 77, nat_lit 39), (nat_lit 0, nat_lit 79, nat_lit 40), (nat_lit 0, nat_lit 81, nat_lit 41), (nat_lit 0, nat_lit 82, nat_lit 42)] [] (fun xs η => sP wl_hs zTr zPhs_noted xs η ∧ pPhs_noted xs η) (fun xs η y η' => sQ wl_hs zTr zOhs_noted zMhs_noted xs η y η' ∧ pQhs_noted xs η y η') :=
  zmet_alt (zmea_gen (mi := (nat_lit 3, nat_lit 1, nat_lit 8, nat_lit 4, nat_lit 1, tX8_noted)) (cd := []) (cu := []) (cs := []) (iv := zVhs_noted) (po := [zOhs_noted]) (pr := zPhs_noted) (mods := zMhs_noted) (D7 := zDhs_noted) (D0 := zEhs_noted) (Dm := zFhs_noted) (f0 := 43) pChs_noted qChs_noted iChs_noted pPhs_noted (fun xs η _ y η' => pQhs_noted xs η y η') zX_low pr_mtR rfl (fun _ h => nomatch h) (by decide +kernel) (by decide +kernel) (by decide +kernel)
    (by
      intro xs η hr hl hp hpp
      match xs, hl, hp, hpp with
      | [x1, x2, x3], _, hp, hpp =>
        refine List.forall_mem_cons.mpr ⟨?_, fun _ h => nomatch h⟩
        · refine zden_L (n := 4) (ρ := [x3, x2, x1, 0]) rfl ?_
          exact zhs_noted_o0 (ro := ro) x1 x2 x3 η hp hpp
      )
    (fun _ _ _ _ _ _ _ h => nomatch h)
    (fun _ h => nomatch h))
def zPhs_tape : zPq := ([((.negSucc (nat_lit 2147483647)), (.ofNat (nat_lit 2147483647))), ((.negSucc (nat_lit 2147483647)), (.ofNat (nat_lit 2147483647))), ((.ofNat (nat_lit 0)), (.ofNat (nat_lit 1)))], [])
def zOhs_tape : zPo := (((.negSucc (nat_lit 2147483647)), (.ofNat (nat_lit 2147483647))), [], [])
def zMhs_tape : List zCe := [(nat_lit 0, nat_lit 3), (nat_lit 0, nat_lit 75), (nat_lit 38, nat_lit 0)]
def pPhs_tape : List Int → zE → Prop := fun _ _ => True
def oQhs_tape : List Int → zE → Int → zE → Prop := fun _ _ _ _ => True
def fQhs_tape : List Int → zE → Int → zE → Prop := fun xs η y η' => y = (yw_tp (xs.getD 0 0) (xs.getD 1 0) (xs.getD 2 0) (zup η 0 2 0)).1 ∧ η' = (yw_tp (xs.getD 0 0) (xs.getD 1 0) (xs.getD 2 0) (zup η 0 2 0)).2
def pQhs_tape : List Int → zE → Int → zE → Prop := fun xs η y η' => oQhs_tape xs η y η' ∧ fQhs_tape xs η y η'
def pChs_tape : Nat → List Int → zE → Prop := fun c => match c with
  | 0 => pPhs_isIn
  | 1 => pPhs_isGroove
  | 2 => pPhs_noted
  | _ => fun _ _ => True
def qChs_tape : Nat → List Int → zE → Int → zE → Prop := fun c => match c with
  | 0 => pQhs_isIn
  | 1 => pQhs_isGroove
  | 2 => pQhs_noted
  | _ => fun _ _ _ _ => True
def iChs_tape : List Int → zE → Nat → List Int → zE → Prop := fun xs η0 c => match c with
  | _ => fun _ _ => True
def zVhs_tape : List zIv := []
def zDhs_tape : List (List zK) := []
def zEhs_tape : List (List zK) := [[(nat_lit 11, nat_lit 0, [(nat_lit 0, (.negSucc (nat_lit 0)))]), (nat_lit 6, nat_lit 0, [(nat_lit 4, (.ofNat (nat_lit 0))), (nat_lit 0, (.ofNat (nat_lit 24)))]), (nat_lit 4, nat_lit 0, [(nat_lit 0, (.ofNat (nat_lit 0))), (nat_lit 0, (.ofNat (nat_lit 74)))]), (nat_lit 5, nat_lit 0, [(nat_lit 0, (.ofNat (nat_lit 0))), (nat_lit 0, (.ofNat (nat_lit 2))), (nat_lit 0, (.ofNat (nat_lit 0)))])],
  [(nat_lit 13, nat_lit 0, [(nat_lit 1, (.ofNat (nat_lit 0))), (nat_lit 0, (.ofNat (nat_lit 1))), (nat_lit 0, (.ofNat (nat_lit 60)))]), (nat_lit 6, nat_lit 1, [(nat_lit 4, (.ofNat (nat_lit 0))), (nat_lit 0, (.ofNat (nat_lit 24)))]), (nat_lit 4, nat_lit 0, [(nat_lit 0, (.ofNat (nat_lit 0))), (nat_lit 0, (.ofNat (nat_lit 74)))]), (nat_lit 5, nat_lit 0, [(nat_lit 0, (.ofNat (nat_lit 0))), (nat_lit 0, (.ofNat (nat_lit 2))), (nat_lit 0, (.ofNat (nat_lit 0)))])],
  [(nat_lit 11, nat_lit 0, [(nat_lit 0, (.negSucc (nat_lit 0)))]), (nat_lit 6, nat_lit 0, [(nat_lit 5, (.ofNat (nat_lit 0))), (nat_lit 0, (.ofNat (nat_lit 0)))]), (nat_lit 8, nat_lit 0, [(nat_lit 1, (.ofNat (nat_lit 0))), (nat_lit 0, (.ofNat (nat_lit 1))), (nat_lit 0, (.ofNat (nat_lit 60)))]), (nat_lit 6, nat_lit 1, [(nat_lit 4, (.ofNat (nat_lit 0))), (nat_lit 0, (.ofNat (nat_lit 24)))]), (nat_lit 4, nat_lit 0, [(nat_lit 0, (.ofNat (nat_lit 0))), (nat_lit 0, (.ofNat (nat_lit 74)))]), (nat_lit 5, nat_lit 0, [(nat_lit 0, (.ofNat (nat_lit 0))), (nat_lit 0, (.ofNat (nat_lit 2))), (nat_lit 0, (.ofNat (nat_lit 0)))])],
  [(nat_lit 13, nat_lit 1, [(nat_lit 2, (.ofNat (nat_lit 0)))]), (nat_lit 6, nat_lit 1, [(nat_lit 5, (.ofNat (nat_lit 0))), (nat_lit 0, (.ofNat (nat_lit 0)))]), (nat_lit 8, nat_lit 0, [(nat_lit 1, (.ofNat (nat_lit 0))), (nat_lit 0, (.ofNat (nat_lit 1))), (nat_lit 0, (.ofNat (nat_lit 60)))]), (nat_lit 6, nat_lit 1, [(nat_lit 4, (.ofNat (nat_lit 0))), (nat_lit 0, (.ofNat (nat_lit 24)))]), (nat_lit 4, nat_lit 0, [(nat_lit 0, (.ofNat (nat_lit 0))), (nat_lit 0, (.ofNat (nat_lit 74)))]), (nat_lit 5, nat_lit 0, [(nat_lit 0, (.ofNat (nat_lit 0))), (nat_lit 0, (.ofNat (nat_lit 2))), (nat_lit 0, (.ofNat (nat_lit 0)))])],
  [(nat_lit 13, nat_lit 2, [(nat_lit 1, (.ofNat (nat_lit 0))), (nat_lit 2, (.ofNat (nat_lit 0))), (nat_lit 0, (.ofNat (nat_lit 0)))]), (nat_lit 6, nat_lit 0, [(nat_lit 3, (.ofNat (nat_lit 0))), (nat_lit 0, (.ofNat (nat_lit 0)))]), (nat_lit 6, nat_lit 1, [(nat_lit 6, (.ofNat (nat_lit 0))), (nat_lit 0, (.ofNat (nat_lit 0)))]), (nat_lit 8, nat_lit 1, [(nat_lit 2, (.ofNat (nat_lit 0)))]), (nat_lit 6, nat_lit 1, [(nat_lit 5, (.ofNat (nat_lit 0))), (nat_lit 0, (.ofNat (nat_lit 0)))]), (nat_lit 8, nat_lit 0, [(nat_lit 1, (.ofNat (nat_lit 0))), (nat_lit 0, (.ofNat (nat_lit 1))), (nat_lit 0, (.ofNat (nat_lit 60)))]), (nat_lit 6, nat_lit 1, [(nat_lit 4, (.ofNat (nat_lit 0))), (nat_lit 0, (.ofNat (nat_lit 24)))]), (nat_lit 4, nat_lit 0, [(nat_lit 0, (.ofNat (nat_lit 0))), (nat_lit 0, (.ofNat (nat_lit 74)))]), (nat_lit 5, nat_lit 0, [(nat_lit 0, (.ofNat (nat_lit 0))), (nat_lit 0, (.ofNat (nat_lit 2))), (nat_lit 0, (.ofNat (nat_lit 0)))])],
  [(nat_lit 11, nat_lit 0, [(nat_lit 7, (.ofNat (nat_lit 0)))]), (nat_lit 8, nat_lit 2, [(nat_lit 1, (.ofNat (nat_lit 0))), (nat_lit 2, (.ofNat (nat_lit 0))), (nat_lit 0, (.ofNat (nat_lit 0)))]), (nat_lit 6, nat_lit 0, [(nat_lit 3, (.ofNat (nat_lit 0))), (nat_lit 0, (.ofNat (nat_lit 0)))]), (nat_lit 6, nat_lit 1, [(nat_lit 6, (.ofNat (nat_lit 0))), (nat_lit 0, (.ofNat (nat_lit 0)))]), (nat_lit 8, nat_lit 1, [(nat_lit 2, (.ofNat (nat_lit 0)))]), (nat_lit 6, nat_lit 1, [(nat_lit 5, (.ofNat (nat_lit 0))), (nat_lit 0, (.ofNat (nat_lit 0)))]), (nat_lit 8, nat_lit 0, [(nat_lit 1, (.ofNat (nat_lit 0))), (nat_lit 0, (.ofNat (nat_lit 1))), (nat_lit 0, (.ofNat (nat_lit 60)))]), (nat_lit 6, nat_lit 1, [(nat_lit 4, (.ofNat (nat_lit 0))), (nat_lit 0, (.ofNat (nat_lit 24)))]), (nat_lit 4, nat_lit 0, [(nat_lit 0, (.ofNat (nat_lit 0))), (nat_lit 0, (.ofNat (nat_lit 74)))]), (nat_lit 5, nat_lit 0, [(nat_lit 0, (.ofNat (nat_lit 0))), (nat_lit 0, (.ofNat (nat_lit 2))), (nat_lit 0, (.ofNat (nat_lit 0)))])],
  [(nat_lit 13, nat_lit 2, [(nat_lit 1, (.ofNat (nat_lit 0))), (nat_lit 2, (.ofNat (nat_lit 0))), (nat_lit 0, (.ofNat (nat_lit 1)))]), (nat_lit 6, nat_lit 1, [(nat_lit 3, (.ofNat (nat_lit 0))), (nat_lit 0, (.ofNat (nat_lit 0)))]), (nat_lit 6, nat_lit 1, [(nat_lit 6, (.ofNat (nat_lit 0))), (nat_lit 0, (.ofNat (nat_lit 0)))]), (nat_lit 8, nat_lit 1, [(nat_lit 2, (.ofNat (nat_lit 0)))]), (nat_lit 6, nat_lit 1, [(nat_lit 5, (.ofNat (nat_lit 0))), (nat_lit 0, (.ofNat (nat_lit 0)))]), (nat_lit 8, nat_lit 0, [(nat_lit 1, (.ofNat (nat_lit 0))), (nat_lit 0, (.ofNat (nat_lit 1))), (nat_lit 0, (.ofNat (nat_lit 60)))]), (nat_lit 6, nat_lit 1, [(nat_lit 4, (.ofNat (nat_lit 0))), (nat_lit 0, (.ofNat (nat_lit 24)))]), (nat_lit 4, nat_lit 0, [(nat_lit 0, (.ofNat (nat_lit 0))), (nat_lit 0, (.ofNat (nat_lit 74)))]), (nat_lit 5, nat_lit 0, [(nat_lit 0, (.ofNat (nat_lit 0))), (nat_lit 0, (.ofNat (nat_lit 2))), (nat_lit 0, (.ofNat (nat_lit 0)))])],
  [(nat_lit 11, nat_lit 0, [(nat_lit 7, (.ofNat (nat_lit 0)))]), (nat_lit 8, nat_lit 2, [(nat_lit 1, (.ofNat (nat_lit 0))), (nat_lit 2, (.ofNat (nat_lit 0))), (nat_lit 0, (.ofNat (nat_lit 1)))]), (nat_lit 6, nat_lit 1, [(nat_lit 3, (.ofNat (nat_lit 0))), (nat_lit 0, (.ofNat (nat_lit 0)))]), (nat_lit 6, nat_lit 1, [(nat_lit 6, (.ofNat (nat_lit 0))), (nat_lit 0, (.ofNat (nat_lit 0)))]), (nat_lit 8, nat_lit 1, [(nat_lit 2, (.ofNat (nat_lit 0)))]), (nat_lit 6, nat_lit 1, [(nat_lit 5, (.ofNat (nat_lit 0))), (nat_lit 0, (.ofNat (nat_lit 0)))]), (nat_lit 8, nat_lit 0, [(nat_lit 1, (.ofNat (nat_lit 0))), (nat_lit 0, (.ofNat (nat_lit 1))), (nat_lit 0, (.ofNat (nat_lit 60)))]), (nat_lit 6, nat_lit 1, [(nat_lit 4, (.ofNat (nat_lit 0))), (nat_lit 0, (.ofNat (nat_lit 24)))]), (nat_lit 4, nat_lit 0, [(nat_lit 0, (.ofNat (nat_lit 0))), (nat_lit 0, (.ofNat (nat_lit 74)))]), (nat_lit 5, nat_lit 0, [(nat_lit 0, (.ofNat (nat_lit 0))), (nat_lit 0, (.ofNat (nat_lit 2))), (nat_lit 0, (.ofNat (nat_lit 0)))])],
  [(nat_lit 11, nat_lit 0, [(nat_lit 0, (.negSucc (nat_lit 0)))]), (nat_lit 6, nat_lit 0, [(nat_lit 6, (.ofNat (nat_lit 0))), (nat_lit 0, (.ofNat (nat_lit 0)))]), (nat_lit 8, nat_lit 1, [(nat_lit 2, (.ofNat (nat_lit 0)))]), (nat_lit 6, nat_lit 1, [(nat_lit 5, (.ofNat (nat_lit 0))), (nat_lit 0, (.ofNat (nat_lit 0)))]), (nat_lit 8, nat_lit 0, [(nat_lit 1, (.ofNat (nat_lit 0))), (nat_lit 0, (.ofNat (nat_lit 1))), (nat_lit 0, (.ofNat (nat_lit 60)))]), (nat_lit 6, nat_lit 1, [(nat_lit 4, (.ofNat (nat_lit 0))), (nat_lit 0, (.ofNat (nat_lit 24)))]), (nat_lit 4, nat_lit 0, [(nat_lit 0, (.ofNat (nat_lit 0))), (nat_lit 0, (.ofNat (nat_lit 74)))]), (nat_lit 5, nat_lit 0, [(nat_lit 0, (.ofNat (nat_lit 0))), (nat_lit 0, (.ofNat (nat_lit 2))), (nat_lit 0, (.ofNat (nat_lit 0)))])]]
def zFhs_tape : List (List zK) := []
set_option maxHeartbeats 8000000 in
theorem zhs_tape_o0 {ro : Nat → List Int32} (x1 x2 x3 : Int) (η : zE) (hp : sP wl_hs zTr zPhs_tape [x1, x2, x3] η) (hpp : pPhs_tape [x1, x2, x3] η) : ∀ η1 : zE, η1 = zup η 0 (Int.toNat 2) 0 → ∀ x4 : Int, x4 = η1 0 (Int.toNat 74) → zok 0 x4 → (x4 = 24) → (fun (_ : Nat) (y : Int) (η' : zE) => pQhs_tape [x1, x2, x3] η y η') 0 (-1) η1 := by
  intro η1 eη1 x4 e4 r4 c1
  refine yj_a ?_ ?_
  · exact trivial
  · have eη1 : η1 = zup η 0 2 0 := eη1
    have e4 : x4 = η1 0 74 := e4
    show (-1) = (yw_tp x1 x2 x3 (zup η 0 2 0)).1 ∧ η1 = (yw_tp x1 x2 x3 (zup η 0 2 0)).2
    simp only [yw_tp, ← eη1, ← e4]
    all_goals ((repeat' split) <;> first | (exfalso; omega) | exact ⟨rfl, rfl⟩ | exact ⟨rfl, trivial⟩ | rfl)
set_option maxHeartbeats 8000000 in
theorem zhs_tape_o1 {ro : Nat → List Int32} (x1 x2 x3 : Int) (η : zE) (hp : sP wl_hs zTr zPhs_tape [x1, x2, x3] η) (hpp : pPhs_tape [x1, x2, x3] η) : ∀ η1 : zE, η1 = zup η 0 (Int.toNat 2) 0 → ∀ x4 : Int, x4 = η1 0 (Int.toNat 74) → zok 0 x4 → (¬ x4 = 24) → ∀ (x5 : Int) (η2 : zE), ((gC2 wl_hs [(nat_lit 0, zPhs_isIn, zOhs_isIn, zMhs_isIn), (nat_lit 1, zPhs_isGroove, zOhs_isGroove, zMhs_isGroove), (nat_lit 2, zPhs_noted, zOhs_noted, zMhs_noted)] pChs_tape qChs_tape) 0).2 [x1, 1, 60] η1 x5 η2 → (x5 = 0) → (fun (_ : Nat) (y : Int) (η' : zE) => pQhs_tape [x1, x2, x3] η y η') 0 (-1) η2 := by
  intro η1 eη1 x4 e4 r4 c1 x5 η2 h5 c2
  have y5 : fQhs_isIn [x1, 1, 60] η1 x5 η2 := h5.2.2
  have k5 : sQ wl_hs zTr zOhs_isIn zMhs_isIn [x1, 1, 60] η1 x5 η2 ∧ oQhs_isIn [x1, 1, 60] η1 x5 η2 := ⟨h5.1, h5.2.1⟩
  refine yj_a ?_ ?_
  · have y5 : fQhs_isIn [x1, 1, 60] η1 x5 η2 := h5.2.2
    have k5 : sQ wl_hs zTr zOhs_isIn zMhs_isIn [x1, 1, 60] η1 x5 η2 ∧ oQhs_isIn [x1, 1, 60] η1 x5 η2 := ⟨h5.1, h5.2.1⟩
    exact trivial
  · have eη1 : η1 = zup η 0 2 0 := eη1
    have e4 : x4 = η1 0 74 := e4
    obtain ⟨a5, b5⟩ : x5 = (yq_in x1 1 60) ∧ η1 = η2 := ⟨y5.1, y5.2.symm⟩
    subst b5
    show (-1) = (yw_tp x1 x2 x3 (zup η 0 2 0)).1 ∧ η1 = (yw_tp x1 x2 x3 (zup η 0 2 0)).2
    simp only [yw_tp, ← eη1, ← e4, ← a5]
    all_goals ((repeat' split) <;> first | (exfalso; omega) | exact ⟨rfl, rfl⟩ | exact ⟨rfl, trivial⟩ | rfl)
set_option maxHeartbeats 8000000 in
theorem zhs_tape_o2 {ro : Nat → List Int32} (x1 x2 x3 : Int) (η : zE) (hp : sP wl_hs zTr zPhs_tape [x1, x2, x3] η) (hpp : pPhs_tape [x1, x2, x3] η) : ∀ η1 : zE, η1 = zup η 0 (Int.toNat 2) 0 → ∀ x4 : Int, x4 = η1 0 (Int.toNat 74) → zok 0 x4 → (¬ x4 = 24) → ∀ (x5 : Int) (η2 : zE), ((gC2 wl_hs [(nat_lit 0, zPhs_isIn, zOhs_isIn, zMhs_isIn), (nat_lit 1, zPhs_isGroove, zOhs_isGroove, zMhs_isGroove), (nat_lit 2, zPhs_noted, zOhs_noted, zMhs_noted)] pChs_tape qChs_tape) 0).2 [x1, 1, 60] η1 x5 η2 → (¬ x5 = 0) → ((gC2 wl_hs [(nat_lit 0, zPhs_isIn, zOhs_isIn, zMhs_isIn), (nat_lit 1, zPhs_isGroove, zOhs_isGroove, zMhs_isGroove), (nat_lit 2, zPhs_noted, zOhs_noted, zMhs_noted)] pChs_tape qChs_tape) 1).1 [x2] η2 := by
  intro η1 eη1 x4 e4 r4 c1 x5 η2 h5 c2
  have y5 : fQhs_isIn [x1, 1, 60] η1 x5 η2 := h5.2.2
  have k5 : sQ wl_hs zTr zOhs_isIn zMhs_isIn [x1, 1, 60] η1 x5 η2 ∧ oQhs_isIn [x1, 1, 60] η1 x5 η2 := ⟨h5.1, h5.2.1⟩
  exact trivial
set_option maxHeartbeats 8000000 in
theorem zhs_tape_o3 {ro : Nat → List Int32} (x1 x2 x3 : Int) (η : zE) (hp : sP wl_hs zTr zPhs_tape [x1, x2, x3] η) (hpp : pPhs_tape [x1, x2, x3] η) : ∀ η1 : zE, η1 = zup η 0 (Int.toNat 2) 0 → ∀ x4 : Int, x4 = η1 0 (Int.toNat 74) → zok 0 x4 → (¬ x4 = 24) → ∀ (x5 : Int) (η2 : zE), ((gC2 wl_hs [(nat_lit 0, zPhs_isIn, zOhs_isIn, zMhs_isIn), (nat_lit 1, zPhs_isGroove, zOhs_isGroove, zMhs_isGroove), (nat_lit 2, zPhs_noted, zOhs_noted, zMhs_noted)] pChs_tape qChs_tape) 0).2 [x1, 1, 60] η1 x5 η2 → (¬ x5 = 0) → ∀ (x6 : Int) (η3 : zE), ((gC2 wl_hs [(nat_lit 0, zPhs_isIn, zOhs_isIn, zMhs_isIn), (nat_lit 1, zPhs_isGroove, zOhs_isGroove, zMhs_isGroove), (nat_lit 2, zPhs_noted, zOhs_noted, zMhs_noted)] pChs_tape qChs_tape) 1).2 [x2] η2 x6 η3 → (¬ x6 = 0) → (x3 = 0) → ((gC2 wl_hs [(nat_lit 0, zPhs_isIn, zOhs_isIn, zMhs_isIn), (nat_lit 1, zPhs_isGroove, zOhs_isGroove, zMhs_isGroove), (nat_lit 2, zPhs_noted, zOhs_noted, zMhs_noted)] pChs_tape qChs_tape) 2).1 [x1, x2, 0] η3 := by
  intro η1 eη1 x4 e4 r4 c1 x5 η2 h5 c2 x6 η3 h6 c3 c4
  have y5 : fQhs_isIn [x1, 1, 60] η1 x5 η2 := h5.2.2
  have k5 : sQ wl_hs zTr zOhs_isIn zMhs_isIn [x1, 1, 60] η1 x5 η2 ∧ oQhs_isIn [x1, 1, 60] η1 x5 η2 := ⟨h5.1, h5.2.1⟩
  have y6 : fQhs_isGroove [x2] η2 x6 η3 := h6.2.2
  have k6 : sQ wl_hs zTr zOhs_isGroove zMhs_isGroove [x2] η2 x6 η3 ∧ oQhs_isGroove [x2] η2 x6 η3 := ⟨h6.1, h6.2.1⟩
  exact trivial
set_option maxHeartbeats 8000000 in
theorem zhs_tape_o4 {ro : Nat → List Int32} (x1 x2 x3 : Int) (η : zE) (hp : sP wl_hs zTr zPhs_tape [x1, x2, x3] η) (hpp : pPhs_tape [x1, x2, x3] η) : ∀ η1 : zE, η1 = zup η 0 (Int.toNat 2) 0 → ∀ x4 : Int, x4 = η1 0 (Int.toNat 74) → zok 0 x4 → (¬ x4 = 24) → ∀ (x5 : Int) (η2 : zE), ((gC2 wl_hs [(nat_lit 0, zPhs_isIn, zOhs_isIn, zMhs_isIn), (nat_lit 1, zPhs_isGroove, zOhs_isGroove, zMhs_isGroove), (nat_lit 2, zPhs_noted, zOhs_noted, zMhs_noted)] pChs_tape qChs_tape) 0).2 [x1, 1, 60] η1 x5 η2 → (¬ x5 = 0) → ∀ (x6 : Int) (η3 : zE), ((gC2 wl_hs [(nat_lit 0, zPhs_isIn, zOhs_isIn, zMhs_isIn), (nat_lit 1, zPhs_isGroove, zOhs_isGroove, zMhs_isGroove), (nat_lit 2, zPhs_noted, zOhs_noted, zMhs_noted)] pChs_tape qChs_tape) 1).2 [x2] η2 x6 η3 → (¬ x6 = 0) → (x3 = 0) → ∀ (x7 : Int) (η4 : zE), ((gC2 wl_hs [(nat_lit 0, zPhs_isIn, zOhs_isIn, zMhs_isIn), (nat_lit 1, zPhs_isGroove, zOhs_isGroove, zMhs_isGroove), (nat_lit 2, zPhs_noted, zOhs_noted, zMhs_noted)] pChs_tape qChs_tape) 2).2 [x1, x2, 0] η3 x7 η4 → (fun (_ : Nat) (y : Int) (η' : zE) => pQhs_tape [x1, x2, x3] η y η') 0 x7 η4 := by
  intro η1 eη1 x4 e4 r4 c1 x5 η2 h5 c2 x6 η3 h6 c3 c4 x7 η4 h7
  have y5 : fQhs_isIn [x1, 1, 60] η1 x5 η2 := h5.2.2
  have k5 : sQ wl_hs zTr zOhs_isIn zMhs_isIn [x1, 1, 60] η1 x5 η2 ∧ oQhs_isIn [x1, 1, 60] η1 x5 η2 := ⟨h5.1, h5.2.1⟩
  have y6 : fQhs_isGroove [x2] η2 x6 η3 := h6.2.2
  have k6 : sQ wl_hs zTr zOhs_isGroove zMhs_isGroove [x2] η2 x6 η3 ∧ oQhs_isGroove [x2] η2 x6 η3 := ⟨h6.1, h6.2.1⟩
  have y7 : fQhs_noted [x1, x2, 0] η3 x7 η4 := h7.2.2
  have k7 : sQ wl_hs zTr zOhs_noted zMhs_noted [x1, x2, 0] η3 x7 η4 ∧ oQhs_noted [x1, x2, 0] η3 x7 η4 := ⟨h7.1, h7.2.1⟩
  refine yj_a ?_ ?_
  · have y5 : fQhs_isIn [x1, 1, 60] η1 x5 η2 := h5.2.2
    have k5 : sQ wl_hs zTr zOhs_isIn zMhs_isIn [x1, 1, 60] η1 x5 η2 ∧ oQhs_isIn [x1, 1, 60] η1 x5 η2 := ⟨h5.1, h5.2.1⟩
    have y6 : fQhs_isGroove [x2] η2 x6 η3 := h6.2.2
    have k6 : sQ wl_hs zTr zOhs_isGroove zMhs_isGroove [x2] η2 x6 η3 ∧ oQhs_isGroove [x2] η2 x6 η3 := ⟨h6.1, h6.2.1⟩
    have y7 : fQhs_noted [x1, x2, 0] η3 x7 η4 := h7.2.2
    have k7 : sQ wl_hs zTr zOhs_noted zMhs_noted [x1, x2, 0] η3 x7 η4 ∧ oQhs_noted [x1, x2, 0] η3 x7 η4 := ⟨h7.1, h7.2.1⟩
    exact trivial
  · have eη1 : η1 = zup η 0 2 0 := eη1
    have e4 : x4 = η1 0 74 := e4
    obtain ⟨a5, b5⟩ : x5 = (yq_in x1 1 60) ∧ η1 = η2 := ⟨y5.1, y5.2.symm⟩
    subst b5
    obtain ⟨a6, b6⟩ : x6 = (yw_ig x2 η1) ∧ η1 = η3 := ⟨y6.1, y6.2.symm⟩
    subst b6
    obtain ⟨a7, b7⟩ : x7 = (yw_ny η1) ∧ η4 = (yw_no x1 x2 0 η1) := y7
    show x7 = (yw_tp x1 x2 x3 (zup η 0 2 0)).1 ∧ η4 = (yw_tp x1 x2 x3 (zup η 0 2 0)).2
    simp only [yw_tp, ← eη1, ← e4, ← a5, ← a6, ← a7, ← b7]
    all_goals ((repeat' split) <;> first | (exfalso; omega) | exact ⟨rfl, rfl⟩ | exact ⟨rfl, trivial⟩ | rfl)
set_option maxHeartbeats 8000000 in
theorem zhs_tape_o5 {ro : Nat → List Int32} (x1 x2 x3 : Int) (η : zE) (hp : sP wl_hs zTr zPhs_tape [x1, x2, x3] η) (hpp : pPhs_tape [x1, x2, x3] η) : ∀ η1 : zE, η1 = zup η 0 (Int.toNat 2) 0 → ∀ x4 : Int, x4 = η1 0 (Int.toNat 74) → zok 0 x4 → (¬ x4 = 24) → ∀ (x5 : Int) (η2 : zE), ((gC2 wl_hs [(nat_lit 0, zPhs_isIn, zOhs_isIn, zMhs_isIn), (nat_lit 1, zPhs_isGroove, zOhs_isGroove, zMhs_isGroove), (nat_lit 2, zPhs_noted, zOhs_noted, zMhs_noted)] pChs_tape qChs_tape) 0).2 [x1, 1, 60] η1 x5 η2 → (¬ x5 = 0) → ∀ (x6 : Int) (η3 : zE), ((gC2 wl_hs [(nat_lit 0, zPhs_isIn, zOhs_isIn, zMhs_isIn), (nat_lit 1, zPhs_isGroove, zOhs_isGroove, zMhs_isGroove), (nat_lit 2, zPhs_noted, zOhs_noted, zMhs_noted)] pChs_tape qChs_tape) 1).2 [x2] η2 x6 η3 → (¬ x6 = 0) → (¬ x3 = 0) → ((gC2 wl_hs [(nat_lit 0, zPhs_isIn, zOhs_isIn, zMhs_isIn), (nat_lit 1, zPhs_isGroove, zOhs_isGroove, zMhs_isGroove), (nat_lit 2, zPhs_noted, zOhs_noted, zMhs_noted)] pChs_tape qChs_tape) 2).1 [x1, x2, 1] η3 := by
  intro η1 eη1 x4 e4 r4 c1 x5 η2 h5 c2 x6 η3 h6 c3 c4
  have y5 : fQhs_isIn [x1, 1, 60] η1 x5 η2 := h5.2.2
  have k5 : sQ wl_hs zTr zOhs_isIn zMhs_isIn [x1, 1, 60] η1 x5 η2 ∧ oQhs_isIn [x1, 1, 60] η1 x5 η2 := ⟨h5.1, h5.2.1⟩
  have y6 : fQhs_isGroove [x2] η2 x6 η3 := h6.2.2
  have k6 : sQ wl_hs zTr zOhs_isGroove zMhs_isGroove [x2] η2 x6 η3 ∧ oQhs_isGroove [x2] η2 x6 η3 := ⟨h6.1, h6.2.1⟩
  exact trivial
set_option maxHeartbeats 8000000 in
theorem zhs_tape_o6 {ro : Nat → List Int32} (x1 x2 x3 : Int) (η : zE) (hp : sP wl_hs zTr zPhs_tape [x1, x2, x3] η) (hpp : pPhs_tape [x1, x2, x3] η) : ∀ η1 : zE, η1 = zup η 0 (Int.toNat 2) 0 → ∀ x4 : Int, x4 = η1 0 (Int.toNat 74) → zok 0 x4 → (¬ x4 = 24) → ∀ (x5 : Int) (η2 : zE), ((gC2 wl_hs [(nat_lit 0, zPhs_isIn, zOhs_isIn, zMhs_isIn), (nat_lit 1, zPhs_isGroove, zOhs_isGroove, zMhs_isGroove), (nat_lit 2, zPhs_noted, zOhs_noted, zMhs_noted)] pChs_tape qChs_tape) 0).2 [x1, 1, 60] η1 x5 η2 → (¬ x5 = 0) → ∀ (x6 : Int) (η3 : zE), ((gC2 wl_hs [(nat_lit 0, zPhs_isIn, zOhs_isIn, zMhs_isIn), (nat_lit 1, zPhs_isGroove, zOhs_isGroove, zMhs_isGroove), (nat_lit 2, zPhs_noted, zOhs_noted, zMhs_noted)] pChs_tape qChs_tape) 1).2 [x2] η2 x6 η3 → (¬ x6 = 0) → (¬ x3 = 0) → ∀ (x7 : Int) (η4 : zE), ((gC2 wl_hs [(nat_lit 0, zPhs_isIn, zOhs_isIn, zMhs_isIn), (nat_lit 1, zPhs_isGroove, zOhs_isGroove, zMhs_isGroove), (nat_lit 2, zPhs_noted, zOhs_noted, zMhs_noted)] pChs_tape qChs_tape) 2).2 [x1, x2, 1] η3 x7 η4 → (fun (_ : Nat) (y : Int) (η' : zE) => pQhs_tape [x1, x2, x3] η y η') 0 x7 η4 := by
  intro η1 eη1 x4 e4 r4 c1 x5 η2 h5 c2 x6 η3 h6 c3 c4 x7 η4 h7
  have y5 : fQhs_isIn [x1, 1, 60] η1 x5 η2 := h5.2.2
  have k5 : sQ wl_hs zTr zOhs_isIn zMhs_isIn [x1, 1, 60] η1 x5 η2 ∧ oQhs_isIn [x1, 1, 60] η1 x5 η2 := ⟨h5.1, h5.2.1⟩
  have y6 : fQhs_isGroove [x2] η2 x6 η3 := h6.2.2
  have k6 : sQ wl_hs zTr zOhs_isGroove zMhs_isGroove [x2] η2 x6 η3 ∧ oQhs_isGroove [x2] η2 x6 η3 := ⟨h6.1, h6.2.1⟩
  have y7 : fQhs_noted [x1, x2, 1] η3 x7 η4 := h7.2.2
  have k7 : sQ wl_hs zTr zOhs_noted zMhs_noted [x1, x2, 1] η3 x7 η4 ∧ oQhs_noted [x1, x2, 1] η3 x7 η4 := ⟨h7.1, h7.2.1⟩
  refine yj_a ?_ ?_
  · have y5 : fQhs_isIn [x1, 1, 60] η1 x5 η2 := h5.2.2
    have k5 : sQ wl_hs zTr zOhs_isIn zMhs_isIn [x1, 1, 60] η1 x5 η2 ∧ oQhs_isIn [x1, 1, 60] η1 x5 η2 := ⟨h5.1, h5.2.1⟩
    have y6 : fQhs_isGroove [x2] η2 x6 η3 := h6.2.2
    have k6 : sQ wl_hs zTr zOhs_isGroove zMhs_isGroove [x2] η2 x6 η3 ∧ oQhs_isGroove [x2] η2 x6 η3 := ⟨h6.1, h6.2.1⟩
    have y7 : fQhs_noted [x1, x2, 1] η3 x7 η4 := h7.2.2
    have k7 : sQ wl_hs zTr zOhs_noted zMhs_noted [x1, x2, 1] η3 x7 η4 ∧ oQhs_noted [x1, x2, 1] η3 x7 η4 := ⟨h7.1, h7.2.1⟩
    exact trivial
  · have eη1 : η1 = zup η 0 2 0 := eη1
    have e4 : x4 = η1 0 74 := e4
    obtain ⟨a5, b5⟩ : x5 = (yq_in x1 1 60) ∧ η1 = η2 := ⟨y5.1, y5.2.symm⟩
    subst b5
    obtain ⟨a6, b6⟩ : x6 = (yw_ig x2 η1) ∧ η1 = η3 := ⟨y6.1, y6.2.symm⟩
    subst b6
    obtain ⟨a7, b7⟩ : x7 = (yw_ny η1) ∧ η4 = (yw_no x1 x2 1 η1) := y7
    show x7 = (yw_tp x1 x2 x3 (zup η 0 2 0)).1 ∧ η4 = (yw_tp x1 x2 x3 (zup η 0 2 0)).2
    simp only [yw_tp, ← eη1, ← e4, ← a5, ← a6, ← a7, ← b7]
    all_goals ((repeat' split) <;> first | (exfalso; omega) | exact ⟨rfl, rfl⟩ | exact ⟨rfl, trivial⟩ | rfl)
set_option maxHeartbeats 8000000 in
theorem zhs_tape_o7 {ro : Nat → List Int32} (x1 x2 x3 : Int) (η : zE) (hp : sP wl_hs zTr zPhs_tape [x1, x2, x3] η) (hpp : pPhs_tape [x1, x2, x3] η) : ∀ η1 : zE, η1 = zup η 0 (Int.toNat 2) 0 → ∀ x4 : Int, x4 = η1 0 (Int.toNat 74) → zok 0 x4 → (¬ x4 = 24) → ∀ (x5 : Int) (η2 : zE), ((gC2 wl_hs [(nat_lit 0, zPhs_isIn, zOhs_isIn, zMhs_isIn), (nat_lit 1, zPhs_isGroove, zOhs_isGroove, zMhs_isGroove), (nat_lit 2, zPhs_noted, zOhs_noted, zMhs_noted)] pChs_tape qChs_tape) 0).2 [x1, 1, 60] η1 x5 η2 → (¬ x5 = 0) → ∀ (x6 : Int) (η3 : zE), ((gC2 wl_hs [(nat_lit 0, zPhs_isIn, zOhs_isIn, zMhs_isIn), (nat_lit 1, zPhs_isGroove, zOhs_isGroove, zMhs_isGroove), (nat_lit 2, zPhs_noted, zOhs_noted, zMhs_noted)] pChs_tape qChs_tape) 1).2 [x2] η2 x6 η3 → (x6 = 0) → (fun (_ : Nat) (y : Int) (η' : zE) => pQhs_tape [x1, x2, x3] η y η') 0 (-1) η3 := by
  intro η1 eη1 x4 e4 r4 c1 x5 η2 h5 c2 x6 η3 h6 c3
  have y5 : fQhs_isIn [x1, 1, 60] η1 x5 η2 := h5.2.2
  have k5 : sQ wl_hs zTr zOhs_isIn zMhs_isIn [x1, 1, 60] η1 x5 η2 ∧ oQhs_isIn [x1, 1, 60] η1 x5 η2 := ⟨h5.1, h5.2.1⟩
  have y6 : fQhs_isGroove [x2] η2 x6 η3 := h6.2.2
  have k6 : sQ wl_hs zTr zOhs_isGroove zMhs_isGroove [x2] η2 x6 η3 ∧ oQhs_isGroove [x2] η2 x6 η3 := ⟨h6.1, h6.2.1⟩
  refine yj_a ?_ ?_
  · have y5 : fQhs_isIn [x1, 1, 60] η1 x5 η2 := h5.2.2
    have k5 : sQ wl_hs zTr zOhs_isIn zMhs_isIn [x1, 1, 60] η1 x5 η2 ∧ oQhs_isIn [x1, 1, 60] η1 x5 η2 := ⟨h5.1, h5.2.1⟩
    have y6 : fQhs_isGroove [x2] η2 x6 η3 := h6.2.2
    have k6 : sQ wl_hs zTr zOhs_isGroove zMhs_isGroove [x2] η2 x6 η3 ∧ oQhs_isGroove [x2] η2 x6 η3 := ⟨h6.1, h6.2.1⟩
    exact trivial
  · have eη1 : η1 = zup η 0 2 0 := eη1
    have e4 : x4 = η1 0 74 := e4
    obtain ⟨a5, b5⟩ : x5 = (yq_in x1 1 60) ∧ η1 = η2 := ⟨y5.1, y5.2.symm⟩
    subst b5
    obtain ⟨a6, b6⟩ : x6 = (yw_ig x2 η1) ∧ η1 = η3 := ⟨y6.1, y6.2.symm⟩
    subst b6
    show (-1) = (yw_tp x1 x2 x3 (zup η 0 2 0)).1 ∧ η1 = (yw_tp x1 x2 x3 (zup η 0 2 0)).2
    simp only [yw_tp, ← eη1, ← e4, ← a5, ← a6]
    all_goals ((repeat' split) <;> first | (exfalso; omega) | exact ⟨rfl, rfl⟩ | exact ⟨rfl, trivial⟩ | rfl)
set_option maxHeartbeats 8000000 in
theorem zhs_tape {ro : Nat → List Int32} : zMet pr_P pr_K pr_df ro (sm_X0 1 6) 1 207 tm_hs [(.inr (.inr (.inl (nat_lit 0)))), (.inl (nat_lit 1, (.ofNat (nat_lit 0)))), (.inl (nat_lit 2, (.ofNat (nat_lit 0)))), (.inl (nat_lit 3, (.ofNat (nat_lit 0))))] 1 [(nat_lit 0, nat_lit 0, nat_lit 1), (nat_lit 0, nat_lit 3, nat_lit 2), (nat_lit 0, nat_lit 20, nat_lit 3), (nat_lit 0, nat_lit 21, nat_lit 4), (nat_lit 0, nat_lit 22, nat_lit 5), (nat_lit 0, nat_lit 23, nat_lit 6), (nat_lit 0, nat_lit 24, nat_lit 7), (nat_lit 0, nat_lit 25, nat_lit 8), (nat_lit 0, nat_lit 26, nat_lit 9), (nat_lit 0, nat_lit 27, nat_lit 10), (nat_lit 0, nat_lit 28, nat_lit 11), (nat_lit 0, nat_lit 29, nat_lit 12), (nat_lit 0, nat_lit 30, nat_lit 13), (nat_lit 0, nat_lit 31, nat_lit 14), (nat_lit 0, nat_lit 32, nat_lit 15), (nat_lit 0, nat_lit 33, nat_lit 16), (nat_lit 0, nat_lit 34, nat_lit 17), (nat_lit 0, nat_lit 35, nat_lit 18), (nat_lit 0, nat_lit 36, nat_lit 19), (nat_lit 0, nat_lit 37, nat_lit 20), (nat_lit 0, nat_lit 38, nat_lit 21), (nat_lit 0, nat_lit 39, nat_lit 22), (nat_lit 0, nat_lit 40, nat_lit 23), (nat_lit 0, nat_lit 47, nat_lit 24), (nat_lit 0, nat_lit 48, nat_lit 25), (nat_lit 0, nat_lit 50, nat_lit 26), (nat_lit 0, nat_lit 51, nat_lit 27), (nat_lit 0, nat_lit 52, nat_lit 28), (nat_lit 0, nat_lit 53, nat_lit 29), (nat_lit 0, nat_lit 54, nat_lit 30), (nat_lit 0, nat_lit 55, nat_lit 31), (nat_lit 0, nat_lit 56, nat_lit 32), (nat_lit 0, nat_lit 57, nat_lit 33), (nat_lit 0, nat_lit 58, nat_lit 34), (nat_lit 0, nat_lit 59, nat_lit 35), (nat_lit 0, nat_lit 72, nat_lit 36), (nat_lit 0, nat_lit 73, nat_lit 37), (nat_lit 0, nat_lit 76, nat_lit 38), (nat_lit 0, nat_lit 77, nat_lit 39), (nat_lit 0, nat_lit 79, nat_lit 40), (nat_lit 0, nat_lit 81, nat_lit 41), (nat_lit 0, nat_lit 82, nat_lit 42)] [] (fun xs η => sP wl_hs zTr zPhs_tape xs η ∧ pPhs_tape xs η) (fun xs η y η' => sQ wl_hs zTr zOhs_tape zMhs_tape xs η y η' ∧ pQhs_tape xs η y η') :=
  zmet_alt (zmea_gen (mi := (nat_lit 3, nat_lit 1, nat_lit 8, nat_lit 4, nat_lit 1, tX8_tape)) (cd := [(nat_lit 117, nat_lit 0, nat_lit 0, [(.inl (nat_lit 1, (.ofNat (nat_lit 0)))), (.inl (nat_lit 2, (.ofNat (nat_lit 0)))), (.inl (nat_lit 3, (.ofNat (nat_lit 0))))], nat_lit 2, [], []), (nat_lit 158, nat_lit 1, nat_lit 0, [(.inr (.inr (.inl (nat_lit 0)))), (.inl (nat_lit 1, (.ofNat (nat_lit 0))))], nat_lit 2, [(nat_lit 0, nat_lit 0, nat_lit 1), (nat_lit 0, nat_lit 3, nat_lit 2), (nat_lit 0, nat_lit 20, nat_lit 3), (nat_lit 0, nat_lit 21, nat_lit 4), (nat_lit 0, nat_lit 22, nat_lit 5), (nat_lit 0, nat_lit 23, nat_lit 6), (nat_lit 0, nat_lit 24, nat_lit 7), (nat_lit 0, nat_lit 25, nat_lit 8), (nat_lit 0, nat_lit 26, nat_lit 9), (nat_lit 0, nat_lit 27, nat_lit 10), (nat_lit 0, nat_lit 28, nat_lit 11), (nat_lit 0, nat_lit 29, nat_lit 12), (nat_lit 0, nat_lit 30, nat_lit 13), (nat_lit 0, nat_lit 31, nat_lit 14), (nat_lit 0, nat_lit 32, nat_lit 15), (nat_lit 0, nat_lit 33, nat_lit 16), (nat_lit 0, nat_lit 34, nat_lit 17), (nat_lit 0, nat_lit 35, nat_lit 18), (nat_lit 0, nat_lit 36, nat_lit 19), (nat_lit 0, nat_lit 37, nat_lit 20), (nat_lit 0, nat_lit 38, nat_lit 21), (nat_lit 0, nat_lit 39, nat_lit 22), (nat_lit 0, nat_lit 40, nat_lit 23), (nat_lit 0, nat_lit 47, nat_lit 24), (nat_lit 0, nat_lit 48, nat_lit 25), (nat_lit 0, nat_lit 50, nat_lit 26), (nat_lit 0, nat_lit 51, nat_lit 27), (nat_lit 0, nat_lit 52, nat_lit 28), (nat_lit 0, nat_lit 53, nat_lit 29), (nat_lit 0, nat_lit 54, nat_lit 30), (nat_lit 0, nat_lit 55, nat_lit 31), (nat_lit 0, nat_lit 56, nat_lit 32), (nat_lit 0, nat_lit 57, nat_lit 33), (nat_lit 0, nat_lit 58, nat_lit 34), (nat_lit 0, nat_lit 59, nat_lit 35), (nat_lit 0, nat_lit 72, nat_lit 36), (nat_lit 0, nat_lit 73, nat_lit 37), (nat_lit 0, nat_lit 76, nat_lit 38), (nat_lit 0, nat_lit 77, nat_lit 39), (nat_lit 0, nat_lit 79, nat_lit 40), (nat_lit 0, nat_lit 81, nat_lit 41), (nat_lit 0, nat_lit 82, nat_lit 42)], []), (nat_lit 206, nat_lit 2, nat_lit 0, [(.inr (.inr (.inl (nat_lit 0)))), (.inl (nat_lit 1, (.ofNat (nat_lit 0)))), (.inl (nat_lit 2, (.ofNat (nat_lit 0)))), (.inl (nat_lit 3, (.ofNat (nat_lit 0))))], nat_lit 1, [(nat_lit 0, nat_lit 0, nat_lit 1), (nat_lit 0, nat_lit 3, nat_lit 2), (nat_lit 0, nat_lit 20, nat_lit 3), (nat_lit 0, nat_lit 21, nat_lit 4), (nat_lit 0, nat_lit 22, nat_lit 5), (nat_lit 0, nat_lit 23, nat_lit 6), (nat_lit 0, nat_lit 24, nat_lit 7), (nat_lit 0, nat_lit 25, nat_lit 8), (nat_lit 0, nat_lit 26, nat_lit 9), (nat_lit 0, nat_lit 27, nat_lit 10), (nat_lit 0, nat_lit 28, nat_lit 11), (nat_lit 0, nat_lit 29, nat_lit 12), (nat_lit 0, nat_lit 30, nat_lit 13), (nat_lit 0, nat_lit 31, nat_lit 14), (nat_lit 0, nat_lit 32, nat_lit 15), (nat_lit 0, nat_lit 33, nat_lit 16), (nat_lit 0, nat_lit 34, nat_lit 17), (nat_lit 0, nat_lit 35, nat_lit 18), (nat_lit 0, nat_lit 36, nat_lit 19), (nat_lit 0, nat_lit 37, nat_lit 20), (nat_lit 0, nat_lit 38, nat_lit 21), (nat_lit 0, nat_lit 39, nat_lit 22), (nat_lit 0, nat_lit 40, nat_lit 23), (nat_lit 0, nat_lit 47, nat_lit 24), (nat_lit 0, nat_lit 48, nat_lit 25), (nat_lit 0, nat_lit 50, nat_lit 26), (nat_lit 0, nat_lit 51, nat_lit 27), (nat_lit 0, nat_lit 52, nat_lit 28), (nat_lit 0, nat_lit 53, nat_lit 29), (nat_lit 0, nat_lit 54, nat_lit 30), (nat_lit 0, nat_lit 55, nat_lit 31), (nat_lit 0, nat_lit 56, nat_lit 32), (nat_lit 0, nat_lit 57, nat_lit 33), (nat_lit 0, nat_lit 58, nat_lit 34), (nat_lit 0, nat_lit 59, nat_lit 35), (nat_lit 0, nat_lit 72, nat_lit 36), (nat_lit 0, nat_lit 73, nat_lit 37), (nat_lit 0, nat_lit 76, nat_lit 38), (nat_lit 0, nat_lit 77, nat_lit 39), (nat_lit 0, nat_lit 79, nat_lit 40), (nat_lit 0, nat_lit 81, nat_lit 41), (nat_lit 0, nat_lit 82, nat_lit 42)], [])]) (cu := []) (cs := [(nat_lit 0, zPhs_isIn, zOhs_isIn, zMhs_isIn), (nat_lit 1, zPhs_isGroove, zOhs_isGroove, zMhs_isGroove), (nat_lit 2, zPhs_noted, zOhs_noted, zMhs_noted)]) (iv := zVhs_tape) (po := [zOhs_tape]) (pr := zPhs_tape) (mods := zMhs_tape) (D7 := zDhs_tape) (D0 := zEhs_tape) (Dm := zFhs_tape) (f0 := 29) pChs_tape qChs_tape iChs_tape pPhs_tape (fun xs η _ y η' => pQhs_tape xs η y η') zX_low pr_mtR rfl (List.forall_mem_cons.mpr ⟨zhs_isIn, List.forall_mem_cons.mpr ⟨zhs_isGroove, List.forall_mem_cons.mpr ⟨zhs_noted, fun _ h => nomatch h⟩⟩⟩) (by decide +kernel) (by decide +kernel) (by decide +kernel)
    (by
      intro xs η hr hl hp hpp
      match xs, hl, hp, hpp with
      | [x1, x2, x3], _, hp, hpp =>
        refine List.forall_mem_cons.mpr ⟨?_, List.forall_mem_cons.mpr ⟨?_, List.forall_mem_cons.mpr ⟨?_, List.forall_mem_cons.mpr ⟨?_, List.forall_mem_cons.mpr ⟨?_, List.forall_mem_cons.mpr ⟨?_, List.forall_mem_cons.mpr ⟨?_, List.forall_mem_cons.mpr ⟨?_, List.forall_mem_cons.mpr ⟨?_, fun _ h => nomatch h⟩⟩⟩⟩⟩⟩⟩⟩⟩
        · refine zden_L (n := 4) (ρ := [x3, x2, x1, 0]) rfl ?_
          exact zhs_tape_o0 (ro := ro) x1 x2 x3 η hp hpp
        · refine zden_L (n := 4) (ρ := [x3, x2, x1, 0]) rfl ?_
          show ∀ η1 : zE, η1 = zup η 0 (Int.toNat 2) 0 → ∀ x4 : Int, x4 = η1 0 (Int.toNat 74) → zok 0 x4 → (¬ x4 = 24) → ((gC2 wl_hs [(nat_lit 0, zPhs_isIn, zOhs_isIn, zMhs_isIn), (nat_lit 1, zPhs_isGroove, zOhs_isGroove, zMhs_isGroove), (nat_lit 2, zPhs_noted, zOhs_noted, zMhs_noted)] pChs_tape qChs_tape) 0).1 [x1, 1, 60] η1
          intro η1 eη1 x4 e4 r4 c1
          exact trivial
        · refine zden_L (n := 4) (ρ := [x3, x2, x1, 0]) rfl ?_
          exact zhs_tape_o1 (ro := ro) x1 x2 x3 η hp hpp
        · refine zden_L (n := 4) (ρ := [x3, x2, x1, 0]) rfl ?_
          exact zhs_tape_o2 (ro := ro) x1 x2 x3 η hp hpp
        · refine zden_L (n := 4) (ρ := [x3, x2, x1, 0]) rfl ?_
          exact zhs_tape_o3 (ro := ro) x1 x2 x3 η hp hpp
        · refine zden_L (n := 4) (ρ := [x3, x2, x1, 0]) rfl ?_
          exact zhs_tape_o4 (ro := ro) x1 x2 x3 η hp hpp
        · refine zden_L (n := 4) (ρ := [x3, x2, x1, 0]) rfl ?_
          exact zhs_tape_o5 (ro := ro) x1 x2 x3 η hp hpp
        · refine zden_L (n := 4) (ρ := [x3, x2, x1, 0]) rfl ?_
          exact zhs_tape_o6 (ro := ro) x1 x2 x3 η hp hpp
        · refine zden_L (n := 4) (ρ := [x3, x2, x1, 0]) rfl ?_
          exact zhs_tape_o7 (ro := ro) x1 x2 x3 η hp hpp
      )
    (fun _ _ _ _ _ _ _ h => nomatch h)
    (fun _ h => nomatch h))
def zPhs_strike : zPq := ([((.negSucc (nat_lit 2147483647)), (.ofNat (nat_lit 2147483647)))], [])
def zOhs_strike : zPo := (((.negSucc (nat_lit 2147483647)), (.ofNat (nat_lit 2147483647))), [], [])
def zMhs_strike : List zCe := [(nat_lit 0, nat_lit 3), (nat_lit 0, nat_lit 75), (nat_lit 38, nat_lit 0)]
def pPhs_strike : List Int → zE → Prop := fun _ _ => True
def oQhs_strike : List Int → zE → Int → zE → Prop := fun _ _ _ _ => True
def fQhs_strike : List Int → zE → Int → zE → Prop := fun xs η y η' => y = (yw_sk (xs.getD 0 0) (zup η 0 2 0)).1 ∧ η' = (yw_sk (xs.getD 0 0) (zup η 0 2 0)).2
def pQhs_strike : List Int → zE → Int → zE → Prop := fun xs η y η' => oQhs_strike xs η y η' ∧ fQhs_strike xs η y η'
def pChs_strike : Nat → List Int → zE → Prop := fun c => match c with
  | 0 => pPhs_noted
  | _ => fun _ _ => True
def qChs_strike : Nat → List Int → zE → Int → zE → Prop := fun c => match c with
  | 0 => pQhs_noted
  | _ => fun _ _ _ _ => True
def iChs_strike : List Int → zE → Nat → List Int → zE → Prop := fun xs η0 c => match c with
  | _ => fun _ _ => True
def zVhs_strike : List zIv := []
def zDhs_strike : List (List zK) := []
def zEhs_strike : List (List zK) := [[(nat_lit 11, nat_lit 0, [(nat_lit 0, (.negSucc (nat_lit 0)))]), (nat_lit 6, nat_lit 0, [(nat_lit 2, (.ofNat (nat_lit 0))), (nat_lit 0, (.ofNat (nat_lit 24)))]), (nat_lit 4, nat_lit 0, [(nat_lit 0, (.ofNat (nat_lit 0))), (nat_lit 0, (.ofNat (nat_lit 74)))]), (nat_lit 5, nat_lit 0, [(nat_lit 0, (.ofNat (nat_lit 0))), (nat_lit 0, (.ofNat (nat_lit 2))), (nat_lit 0, (.ofNat (nat_lit 0)))])],
  [(nat_lit 11, nat_lit 0, [(nat_lit 0, (.negSucc (nat_lit 0)))]), (nat_lit 6, nat_lit 2, [(nat_lit 1, (.ofNat (nat_lit 0))), (nat_lit 0, (.ofNat (nat_lit 0)))]), (nat_lit 6, nat_lit 1, [(nat_lit 2, (.ofNat (nat_lit 0))), (nat_lit 0, (.ofNat (nat_lit 24)))]), (nat_lit 4, nat_lit 0, [(nat_lit 0, (.ofNat (nat_lit 0))), (nat_lit 0, (.ofNat (nat_lit 74)))]), (nat_lit 5, nat_lit 0, [(nat_lit 0, (.ofNat (nat_lit 0))), (nat_lit 0, (.ofNat (nat_lit 2))), (nat_lit 0, (.ofNat (nat_lit 0)))])],
  [(nat_lit 13, nat_lit 0, [(nat_lit 0, (.negSucc (nat_lit 0))), (nat_lit 1, (.ofNat (nat_lit 0))), (nat_lit 0, (.ofNat (nat_lit 0)))]), (nat_lit 6, nat_lit 2, [(nat_lit 1, (.ofNat (nat_lit 0))), (nat_lit 3, (.ofNat (nat_lit 0)))]), (nat_lit 4, nat_lit 0, [(nat_lit 0, (.ofNat (nat_lit 0))), (nat_lit 0, (.ofNat (nat_lit 74)))]), (nat_lit 6, nat_lit 3, [(nat_lit 1, (.ofNat (nat_lit 0))), (nat_lit 0, (.ofNat (nat_lit 0)))]), (nat_lit 6, nat_lit 1, [(nat_lit 2, (.ofNat (nat_lit 0))), (nat_lit 0, (.ofNat (nat_lit 24)))]), (nat_lit 4, nat_lit 0, [(nat_lit 0, (.ofNat (nat_lit 0))), (nat_lit 0, (.ofNat (nat_lit 74)))]), (nat_lit 5, nat_lit 0, [(nat_lit 0, (.ofNat (nat_lit 0))), (nat_lit 0, (.ofNat (nat_lit 2))), (nat_lit 0, (.ofNat (nat_lit 0)))])],
  [(nat_lit 11, nat_lit 0, [(nat_lit 4, (.ofNat (nat_lit 0)))]), (nat_lit 8, nat_lit 0, [(nat_lit 0, (.negSucc (nat_lit 0))), (nat_lit 1, (.ofNat (nat_lit 0))), (nat_lit 0, (.ofNat (nat_lit 0)))]), (nat_lit 6, nat_lit 2, [(nat_lit 1, (.ofNat (nat_lit 0))), (nat_lit 3, (.ofNat (nat_lit 0)))]), (nat_lit 4, nat_lit 0, [(nat_lit 0, (.ofNat (nat_lit 0))), (nat_lit 0, (.ofNat (nat_lit 74)))]), (nat_lit 6, nat_lit 3, [(nat_lit 1, (.ofNat (nat_lit 0))), (nat_lit 0, (.ofNat (nat_lit 0)))]), (nat_lit 6, nat_lit 1, [(nat_lit 2, (.ofNat (nat_lit 0))), (nat_lit 0, (.ofNat (nat_lit 24)))]), (nat_lit 4, nat_lit 0, [(nat_lit 0, (.ofNat (nat_lit 0))), (nat_lit 0, (.ofNat (nat_lit 74)))]), (nat_lit 5, nat_lit 0, [(nat_lit 0, (.ofNat (nat_lit 0))), (nat_lit 0, (.ofNat (nat_lit 2))), (nat_lit 0, (.ofNat (nat_lit 0)))])],
  [(nat_lit 11, nat_lit 0, [(nat_lit 0, (.negSucc (nat_lit 0)))]), (nat_lit 6, nat_lit 3, [(nat_lit 1, (.ofNat (nat_lit 0))), (nat_lit 3, (.ofNat (nat_lit 0)))]), (nat_lit 4, nat_lit 0, [(nat_lit 0, (.ofNat (nat_lit 0))), (nat_lit 0, (.ofNat (nat_lit 74)))]), (nat_lit 6, nat_lit 3, [(nat_lit 1, (.ofNat (nat_lit 0))), (nat_lit 0, (.ofNat (nat_lit 0)))]), (nat_lit 6, nat_lit 1, [(nat_lit 2, (.ofNat (nat_lit 0))), (nat_lit 0, (.ofNat (nat_lit 24)))]), (nat_lit 4, nat_lit 0, [(nat_lit 0, (.ofNat (nat_lit 0))), (nat_lit 0, (.ofNat (nat_lit 74)))]), (nat_lit 5, nat_lit 0, [(nat_lit 0, (.ofNat (nat_lit 0))), (nat_lit 0, (.ofNat (nat_lit 2))), (nat_lit 0, (.ofNat (nat_lit 0)))])]]
def zFhs_strike : List (List zK) := []
set_option maxHeartbeats 8000000 in
theorem zhs_strike_o0 {ro : Nat → List Int32} (x1 : Int) (η : zE) (hp : sP wl_hs zTr zPhs_strike [x1] η) (hpp : pPhs_strike [x1] η) : ∀ η1 : zE, η1 = zup η 0 (Int.toNat 2) 0 → ∀ x2 : Int, x2 = η1 0 (Int.toNat 74) → zok 0 x2 → (x2 = 24) → (fun (_ : Nat) (y : Int) (η' : zE) => pQhs_strike [x1] η y η') 0 (-1) η1 := by
  intro η1 eη1 x2 e2 r2 c1
  refine yj_a ?_ ?_
  · exact trivial
  · have eη1 : η1 = zup η 0 2 0 := eη1
    have e2 : x2 = η1 0 74 := e2
    show (-1) = (yw_sk x1 (zup η 0 2 0)).1 ∧ η1 = (yw_sk x1 (zup η 0 2 0)).2
    simp only [yw_sk, ← eη1, ← e2]
    all_goals ((repeat' split) <;> first | (exfalso; omega) | exact ⟨rfl, rfl⟩ | exact ⟨rfl, trivial⟩ | rfl)
set_option maxHeartbeats 8000000 in
theorem zhs_strike_o1 {ro : Nat → List Int32} (x1 : Int) (η : zE) (hp : sP wl_hs zTr zPhs_strike [x1] η) (hpp : pPhs_strike [x1] η) : ∀ η1 : zE, η1 = zup η 0 (Int.toNat 2) 0 → ∀ x2 : Int, x2 = η1 0 (Int.toNat 74) → zok 0 x2 → (¬ x2 = 24) → (x1 < 0) → (fun (_ : Nat) (y : Int) (η' : zE) => pQhs_strike [x1] η y η') 0 (-1) η1 := by
  intro η1 eη1 x2 e2 r2 c1 c2
  refine yj_a ?_ ?_
  · exact trivial
  · have eη1 : η1 = zup η 0 2 0 := eη1
    have e2 : x2 = η1 0 74 := e2
    show (-1) = (yw_sk x1 (zup η 0 2 0)).1 ∧ η1 = (yw_sk x1 (zup η 0 2 0)).2
    simp only [yw_sk, ← eη1, ← e2]
    all_goals ((repeat' split) <;> first | (exfalso; omega) | exact ⟨rfl, rfl⟩ | exact ⟨rfl, trivial⟩ | rfl)
set_option maxHeartbeats 8000000 in
theorem zhs_strike_o2 {ro : Nat → List Int32} (x1 : Int) (η : zE) (hp : sP wl_hs zTr zPhs_strike [x1] η) (hpp : pPhs_strike [x1] η) : ∀ η1 : zE, η1 = zup η 0 (Int.toNat 2) 0 → ∀ x2 : Int, x2 = η1 0 (Int.toNat 74) → zok 0 x2 → (¬ x2 = 24) → (0 ≤ x1) → ∀ x3 : Int, x3 = η1 0 (Int.toNat 74) → zok 0 x3 → (x1 < x3) → ∀ (x4 : Int) (η2 : zE), ((gC2 wl_hs [(nat_lit 0, zPhs_noted, zOhs_noted, zMhs_noted)] pChs_strike qChs_strike) 0).2 [(-1), x1, 0] η1 x4 η2 → (fun (_ : Nat) (y : Int) (η' : zE) => pQhs_strike [x1] η y η') 0 x4 η2 := by
  intro η1 eη1 x2 e2 r2 c1 c2 x3 e3 r3 c3 x4 η2 h4
  have y4 : fQhs_noted [(-1), x1, 0] η1 x4 η2 := h4.2.2
  have k4 : sQ wl_hs zTr zOhs_noted zMhs_noted [(-1), x1, 0] η1 x4 η2 ∧ oQhs_noted [(-1), x1, 0] η1 x4 η2 := ⟨h4.1, h4.2.1⟩
  refine yj_a ?_ ?_
  · have y4 : fQhs_noted [(-1), x1, 0] η1 x4 η2 := h4.2.2
    have k4 : sQ wl_hs zTr zOhs_noted zMhs_noted [(-1), x1, 0] η1 x4 η2 ∧ oQhs_noted [(-1), x1, 0] η1 x4 η2 := ⟨h4.1, h4.2.1⟩
    exact trivial
  · have eη1 : η1 = zup η 0 2 0 := eη1
    have e2 : x2 = η1 0 74 := e2
    have e3 : x3 = η1 0 74 := e3
    have f3 : x2 = x3 := e2.trans e3.symm
    subst f3
    obtain ⟨a4, b4⟩ : x4 = (yw_ny η1) ∧ η2 = (yw_no (-1) x1 0 η1) := y4
    show x4 = (yw_sk x1 (zup η 0 2 0)).1 ∧ η2 = (yw_sk x1 (zup η 0 2 0)).2
    simp only [yw_sk, ← eη1, ← e2, ← a4, ← b4]
    all_goals ((repeat' split) <;> first | (exfalso; omega) | exact ⟨rfl, rfl⟩ | exact ⟨rfl, trivial⟩ | rfl)
set_option maxHeartbeats 8000000 in
theorem zhs_strike_o3 {ro : Nat → List Int32} (x1 : Int) (η : zE) (hp : sP wl_hs zTr zPhs_strike [x1] η) (hpp : pPhs_strike [x1] η) : ∀ η1 : zE, η1 = zup η 0 (Int.toNat 2) 0 → ∀ x2 : Int, x2 = η1 0 (Int.toNat 74) → zok 0 x2 → (¬ x2 = 24) → (0 ≤ x1) → ∀ x3 : Int, x3 = η1 0 (Int.toNat 74) → zok 0 x3 → (x3 ≤ x1) → (fun (_ : Nat) (y : Int) (η' : zE) => pQhs_strike [x1] η y η') 0 (-1) η1 := by
  intro η1 eη1 x2 e2 r2 c1 c2 x3 e3 r3 c3
  refine yj_a ?_ ?_
  · exact trivial
  · have eη1 : η1 = zup η 0 2 0 := eη1
    have e2 : x2 = η1 0 74 := e2
    have e3 : x3 = η1 0 74 := e3
    have f3 : x2 = x3 := e2.trans e3.symm
    subst f3
    show (-1) = (yw_sk x1 (zup η 0 2 0)).1 ∧ η1 = (yw_sk x1 (zup η 0 2 0)).2
    simp only [yw_sk, ← eη1, ← e2]
    all_goals ((repeat' split) <;> first | (exfalso; omega) | exact ⟨rfl, rfl⟩ | exact ⟨rfl, trivial⟩ | rfl)
set_option maxHeartbeats 8000000 in
theorem zhs_strike {ro : Nat → List Int32} : zMet pr_P pr_K pr_df ro (sm_X0 1 6) 1 208 tm_hs [(.inr (.inr (.inl (nat_lit 0)))), (.inl (nat_lit 1, (.ofNat (nat_lit 0))))] 1 [(nat_lit 0, nat_lit 0, nat_lit 1), (nat_lit 0, nat_lit 3, nat_lit 2), (nat_lit 0, nat_lit 20, nat_lit 3), (nat_lit 0, nat_lit 21, nat_lit 4), (nat_lit 0, nat_lit 22, nat_lit 5), (nat_lit 0, nat_lit 23, nat_lit 6), (nat_lit 0, nat_lit 24, nat_lit 7), (nat_lit 0, nat_lit 25, nat_lit 8), (nat_lit 0, nat_lit 26, nat_lit 9), (nat_lit 0, nat_lit 27, nat_lit 10), (nat_lit 0, nat_lit 28, nat_lit 11), (nat_lit 0, nat_lit 29, nat_lit 12), (nat_lit 0, nat_lit 30, nat_lit 13), (nat_lit 0, nat_lit 31, nat_lit 14), (nat_lit 0, nat_lit 32, nat_lit 15), (nat_lit 0, nat_lit 33, nat_lit 16), (nat_lit 0, nat_lit 34, nat_lit 17), (nat_lit 0, nat_lit 35, nat_lit 18), (nat_lit 0, nat_lit 36, nat_lit 19), (nat_lit 0, nat_lit 37, nat_lit 20), (nat_lit 0, nat_lit 38, nat_lit 21), (nat_lit 0, nat_lit 39, nat_lit 22), (nat_lit 0, nat_lit 40, nat_lit 23), (nat_lit 0, nat_lit 47, nat_lit 24), (nat_lit 0, nat_lit 48, nat_lit 25), (nat_lit 0, nat_lit 50, nat_lit 26), (nat_lit 0, nat_lit 51, nat_lit 27), (nat_lit 0, nat_lit 52, nat_lit 28), (nat_lit 0, nat_lit 53, nat_lit 29), (nat_lit 0, nat_lit 54, nat_lit 30), (nat_lit 0, nat_lit 55, nat_lit 31), (nat_lit 0, nat_lit 56, nat_lit 32), (nat_lit 0, nat_lit 57, nat_lit 33), (nat_lit 0, nat_lit 58, nat_lit 34), (nat_lit 0, nat_lit 59, nat_lit 35), (nat_lit 0, nat_lit 72, nat_lit 36), (nat_lit 0, nat_lit 73, nat_lit 37), (nat_lit 0, nat_lit 76, nat_lit 38), (nat_lit 0, nat_lit 77, nat_lit 39), (nat_lit 0, nat_lit 79, nat_lit 40), (nat_lit 0, nat_lit 81, nat_lit 41), (nat_lit 0, nat_lit 82, nat_lit 42)] [] (fun xs η => sP wl_hs zTr zPhs_strike xs η ∧ pPhs_strike xs η) (fun xs η y η' => sQ wl_hs zTr zOhs_strike zMhs_strike xs η y η' ∧ pQhs_strike xs η y η') :=
  zmet_alt (zmea_gen (mi := (nat_lit 1, nat_lit 1, nat_lit 8, nat_lit 2, nat_lit 1, tX8_strike)) (cd := [(nat_lit 206, nat_lit 0, nat_lit 0, [(.inr (.inr (.inl (nat_lit 0)))), (.inl (nat_lit 1, (.ofNat (nat_lit 0)))), (.inl (nat_lit 2, (.ofNat (nat_lit 0)))), (.inl (nat_lit 3, (.ofNat (nat_lit 0))))], nat_lit 1, [(nat_lit 0, nat_lit 0, nat_lit 1), (nat_lit 0, nat_lit 3, nat_lit 2), (nat_lit 0, nat_lit 20, nat_lit 3), (nat_lit 0, nat_lit 21, nat_lit 4), (nat_lit 0, nat_lit 22, nat_lit 5), (nat_lit 0, nat_lit 23, nat_lit 6), (nat_lit 0, nat_lit 24, nat_lit 7), (nat_lit 0, nat_lit 25, nat_lit 8), (nat_lit 0, nat_lit 26, nat_lit 9), (nat_lit 0, nat_lit 27, nat_lit 10), (nat_lit 0, nat_lit 28, nat_lit 11), (nat_lit 0, nat_lit 29, nat_lit 12), (nat_lit 0, nat_lit 30, nat_lit 13), (nat_lit 0, nat_lit 31, nat_lit 14), (nat_lit 0, nat_lit 32, nat_lit 15), (nat_lit 0, nat_lit 33, nat_lit 16), (nat_lit 0, nat_lit 34, nat_lit 17), (nat_lit 0, nat_lit 35, nat_lit 18), (nat_lit 0, nat_lit 36, nat_lit 19), (nat_lit 0, nat_lit 37, nat_lit 20), (nat_lit 0, nat_lit 38, nat_lit 21), (nat_lit 0, nat_lit 39, nat_lit 22), (nat_lit 0, nat_lit 40, nat_lit 23), (nat_lit 0, nat_lit 47, nat_lit 24), (nat_lit 0, nat_lit 48, nat_lit 25), (nat_lit 0, nat_lit 50, nat_lit 26), (nat_lit 0, nat_lit 51, nat_lit 27), (nat_lit 0, nat_lit 52, nat_lit 28), (nat_lit 0, nat_lit 53, nat_lit 29), (nat_lit 0, nat_lit 54, nat_lit 30), (nat_lit 0, nat_lit 55, nat_lit 31), (nat_lit 0, nat_lit 56, nat_lit 32), (nat_lit 0, nat_lit 57, nat_lit 33), (nat_lit 0, nat_lit 58, nat_lit 34), (nat_lit 0, nat_lit 59, nat_lit 35), (nat_lit 0, nat_lit 72, nat_lit 36), (nat_lit 0, nat_lit 73, nat_lit 37), (nat_lit 0, nat_lit 76, nat_lit 38), (nat_lit 0, nat_lit 77, nat_lit 39), (nat_lit 0, nat_lit 79, nat_lit 40), (nat_lit 0, nat_lit 81, nat_lit 41), (nat_lit 0, nat_lit 82, nat_lit 42)], [])]) (cu := []) (cs := [(nat_lit 0, zPhs_noted, zOhs_noted, zMhs_noted)]) (iv := zVhs_strike) (po := [zOhs_strike]) (pr := zPhs_strike) (mods := zMhs_strike) (D7 := zDhs_strike) (D0 := zEhs_strike) (Dm := zFhs_strike) (f0 := 23) pChs_strike qChs_strike iChs_strike pPhs_strike (fun xs η _ y η' => pQhs_strike xs η y η') zX_low pr_mtR rfl (List.forall_mem_cons.mpr ⟨zhs_noted, fun _ h => nomatch h⟩) (by decide +kernel) (by decide +kernel) (by decide +kernel)
    (by
      intro xs η hr hl hp hpp
      match xs, hl, hp, hpp with
      | [x1], _, hp, hpp =>
        refine List.forall_mem_cons.mpr ⟨?_, List.forall_mem_cons.mpr ⟨?_, List.forall_mem_cons.mpr ⟨?_, List.forall_mem_cons.mpr ⟨?_, List.forall_mem_cons.mpr ⟨?_, fun _ h => nomatch h⟩⟩⟩⟩⟩
        · refine zden_L (n := 2) (ρ := [x1, 0]) rfl ?_
          exact zhs_strike_o0 (ro := ro) x1 η hp hpp
        · refine zden_L (n := 2) (ρ := [x1, 0]) rfl ?_
          exact zhs_strike_o1 (ro := ro) x1 η hp hpp
        · refine zden_L (n := 2) (ρ := [x1, 0]) rfl ?_
          show ∀ η1 : zE, η1 = zup η 0 (Int.toNat 2) 0 → ∀ x2 : Int, x2 = η1 0 (Int.toNat 74) → zok 0 x2 → (¬ x2 = 24) → (0 ≤ x1) → ∀ x3 : Int, x3 = η1 0 (Int.toNat 74) → zok 0 x3 → (x1 < x3) → ((gC2 wl_hs [(nat_lit 0, zPhs_noted, zOhs_noted, zMhs_noted)] pChs_strike qChs_strike) 0).1 [(-1), x1, 0] η1
          intro η1 eη1 x2 e2 r2 c1 c2 x3 e3 r3 c3
          exact trivial
        · refine zden_L (n := 2) (ρ := [x1, 0]) rfl ?_
          exact zhs_strike_o2 (ro := ro) x1 η hp hpp
        · refine zden_L (n := 2) (ρ := [x1, 0]) rfl ?_
          exact zhs_strike_o3 (ro := ro) x1 η hp hpp
      )
    (fun _ _ _ _ _ _ _ h => nomatch h)
    (fun _ h => nomatch h))
def zPhs_known : zPq := ([((.negSucc (nat_lit 2147483647)), (.ofNat (nat_lit 2147483647)))], [])
def zOhs_known : zPo := (((.ofNat (nat_lit 0)), (.ofNat (nat_lit 1))), [], [])
def zMhs_known : List zCe := [(nat_lit 0, nat_lit 3), (nat_lit 0, nat_lit 76)]
def pPhs_known : List Int → zE → Prop := fun _ _ => True
def oQhs_known : List Int → zE → Int → zE → Prop := fun _ _ _ _ => True
def fQhs_known : List Int → zE → Int → zE → Prop := fun xs η y η' => y = (yw_kn (xs.getD 0 0) (zup η 0 2 0)).1 ∧ η' = (yw_kn (xs.getD 0 0) (zup η 0 2 0)).2
def pQhs_known : List Int → zE → Int → zE → Prop := fun xs η y η' => oQhs_known xs η y η' ∧ fQhs_known xs η y η'
def pChs_known : Nat → List Int → zE → Prop := fun c => match c with
  | 0 => pPhs_isIn
  | _ => fun _ _ => True
def qChs_known : Nat → List Int → zE → Int → zE → Prop := fun c => match c with
  | 0 => pQhs_isIn
  | _ => fun _ _ _ _ => True
def iChs_known : List Int → zE → Nat → List Int → zE → Prop := fun xs η0 c => match c with
  | _ => fun _ _ => True
def zVhs_known : List zIv := []
def zDhs_known : List (List zK) := [[(nat_lit 7, nat_lit 2, [(nat_lit 0, (.ofNat (nat_lit 1)))]), (nat_lit 5, nat_lit 0, [(nat_lit 0, (.ofNat (nat_lit 0))), (nat_lit 0, (.ofNat (nat_lit 75))), (nat_lit 1, (.ofNat (nat_lit 0)))]), (nat_lit 6, nat_lit 1, [(nat_lit 3, (.ofNat (nat_lit 0))), (nat_lit 0, (.ofNat (nat_lit 0)))]), (nat_lit 8, nat_lit 0, [(nat_lit 1, (.ofNat (nat_lit 0))), (nat_lit 0, (.negSucc (nat_lit 0))), (nat_lit 2, (.ofNat (nat_lit 0)))]), (nat_lit 4, nat_lit 0, [(nat_lit 0, (.ofNat (nat_lit 0))), (nat_lit 0, (.ofNat (nat_lit 74)))]), (nat_lit 5, nat_lit 0, [(nat_lit 0, (.ofNat (nat_lit 0))), (nat_lit 0, (.ofNat (nat_lit 2))), (nat_lit 0, (.ofNat (nat_lit 0)))])],
  [(nat_lit 7, nat_lit 2, [(nat_lit 0, (.ofNat (nat_lit 0)))]), (nat_lit 6, nat_lit 0, [(nat_lit 3, (.ofNat (nat_lit 0))), (nat_lit 0, (.ofNat (nat_lit 0)))]), (nat_lit 8, nat_lit 0, [(nat_lit 1, (.ofNat (nat_lit 0))), (nat_lit 0, (.negSucc (nat_lit 0))), (nat_lit 2, (.ofNat (nat_lit 0)))]), (nat_lit 4, nat_lit 0, [(nat_lit 0, (.ofNat (nat_lit 0))), (nat_lit 0, (.ofNat (nat_lit 74)))]), (nat_lit 5, nat_lit 0, [(nat_lit 0, (.ofNat (nat_lit 0))), (nat_lit 0, (.ofNat (nat_lit 2))), (nat_lit 0, (.ofNat (nat_lit 0)))])]]
def zEhs_known : List (List zK) := [[(nat_lit 13, nat_lit 0, [(nat_lit 1, (.ofNat (nat_lit 0))), (nat_lit 0, (.negSucc (nat_lit 0))), (nat_lit 2, (.ofNat (nat_lit 0)))]), (nat_lit 4, nat_lit 0, [(nat_lit 0, (.ofNat (nat_lit 0))), (nat_lit 0, (.ofNat (nat_lit 74)))]), (nat_lit 5, nat_lit 0, [(nat_lit 0, (.ofNat (nat_lit 0))), (nat_lit 0, (.ofNat (nat_lit 2))), (nat_lit 0, (.ofNat (nat_lit 0)))])],
  [(nat_lit 11, nat_lit 0, [(nat_lit 0, (.ofNat (nat_lit 1)))]), (nat_lit 5, nat_lit 0, [(nat_lit 0, (.ofNat (nat_lit 0))), (nat_lit 0, (.ofNat (nat_lit 75))), (nat_lit 1, (.ofNat (nat_lit 0)))]), (nat_lit 6, nat_lit 1, [(nat_lit 3, (.ofNat (nat_lit 0))), (nat_lit 0, (.ofNat (nat_lit 0)))]), (nat_lit 8, nat_lit 0, [(nat_lit 1, (.ofNat (nat_lit 0))), (nat_lit 0, (.negSucc (nat_lit 0))), (nat_lit 2, (.ofNat (nat_lit 0)))]), (nat_lit 4, nat_lit 0, [(nat_lit 0, (.ofNat (nat_lit 0))), (nat_lit 0, (.ofNat (nat_lit 74)))]), (nat_lit 5, nat_lit 0, [(nat_lit 0, (.ofNat (nat_lit 0))), (nat_lit 0, (.ofNat (nat_lit 2))), (nat_lit 0, (.ofNat (nat_lit 0)))])],
  [(nat_lit 11, nat_lit 0, [(nat_lit 0, (.ofNat (nat_lit 0)))]), (nat_lit 6, nat_lit 0, [(nat_lit 3, (.ofNat (nat_lit 0))), (nat_lit 0, (.ofNat (nat_lit 0)))]), (nat_lit 8, nat_lit 0, [(nat_lit 1, (.ofNat (nat_lit 0))), (nat_lit 0, (.negSucc (nat_lit 0))), (nat_lit 2, (.ofNat (nat_lit 0)))]), (nat_lit 4, nat_lit 0, [(nat_lit 0, (.ofNat (nat_lit 0))), (nat_lit 0, (.ofNat (nat_lit 74)))]), (nat_lit 5, nat_lit 0, [(nat_lit 0, (.ofNat (nat_lit 0))), (nat_lit 0, (.ofNat (nat_lit 2))), (nat_lit 0, (.ofNat (nat_lit 0)))])]]
def zFhs_known : List (List zK) := []
set_option maxHeartbeats 8000000 in
theorem zhs_known_o0 {ro : Nat → List Int32} (x1 : Int) (η : zE) (hp : sP wl_hs zTr zPhs_known [x1] η) (hpp : pPhs_known [x1] η) : ∀ η1 : zE, η1 = zup η 0 (Int.toNat 2) 0 → ∀ x2 : Int, x2 = η1 0 (Int.toNat 74) → zok 0 x2 → ∀ (x3 : Int) (η2 : zE), ((gC2 wl_hs [(nat_lit 0, zPhs_isIn, zOhs_isIn, zMhs_isIn)] pChs_known qChs_known) 0).2 [x1, (-1), x2] η1 x3 η2 → (¬ x3 = 0) → ∀ η3 : zE, η3 = zup η2 0 (Int.toNat 75) x1 → (fun (_ : Nat) (y : Int) (η' : zE) => pQhs_known [x1] η y η') 0 1 η3 := by
  intro η1 eη1 x2 e2 r2 x3 η2 h3 c1 η3 eη3
  have y3 : fQhs_isIn [x1, (-1), x2] η1 x3 η2 := h3.2.2
  have k3 : sQ wl_hs zTr zOhs_isIn zMhs_isIn [x1, (-1), x2] η1 x3 η2 ∧ oQhs_isIn [x1, (-1), x2] η1 x3 η2 := ⟨h3.1, h3.2.1⟩
  refine yj_a ?_ ?_
  · have y3 : fQhs_isIn [x1, (-1), x2] η1 x3 η2 := h3.2.2
    have k3 : sQ wl_hs zTr zOhs_isIn zMhs_isIn [x1, (-1), x2] η1 x3 η2 ∧ oQhs_isIn [x1, (-1), x2] η1 x3 η2 := ⟨h3.1, h3.2.1⟩
    exact trivial
  · have eη1 : η1 = zup η 0 2 0 := eη1
    have e2 : x2 = η1 0 74 := e2
    obtain ⟨a3, b3⟩ : x3 = (yq_in x1 (-1) x2) ∧ η1 = η2 := ⟨y3.1, y3.2.symm⟩
    subst b3
    have eη3 : η3 = zup η1 0 75 x1 := eη3
    show 1 = (yw_kn x1 (zup η 0 2 0)).1 ∧ η3 = (yw_kn x1 (zup η 0 2 0)).2
    simp only [yw_kn, ← eη1, ← e2, ← a3, ← eη3]
    all_goals ((repeat' split) <;> first | (exfalso; omega) | exact ⟨rfl, rfl⟩ | exact ⟨rfl, trivial⟩ | rfl)
set_option maxHeartbeats 8000000 in
theorem zhs_known_o1 {ro : Nat → List Int32} (x1 : Int) (η : zE) (hp : sP wl_hs zTr zPhs_known [x1] η) (hpp : pPhs_known [x1] η) : ∀ η1 : zE, η1 = zup η 0 (Int.toNat 2) 0 → ∀ x2 : Int, x2 = η1 0 (Int.toNat 74) → zok 0 x2 → ∀ (x3 : Int) (η2 : zE), ((gC2 wl_hs [(nat_lit 0, zPhs_isIn, zOhs_isIn, zMhs_isIn)] pChs_known qChs_known) 0).2 [x1, (-1), x2] η1 x3 η2 → (x3 = 0) → (fun (_ : Nat) (y : Int) (η' : zE) => pQhs_known [x1] η y η') 0 0 η2 := by
  intro η1 eη1 x2 e2 r2 x3 η2 h3 c1
  have y3 : fQhs_isIn [x1, (-1), x2] η1 x3 η2 := h3.2.2
  have k3 : sQ wl_hs zTr zOhs_isIn zMhs_isIn [x1, (-1), x2] η1 x3 η2 ∧ oQhs_isIn [x1, (-1), x2] η1 x3 η2 := ⟨h3.1, h3.2.1⟩
  refine yj_a ?_ ?_
  · have y3 : fQhs_isIn [x1, (-1), x2] η1 x3 η2 := h3.2.2
    have k3 : sQ wl_hs zTr zOhs_isIn zMhs_isIn [x1, (-1), x2] η1 x3 η2 ∧ oQhs_isIn [x1, (-1), x2] η1 x3 η2 := ⟨h3.1, h3.2.1⟩
    exact trivial
  · have eη1 : η1 = zup η 0 2 0 := eη1
    have e2 : x2 = η1 0 74 := e2
    obtain ⟨a3, b3⟩ : x3 = (yq_in x1 (-1) x2) ∧ η1 = η2 := ⟨y3.1, y3.2.symm⟩
    subst b3
    show 0 = (yw_kn x1 (zup η 0 2 0)).1 ∧ η1 = (yw_kn x1 (zup η 0 2 0)).2
    simp only [yw_kn, ← eη1, ← e2, ← a3]
    all_goals ((repeat' split) <;> first | (exfalso; omega) | exact ⟨rfl, rfl⟩ | exact ⟨rfl, trivial⟩ | rfl)
set_option maxHeartbeats 8000000 in
theorem zhs_known {ro : Nat → List Int32} : zMet pr_P pr_K pr_df ro (sm_X0 1 6) 1 209 tm_hs [(.inr (.inr (.inl (nat_lit 0)))), (.inl (nat_lit 1, (.ofNat (nat_lit 0))))] 2 [(nat_lit 0, nat_lit 0, nat_lit 1), (nat_lit 0, nat_lit 3, nat_lit 2), (nat_lit 0, nat_lit 20, nat_lit 3), (nat_lit 0, nat_lit 21, nat_lit 4), (nat_lit 0, nat_lit 22, nat_lit 5), (nat_lit 0, nat_lit 23, nat_lit 6), (nat_lit 0, nat_lit 24, nat_lit 7), (nat_lit 0, nat_lit 25, nat_lit 8), (nat_lit 0, nat_lit 26, nat_lit 9), (nat_lit 0, nat_lit 27, nat_lit 10), (nat_lit 0, nat_lit 28, nat_lit 11), (nat_lit 0, nat_lit 29, nat_lit 12), (nat_lit 0, nat_lit 30, nat_lit 13), (nat_lit 0, nat_lit 31, nat_lit 14), (nat_lit 0, nat_lit 32, nat_lit 15), (nat_lit 0, nat_lit 33, nat_lit 16), (nat_lit 0, nat_lit 34, nat_lit 17), (nat_lit 0, nat_lit 35, nat_lit 18), (nat_lit 0, nat_lit 36, nat_lit 19), (nat_lit 0, nat_lit 37, nat_lit 20), (nat_lit 0, nat_lit 38, nat_lit 21), (nat_lit 0, nat_lit 39, nat_lit 22), (nat_lit 0, nat_lit 40, nat_lit 23), (nat_lit 0, nat_lit 47, nat_lit 24), (nat_lit 0, nat_lit 48, nat_lit 25), (nat_lit 0, nat_lit 50, nat_lit 26), (nat_lit 0, nat_lit 51, nat_lit 27), (nat_lit 0, nat_lit 52, nat_lit 28), (nat_lit 0, nat_lit 53, nat_lit 29), (nat_lit 0, nat_lit 54, nat_lit 30), (nat_lit 0, nat_lit 55, nat_lit 31), (nat_lit 0, nat_lit 56, nat_lit 32), (nat_lit 0, nat_lit 57, nat_lit 33), (nat_lit 0, nat_lit 58, nat_lit 34), (nat_lit 0, nat_lit 59, nat_lit 35), (nat_lit 0, nat_lit 72, nat_lit 36), (nat_lit 0, nat_lit 73, nat_lit 37), (nat_lit 0, nat_lit 76, nat_lit 38), (nat_lit 0, nat_lit 77, nat_lit 39), (nat_lit 0, nat_lit 79, nat_lit 40), (nat_lit 0, nat_lit 81, nat_lit 41), (nat_lit 0, nat_lit 82, nat_lit 42)] [] (fun xs η => sP wl_hs zTr zPhs_known xs η ∧ pPhs_known xs η) (fun xs η y η' => sQ wl_hs zTr zOhs_known zMhs_known xs η y η' ∧ pQhs_known xs η y η') :=
  zmet_alt (zmea_gen (mi := (nat_lit 1, nat_lit 1, nat_lit 8, nat_lit 2, nat_lit 2, tX8_known)) (cd := [(nat_lit 117, nat_lit 0, nat_lit 0, [(.inl (nat_lit 1, (.ofNat (nat_lit 0)))), (.inl (nat_lit 2, (.ofNat (nat_lit 0)))), (.inl (nat_lit 3, (.ofNat (nat_lit 0))))], nat_lit 2, [], [])]) (cu := []) (cs := [(nat_lit 0, zPhs_isIn, zOhs_isIn, zMhs_isIn)]) (iv := zVhs_known) (po := [zOhs_known]) (pr := zPhs_known) (mods := zMhs_known) (D7 := zDhs_known) (D0 := zEhs_known) (Dm := zFhs_known) (f0 := 18) pChs_known qChs_known iChs_known pPhs_known (fun xs η _ y η' => pQhs_known xs η y η') zX_low pr_mtR rfl (List.forall_mem_cons.mpr ⟨zhs_isIn, fun _ h => nomatch h⟩) (by decide +kernel) (by decide +kernel) (by decide +kernel)
    (by
      intro xs η hr hl hp hpp
      match xs, hl, hp, hpp with
      | [x1], _, hp, hpp =>
        refine List.forall_mem_cons.mpr ⟨?_, List.forall_mem_cons.mpr ⟨?_, List.forall_mem_cons.mpr ⟨?_, fun _ h => nomatch h⟩⟩⟩
        · refine zden_L (n := 2) (ρ := [x1, 0]) rfl ?_
          show ∀ η1 : zE, η1 = zup η 0 (Int.toNat 2) 0 → ∀ x2 : Int, x2 = η1 0 (Int.toNat 74) → zok 0 x2 → ((gC2 wl_hs [(nat_lit 0, zPhs_isIn, zOhs_isIn, zMhs_isIn)] pChs_known qChs_known) 0).1 [x1, (-1), x2] η1
          intro η1 eη1 x2 e2 r2
          exact trivial
        · refine zden_L (n := 2) (ρ := [x1, 0]) rfl ?_
          exact zhs_known_o0 (ro := ro) x1 η hp hpp
        · refine zden_L (n := 2) (ρ := [x1, 0]) rfl ?_
          exact zhs_known_o1 (ro := ro) x1 η hp hpp
      )
    (fun _ _ _ _ _ _ _ h => nomatch h)
    (fun _ h => nomatch h))
def zPhs_needle : zPq := ([((.negSucc (nat_lit 2147483647)), (.ofNat (nat_lit 2147483647)))], [])
def zOhs_needle : zPo := (((.negSucc (nat_lit 2147483647)), (.ofNat (nat_lit 2147483647))), [], [])
def zMhs_needle : List zCe := [(nat_lit 0, nat_lit 3)]
def pPhs_needle : List Int → zE → Prop := fun _ _ => True
def oQhs_needle : List Int → zE → Int → zE → Prop := fun _ _ _ _ => True
def fQhs_needle : List Int → zE → Int → zE → Prop := fun xs η y η' => y = (yw_ne (xs.getD 0 0) η) ∧ η' = (zup η 0 2 0)
def pQhs_needle : List Int → zE → Int → zE → Prop := fun xs η y η' => oQhs_needle xs η y η' ∧ fQhs_needle xs η y η'
def pChs_needle : Nat → List Int → zE → Prop := fun c => match c with
  | 0 => pPhs_isIn
  | _ => fun _ _ => True
def qChs_needle : Nat → List Int → zE → Int → zE → Prop := fun c => match c with
  | 0 => pQhs_isIn
  | _ => fun _ _ _ _ => True
def iChs_needle : List Int → zE → Nat → List Int → zE → Prop := fun xs η0 c => match c with
  | 0 => fun ys η => (True) ∧ (yw_nI η0 (xs.getD 0 0) (ys.getD 0 0) (ys.getD 1 0) (ys.getD 2 0) (ys.getD 3 0) η)
  | _ => fun _ _ => True
def zVhs_needle : List zIv := [(nat_lit 0, ([((.ofNat (nat_lit 1)), (.ofNat (nat_lit 99))), ((.negSucc (nat_lit 2147483647)), (.ofNat (nat_lit 2147483647))), ((.negSucc (nat_lit 2147483647)), (.ofNat (nat_lit 2147483647))), ((.ofNat (nat_lit 2)), (.ofNat (nat_lit 100)))], []), ((.ofNat (nat_lit 100)), [((.negSucc (nat_lit 0)), nat_lit 0, nat_lit 3, nat_lit 0)]))]
def zUhs_needle : List zCu := [(nat_lit 29, nat_lit 0, [(nat_lit 0, (.inr (.inr (.inl (nat_lit 0))))), (nat_lit 1, (.inl (nat_lit 1, (.ofNat (nat_lit 0))))), (nat_lit 2, (.inl (nat_lit 2, (.ofNat (nat_lit 0))))), (nat_lit 3, (.inl (nat_lit 3, (.ofNat (nat_lit 0))))), (nat_lit 4, (.inl (nat_lit 4, (.ofNat (nat_lit 0)))))], [])]
def zDhs_needle : List (List zK) := [[(nat_lit 7, nat_lit 0, [(nat_lit 0, (.ofNat (nat_lit 1))), (nat_lit 0, (.ofNat (nat_lit 8)))]), (nat_lit 6, nat_lit 1, [(nat_lit 2, (.ofNat (nat_lit 0))), (nat_lit 0, (.ofNat (nat_lit 0)))]), (nat_lit 8, nat_lit 0, [(nat_lit 1, (.ofNat (nat_lit 0))), (nat_lit 0, (.ofNat (nat_lit 1))), (nat_lit 0, (.ofNat (nat_lit 99)))]), (nat_lit 5, nat_lit 0, [(nat_lit 0, (.ofNat (nat_lit 0))), (nat_lit 0, (.ofNat (nat_lit 2))), (nat_lit 0, (.ofNat (nat_lit 0)))])]]
def zEhs_needle : List (List zK) := [[(nat_lit 13, nat_lit 0, [(nat_lit 1, (.ofNat (nat_lit 0))), (nat_lit 0, (.ofNat (nat_lit 1))), (nat_lit 0, (.ofNat (nat_lit 99)))]), (nat_lit 5, nat_lit 0, [(nat_lit 0, (.ofNat (nat_lit 0))), (nat_lit 0, (.ofNat (nat_lit 2))), (nat_lit 0, (.ofNat (nat_lit 0)))])],
  [(nat_lit 12, nat_lit 0, [(nat_lit 1, (.ofNat (nat_lit 0))), (nat_lit 0, (.ofNat (nat_lit 1))), (nat_lit 3, (.ofNat (nat_lit 0))), (nat_lit 0, (.ofNat (nat_lit 2)))]), (nat_lit 4, nat_lit 0, [(nat_lit 4, (.ofNat (nat_lit 0))), (nat_lit 0, (.ofNat (nat_lit 1)))]), (nat_lit 6, nat_lit 1, [(nat_lit 2, (.ofNat (nat_lit 0))), (nat_lit 0, (.ofNat (nat_lit 0)))]), (nat_lit 8, nat_lit 0, [(nat_lit 1, (.ofNat (nat_lit 0))), (nat_lit 0, (.ofNat (nat_lit 1))), (nat_lit 0, (.ofNat (nat_lit 99)))]), (nat_lit 5, nat_lit 0, [(nat_lit 0, (.ofNat (nat_lit 0))), (nat_lit 0, (.ofNat (nat_lit 2))), (nat_lit 0, (.ofNat (nat_lit 0)))])],
  [(nat_lit 11, nat_lit 0, [(nat_lit 0, (.negSucc (nat_lit 0)))]), (nat_lit 6, nat_lit 0, [(nat_lit 2, (.ofNat (nat_lit 0))), (nat_lit 0, (.ofNat (nat_lit 0)))]), (nat_lit 8, nat_lit 0, [(nat_lit 1, (.ofNat (nat_lit 0))), (nat_lit 0, (.ofNat (nat_lit 1))), (nat_lit 0, (.ofNat (nat_lit 99)))]), (nat_lit 5, nat_lit 0, [(nat_lit 0, (.ofNat (nat_lit 0))), (nat_lit 0, (.ofNat (nat_lit 2))), (nat_lit 0, (.ofNat (nat_lit 0)))])]]
def zFhs_needle : List (List zK) := []
def zDhs_needle_0 : List (List zK) := [[(nat_lit 7, nat_lit 0, [(nat_lit 0, (.ofNat (nat_lit 1))), (nat_lit 0, (.ofNat (nat_lit 8)))]), (nat_lit 6, nat_lit 5, [(nat_lit 4, (.ofNat (nat_lit 0))), (nat_lit 1, (.ofNat (nat_lit 0)))])],
  [(nat_lit 7, nat_lit 0, [(nat_lit 0, (.ofNat (nat_lit 3))), (nat_lit 0, (.ofNat (nat_lit 8)))]), (nat_lit 4, nat_lit 0, [(nat_lit 4, (.ofNat (nat_lit 0))), (nat_lit 0, (.ofNat (nat_lit 1)))]), (nat_lit 6, nat_lit 5, [(nat_lit 4, (.ofNat (nat_lit 0))), (nat_lit 1, (.ofNat (nat_lit 0)))])],
  [(nat_lit 7, nat_lit 1, [(nat_lit 0, (.ofNat (nat_lit 2)))]), (nat_lit 0, nat_lit 3, [(nat_lit 7, (.ofNat (nat_lit 0))), (nat_lit 8, (.ofNat (nat_lit 0)))]), (nat_lit 0, nat_lit 2, [(nat_lit 4, (.ofNat (nat_lit 0))), (nat_lit 0, (.ofNat (nat_lit 1)))]), (nat_lit 0, nat_lit 3, [(nat_lit 6, (.ofNat (nat_lit 0))), (nat_lit 4, (.ofNat (nat_lit 0)))]), (nat_lit 4, nat_lit 0, [(nat_lit 4, (.ofNat (nat_lit 0))), (nat_lit 0, (.ofNat (nat_lit 3)))]), (nat_lit 4, nat_lit 0, [(nat_lit 4, (.ofNat (nat_lit 0))), (nat_lit 0, (.ofNat (nat_lit 1)))]), (nat_lit 6, nat_lit 5, [(nat_lit 4, (.ofNat (nat_lit 0))), (nat_lit 1, (.ofNat (nat_lit 0)))])]]
def zEhs_needle_0 : List (List zK) := [[(nat_lit 11, nat_lit 0, [(nat_lit 2, (.ofNat (nat_lit 0)))]), (nat_lit 6, nat_lit 4, [(nat_lit 4, (.ofNat (nat_lit 0))), (nat_lit 1, (.ofNat (nat_lit 0)))])],
  [(nat_lit 10, nat_lit 0, [(nat_lit 1, (.ofNat (nat_lit 0))), (nat_lit 4, (.ofNat (nat_lit 0))), (nat_lit 11, (.ofNat (nat_lit 0))), (nat_lit 14, (.ofNat (nat_lit 0)))]), (nat_lit 0, nat_lit 1, [(nat_lit 4, (.ofNat (nat_lit 0))), (nat_lit 0, (.ofNat (nat_lit 1)))]), (nat_lit 6, nat_lit 2, [(nat_lit 12, (.ofNat (nat_lit 0))), (nat_lit 13, (.ofNat (nat_lit 0)))]), (nat_lit 0, nat_lit 3, [(nat_lit 3, (.ofNat (nat_lit 0))), (nat_lit 4, (.ofNat (nat_lit 0)))]), (nat_lit 0, nat_lit 3, [(nat_lit 11, (.ofNat (nat_lit 0))), (nat_lit 2, (.ofNat (nat_lit 0)))]), (nat_lit 0, nat_lit 1, [(nat_lit 5, (.ofNat (nat_lit 0))), (nat_lit 10, (.ofNat (nat_lit 0)))]), (nat_lit 0, nat_lit 9, [(nat_lit 9, (.ofNat (nat_lit 0))), (nat_lit 0, (.ofNat (nat_lit 2)))]), (nat_lit 0, nat_lit 3, [(nat_lit 7, (.ofNat (nat_lit 0))), (nat_lit 8, (.ofNat (nat_lit 0)))]), (nat_lit 0, nat_lit 2, [(nat_lit 4, (.ofNat (nat_lit 0))), (nat_lit 0, (.ofNat (nat_lit 1)))]), (nat_lit 0, nat_lit 3, [(nat_lit 6, (.ofNat (nat_lit 0))), (nat_lit 4, (.ofNat (nat_lit 0)))]), (nat_lit 4, nat_lit 0, [(nat_lit 4, (.ofNat (nat_lit 0))), (nat_lit 0, (.ofNat (nat_lit 3)))]), (nat_lit 4, nat_lit 0, [(nat_lit 4, (.ofNat (nat_lit 0))), (nat_lit 0, (.ofNat (nat_lit 1)))]), (nat_lit 6, nat_lit 5, [(nat_lit 4, (.ofNat (nat_lit 0))), (nat_lit 1, (.ofNat (nat_lit 0)))])],
  [(nat_lit 10, nat_lit 0, [(nat_lit 1, (.ofNat (nat_lit 0))), (nat_lit 2, (.ofNat (nat_lit 0))), (nat_lit 3, (.ofNat (nat_lit 0))), (nat_lit 14, (.ofNat (nat_lit 0)))]), (nat_lit 0, nat_lit 1, [(nat_lit 4, (.ofNat (nat_lit 0))), (nat_lit 0, (.ofNat (nat_lit 1)))]), (nat_lit 6, nat_lit 3, [(nat_lit 12, (.ofNat (nat_lit 0))), (nat_lit 13, (.ofNat (nat_lit 0)))]), (nat_lit 0, nat_lit 3, [(nat_lit 3, (.ofNat (nat_lit 0))), (nat_lit 4, (.ofNat (nat_lit 0)))]), (nat_lit 0, nat_lit 3, [(nat_lit 11, (.ofNat (nat_lit 0))), (nat_lit 2, (.ofNat (nat_lit 0)))]), (nat_lit 0, nat_lit 1, [(nat_lit 5, (.ofNat (nat_lit 0))), (nat_lit 10, (.ofNat (nat_lit 0)))]), (nat_lit 0, nat_lit 9, [(nat_lit 9, (.ofNat (nat_lit 0))), (nat_lit 0, (.ofNat (nat_lit 2)))]), (nat_lit 0, nat_lit 3, [(nat_lit 7, (.ofNat (nat_lit 0))), (nat_lit 8, (.ofNat (nat_lit 0)))]), (nat_lit 0, nat_lit 2, [(nat_lit 4, (.ofNat (nat_lit 0))), (nat_lit 0, (.ofNat (nat_lit 1)))]), (nat_lit 0, nat_lit 3, [(nat_lit 6, (.ofNat (nat_lit 0))), (nat_lit 4, (.ofNat (nat_lit 0)))]), (nat_lit 4, nat_lit 0, [(nat_lit 4, (.ofNat (nat_lit 0))), (nat_lit 0, (.ofNat (nat_lit 3)))]), (nat_lit 4, nat_lit 0, [(nat_lit 4, (.ofNat (nat_lit 0))), (nat_lit 0, (.ofNat (nat_lit 1)))]), (nat_lit 6, nat_lit 5, [(nat_lit 4, (.ofNat (nat_lit 0))), (nat_lit 1, (.ofNat (nat_lit 0)))])]]
def zFhs_needle_0 : List (List zK) := []
set_option maxHeartbeats 8000000 in
theorem zhs_needle_o0 {ro : Nat → List Int32} (x1 : Int) (η : zE) (hp : sP wl_hs zTr zPhs_needle [x1] η) (hpp : pPhs_needle [x1] η) : ∀ η1 : zE, η1 = zup η 0 (Int.toNat 2) 0 → ∀ (x2 : Int) (η2 : zE), ((gC2 wl_hs [(nat_lit 0, zPhs_isIn, zOhs_isIn, zMhs_isIn)] pChs_needle qChs_needle) 0).2 [x1, 1, 99] η1 x2 η2 → (¬ x2 = 0) → ∀ x3 : Int, x3 = η2 4 (Int.toNat 1) → zok 0 x3 → (iChs_needle [x1] η) 0 [x1, 1, x3, 2] η2 := by
  intro η1 eη1 x2 η2 h2 c1 x3 e3 r3
  have y2 : fQhs_isIn [x1, 1, 99] η1 x2 η2 := h2.2.2
  have k2 : sQ wl_hs zTr zOhs_isIn zMhs_isIn [x1, 1, 99] η1 x2 η2 ∧ oQhs_isIn [x1, 1, 99] η1 x2 η2 := ⟨h2.1, h2.2.1⟩
  refine yj_a ?_ ?_
  · have y2 : fQhs_isIn [x1, 1, 99] η1 x2 η2 := h2.2.2
    have k2 : sQ wl_hs zTr zOhs_isIn zMhs_isIn [x1, 1, 99] η1 x2 η2 ∧ oQhs_isIn [x1, 1, 99] η1 x2 η2 := ⟨h2.1, h2.2.1⟩
    exact trivial
  · have eη1 : η1 = zup η 0 2 0 := eη1
    obtain ⟨a2, b2⟩ : x2 = yq_in x1 1 99 ∧ η2 = η1 := y2
    have e3 : x3 = η2 4 1 := e3
    show yw_nI η x1 x1 1 x3 2 η2
    exact wnI_0 (by rw [b2, eη1]) (by omega) e3
set_option maxHeartbeats 8000000 in
theorem zhs_needle_o1 {ro : Nat → List Int32} (x1 : Int) (η : zE) (hp : sP wl_hs zTr zPhs_needle [x1] η) (hpp : pPhs_needle [x1] η) : ∀ η1 : zE, η1 = zup η 0 (Int.toNat 2) 0 → ∀ (x2 : Int) (η2 : zE), ((gC2 wl_hs [(nat_lit 0, zPhs_isIn, zOhs_isIn, zMhs_isIn)] pChs_needle qChs_needle) 0).2 [x1, 1, 99] η1 x2 η2 → (x2 = 0) → (fun (_ : Nat) (y : Int) (η' : zE) => pQhs_needle [x1] η y η') 0 (-1) η2 := by
  intro η1 eη1 x2 η2 h2 c1
  have y2 : fQhs_isIn [x1, 1, 99] η1 x2 η2 := h2.2.2
  have k2 : sQ wl_hs zTr zOhs_isIn zMhs_isIn [x1, 1, 99] η1 x2 η2 ∧ oQhs_isIn [x1, 1, 99] η1 x2 η2 := ⟨h2.1, h2.2.1⟩
  refine yj_a ?_ ?_
  · have y2 : fQhs_isIn [x1, 1, 99] η1 x2 η2 := h2.2.2
    have k2 : sQ wl_hs zTr zOhs_isIn zMhs_isIn [x1, 1, 99] η1 x2 η2 ∧ oQhs_isIn [x1, 1, 99] η1 x2 η2 := ⟨h2.1, h2.2.1⟩
    exact trivial
  · have eη1 : η1 = zup η 0 2 0 := eη1
    obtain ⟨a2, b2⟩ : x2 = yq_in x1 1 99 ∧ η2 = η1 := y2
    show -1 = yw_ne x1 η ∧ η2 = zup η 0 2 0
    exact ⟨by unfold yw_ne; rw [if_pos (by omega)], (by rw [b2, eη1])⟩
set_option maxHeartbeats 8000000 in
theorem zhs_needle_o2 {ro : Nat → List Int32} (xs : List Int) (η0 : zE) (hp : sP wl_hs zTr zPhs_needle xs η0) (hpp : pPhs_needle xs η0) (x1 x2 x3 x4 : Int) (η : zE) (hI : zsI wl_hs zTr zVhs_needle zMhs_needle η0 0 [x1, x2, x3, x4] η) (hig : iChs_needle xs η0 0 [x1, x2, x3, x4] η) : (x1 < x4) → (fun (_ : Nat) (y : Int) (η' : zE) => pQhs_needle xs η0 y η') 0 x2 η := by
  have fig := hig.2
  have hig := hig.1
  intro c1
  refine yj_a ?_ ?_
  · exact trivial
  · exact wnI_e (x := x1) (k := x4) fig (by omega)
set_option maxHeartbeats 8000000 in
theorem zhs_needle_o3 {ro : Nat → List Int32} (xs : List Int) (η0 : zE) (hp : sP wl_hs zTr zPhs_needle xs η0) (hpp : pPhs_needle xs η0) (x1 x2 x3 x4 : Int) (η : zE) (hI : zsI wl_hs zTr zVhs_needle zMhs_needle η0 0 [x1, x2, x3, x4] η) (hig : iChs_needle xs η0 0 [x1, x2, x3, x4] η) : (x4 ≤ x1) → ∀ x5 : Int, x5 = η 4 (Int.toNat 1) → zok 0 x5 → ∀ x6 : Int, x6 = η 4 (Int.toNat 3) → zok 0 x6 → ∀ x7 : Int, x7 = zd 0 3 x6 x4 → ∀ x8 : Int, x8 = zd 0 2 x4 1 → ∀ x9 : Int, x9 = zd 0 3 x7 x8 → ∀ x10 : Int, x10 = zd 0 9 x9 2 → ∀ x11 : Int, x11 = zd 0 1 x5 x10 → ∀ x12 : Int, x12 = zd 0 3 x11 x2 → ∀ x13 : Int, x13 = zd 0 3 x3 x4 → (x12 < x13) → ∀ x14 : Int, x14 = zd 0 1 x4 1 → (iChs_needle xs η0) 0 [x1, x4, x11, x14] η ∧ (fun (_ : Nat) (_ : List Int) (_ : zE) => (0 : Nat)) 0 [x1, x4, x11, x14] η < 1 := by
  have fig := hig.2
  have hig := hig.1
  intro c1 x5 e5 r5 x6 e6 r6 x7 e7 x8 e8 x9 e9 x10 e10 x11 e11 x12 e12 x13 e13 c2 x14 e14
  refine yj_c ?_ ?_
  · exact ⟨trivial, Nat.zero_lt_one⟩
  · have e5 : x5 = η 4 1 := e5
    have e6 : x6 = η 4 3 := e6
    have e7 : x7 = zd 0 3 x6 x4 := e7
    have e8 : x8 = zd 0 2 x4 1 := e8
    have e9 : x9 = zd 0 3 x7 x8 := e9
    have e10 : x10 = zd 0 9 x9 2 := e10
    have e11 : x11 = zd 0 1 x5 x10 := e11
    have e12 : x12 = zd 0 3 x11 x2 := e12
    have e13 : x13 = zd 0 3 x3 x4 := e13
    have e14 : x14 = zd 0 1 x4 1 := e14
    show yw_nI η0 (xs.getD 0 0) x1 x4 x11 x14 η
    refine wnI_s (x := x1) (b := x2) (c := x3) (k := x4) fig (by omega) ?_ e14
    unfold yw_n1 yw_nc
    dsimp only
    rw [← e5, ← e6, ← e7, ← e8, ← e9, ← e10, ← e11, ← e12, ← e13, if_neg (by omega)]
set_option maxHeartbeats 8000000 in
theorem zhs_needle_o4 {ro : Nat → List Int32} (xs : List Int) (η0 : zE) (hp : sP wl_hs zTr zPhs_needle xs η0) (hpp : pPhs_needle xs η0) (x1 x2 x3 x4 : Int) (η : zE) (hI : zsI wl_hs zTr zVhs_needle zMhs_needle η0 0 [x1, x2, x3, x4] η) (hig : iChs_needle xs η0 0 [x1, x2, x3, x4] η) : (x4 ≤ x1) → ∀ x5 : Int, x5 = η 4 (Int.toNat 1) → zok 0 x5 → ∀ x6 : Int, x6 = η 4 (Int.toNat 3) → zok 0 x6 → ∀ x7 : Int, x7 = zd 0 3 x6 x4 → ∀ x8 : Int, x8 = zd 0 2 x4 1 → ∀ x9 : Int, x9 = zd 0 3 x7 x8 → ∀ x10 : Int, x10 = zd 0 9 x9 2 → ∀ x11 : Int, x11 = zd 0 1 x5 x10 → ∀ x12 : Int, x12 = zd 0 3 x11 x2 → ∀ x13 : Int, x13 = zd 0 3 x3 x4 → (x13 ≤ x12) → ∀ x14 : Int, x14 = zd 0 1 x4 1 → (iChs_needle xs η0) 0 [x1, x2, x3, x14] η ∧ (fun (_ : Nat) (_ : List Int) (_ : zE) => (0 : Nat)) 0 [x1, x2, x3, x14] η < 1 := by
  have fig := hig.2
  have hig := hig.1
  intro c1 x5 e5 r5 x6 e6 r6 x7 e7 x8 e8 x9 e9 x10 e10 x11 e11 x12 e12 x13 e13 c2 x14 e14
  refine yj_c ?_ ?_
  · exact ⟨trivial, Nat.zero_lt_one⟩
  · have e5 : x5 = η 4 1 := e5
    have e6 : x6 = η 4 3 := e6
    have e7 : x7 = zd 0 3 x6 x4 := e7
    have e8 : x8 = zd 0 2 x4 1 := e8
    have e9 : x9 = zd 0 3 x7 x8 := e9
    have e10 : x10 = zd 0 9 x9 2 := e10
    have e11 : x11 = zd 0 1 x5 x10 := e11
    have e12 : x12 = zd 0 3 x11 x2 := e12
    have e13 : x13 = zd 0 3 x3 x4 := e13
    have e14 : x14 = zd 0 1 x4 1 := e14
    show yw_nI η0 (xs.getD 0 0) x1 x2 x3 x14 η
    refine wnI_s (x := x1) (b := x2) (c := x3) (k := x4) fig (by omega) ?_ e14
    unfold yw_n1 yw_nc
    dsimp only
    rw [← e5, ← e6, ← e7, ← e8, ← e9, ← e10, ← e11, ← e12, ← e13, if_pos (by omega)]
set_option maxHeartbeats 8000000 in
theorem zhs_needle {ro : Nat → List Int32} : zMet pr_P pr_K pr_df ro (sm_X0 1 6) 1 197 tm_hs [(.inr (.inr (.inl (nat_lit 0)))), (.inl (nat_lit 1, (.ofNat (nat_lit 0))))] 1 [(nat_lit 0, nat_lit 0, nat_lit 1), (nat_lit 0, nat_lit 3, nat_lit 2), (nat_lit 0, nat_lit 20, nat_lit 3), (nat_lit 0, nat_lit 21, nat_lit 4), (nat_lit 0, nat_lit 22, nat_lit 5), (nat_lit 0, nat_lit 23, nat_lit 6), (nat_lit 0, nat_lit 24, nat_lit 7), (nat_lit 0, nat_lit 25, nat_lit 8), (nat_lit 0, nat_lit 26, nat_lit 9), (nat_lit 0, nat_lit 27, nat_lit 10), (nat_lit 0, nat_lit 28, nat_lit 11), (nat_lit 0, nat_lit 29, nat_lit 12), (nat_lit 0, nat_lit 30, nat_lit 13), (nat_lit 0, nat_lit 31, nat_lit 14), (nat_lit 0, nat_lit 32, nat_lit 15), (nat_lit 0, nat_lit 33, nat_lit 16), (nat_lit 0, nat_lit 34, nat_lit 17), (nat_lit 0, nat_lit 35, nat_lit 18), (nat_lit 0, nat_lit 36, nat_lit 19), (nat_lit 0, nat_lit 37, nat_lit 20), (nat_lit 0, nat_lit 38, nat_lit 21), (nat_lit 0, nat_lit 39, nat_lit 22), (nat_lit 0, nat_lit 40, nat_lit 23), (nat_lit 0, nat_lit 47, nat_lit 24), (nat_lit 0, nat_lit 48, nat_lit 25), (nat_lit 0, nat_lit 50, nat_lit 26), (nat_lit 0, nat_lit 51, nat_lit 27), (nat_lit 0, nat_lit 52, nat_lit 28), (nat_lit 0, nat_lit 53, nat_lit 29), (nat_lit 0, nat_lit 54, nat_lit 30), (nat_lit 0, nat_lit 55, nat_lit 31), (nat_lit 0, nat_lit 56, nat_lit 32), (nat_lit 0, nat_lit 57, nat_lit 33), (nat_lit 0, nat_lit 58, nat_lit 34), (nat_lit 0, nat_lit 59, nat_lit 35), (nat_lit 0, nat_lit 72, nat_lit 36), (nat_lit 0, nat_lit 73, nat_lit 37), (nat_lit 0, nat_lit 76, nat_lit 38), (nat_lit 0, nat_lit 77, nat_lit 39), (nat_lit 0, nat_lit 79, nat_lit 40), (nat_lit 0, nat_lit 81, nat_lit 41), (nat_lit 0, nat_lit 82, nat_lit 42)] [] (fun xs η => sP wl_hs zTr zPhs_needle xs η ∧ pPhs_needle xs η) (fun xs η y η' => sQ wl_hs zTr zOhs_needle zMhs_needle xs η y η' ∧ pQhs_needle xs η y η') :=
  zmet_alt (zmea_gen (mi := (nat_lit 1, nat_lit 1, nat_lit 8, nat_lit 6, nat_lit 1, tX8_needle)) (cd := [(nat_lit 117, nat_lit 0, nat_lit 0, [(.inl (nat_lit 1, (.ofNat (nat_lit 0)))), (.inl (nat_lit 2, (.ofNat (nat_lit 0)))), (.inl (nat_lit 3, (.ofNat (nat_lit 0))))], nat_lit 2, [], [])]) (cu := zUhs_needle) (cs := [(nat_lit 0, zPhs_isIn, zOhs_isIn, zMhs_isIn)]) (iv := zVhs_needle) (po := [zOhs_needle]) (pr := zPhs_needle) (mods := zMhs_needle) (D7 := zDhs_needle) (D0 := zEhs_needle) (Dm := zFhs_needle) (f0 := 22) pChs_needle qChs_needle iChs_needle pPhs_needle (fun xs η _ y η' => pQhs_needle xs η y η') zX_low pr_mtR rfl (List.forall_mem_cons.mpr ⟨zhs_isIn, fun _ h => nomatch h⟩) (by decide +kernel) (by decide +kernel) (by decide +kernel)
    (by
      intro xs η hr hl hp hpp
      match xs, hl, hp, hpp with
      | [x1], _, hp, hpp =>
        refine List.forall_mem_cons.mpr ⟨?_, List.forall_mem_cons.mpr ⟨?_, List.forall_mem_cons.mpr ⟨?_, fun _ h => nomatch h⟩⟩⟩
        · refine zden_L (n := 2) (ρ := [x1, 0]) rfl ?_
          show ∀ η1 : zE, η1 = zup η 0 (Int.toNat 2) 0 → ((gC2 wl_hs [(nat_lit 0, zPhs_isIn, zOhs_isIn, zMhs_isIn)] pChs_needle qChs_needle) 0).1 [x1, 1, 99] η1
          intro η1 eη1
          exact trivial
        · refine zden_L (n := 2) (ρ := [x1, 0]) rfl ?_
          exact zhs_needle_o0 (ro := ro) x1 η hp hpp
        · refine zden_L (n := 2) (ρ := [x1, 0]) rfl ?_
          exact zhs_needle_o1 (ro := ro) x1 η hp hpp
      )
    (fun _ _ _ _ _ _ _ h => nomatch h)
    (List.forall_mem_cons.mpr ⟨⟨zDhs_needle_0, zEhs_needle_0, zFhs_needle_0, 39, by decide +kernel, (by
      intro xs η0 hlx hp hpp ys η hr hl hI hig
      match ys, hl, hI, hig with
      | [x1, x2, x3, x4], _, hI, hig =>
        refine ⟨?_, ?_⟩
        · refine List.forall_mem_cons.mpr ⟨?_, List.forall_mem_cons.mpr ⟨?_, List.forall_mem_cons.mpr ⟨?_, fun _ h => nomatch h⟩⟩⟩
          · refine zden_L (n := 5) (ρ := [x4, x3, x2, x1, 0]) rfl ?_
            exact zhs_needle_o2 (ro := ro) xs η0 hp hpp x1 x2 x3 x4 η hI hig
          · refine zden_L (n := 5) (ρ := [x4, x3, x2, x1, 0]) rfl ?_
            exact zhs_needle_o3 (ro := ro) xs η0 hp hpp x1 x2 x3 x4 η hI hig
          · refine zden_L (n := 5) (ρ := [x4, x3, x2, x1, 0]) rfl ?_
            exact zhs_needle_o4 (ro := ro) xs η0 hp hpp x1 x2 x3 x4 η hI hig
        · exact fun _ h => nomatch h
      )⟩, (fun _ h => nomatch h)⟩))
def zPhs_bestBit0 : zPq := ([((.negSucc (nat_lit 2147483647)), (.ofNat (nat_lit 0)))], [])
def zOhs_bestBit0 : zPo := (((.negSucc (nat_lit 2147483647)), (.ofNat (nat_lit 2147483647))), [], [])
def zMhs_bestBit0 : List zCe := [(nat_lit 0, nat_lit 3)]
def pPhs_bestBit0 : List Int → zE → Prop := fun _ _ => True
def oQhs_bestBit0 : List Int → zE → Int → zE → Prop := fun _ _ _ _ => True
def fQhs_bestBit0 : List Int → zE → Int → zE → Prop := fun xs η y η' => y = (yw_bb (xs.getD 0 0) η) ∧ η' = (zup η 0 2 0)
def pQhs_bestBit0 : List Int → zE → Int → zE → Prop := fun xs η y η' => oQhs_bestBit0 xs η y η' ∧ fQhs_bestBit0 xs η y η'
def pChs_bestBit0 : Nat → List Int → zE → Prop := fun c => match c with
  | 0 => pPhs_isIn
  | _ => fun _ _ => True
def qChs_bestBit0 : Nat → List Int → zE → Int → zE → Prop := fun c => match c with
  | 0 => pQhs_isIn
  | _ => fun _ _ _ _ => True
def iChs_bestBit0 : List Int → zE → Nat → List Int → zE → Prop := fun xs η0 c => match c with
  | 0 => fun ys η => (True) ∧ (yw_bI η0 (xs.getD 0 0) (ys.getD 0 0) (ys.getD 1 0) (ys.getD 2 0) (ys.getD 3 0) η)
  | _ => fun _ _ => True
def zVhs_bestBit0 : List zIv := [(nat_lit 0, ([((.ofNat (nat_lit 1)), (.ofNat (nat_lit 0))), ((.negSucc (nat_lit 2147483647)), (.ofNat (nat_lit 2147483647))), ((.negSucc (nat_lit 2147483647)), (.ofNat (nat_lit 2147483647))), ((.ofNat (nat_lit 0)), (.ofNat (nat_lit 0)))], []), ((.ofNat (nat_lit 5)), []))]
def zUhs_bestBit0 : List zCu := [(nat_lit 25, nat_lit 0, [(nat_lit 0, (.inr (.inr (.inl (nat_lit 0))))), (nat_lit 1, (.inl (nat_lit 1, (.ofNat (nat_lit 0))))), (nat_lit 2, (.inl (nat_lit 2, (.ofNat (nat_lit 0))))), (nat_lit 3, (.inl (nat_lit 3, (.ofNat (nat_lit 0))))), (nat_lit 4, (.inl (nat_lit 4, (.ofNat (nat_lit 0)))))], [])]
def zDhs_bestBit0 : List (List zK) := []
def zEhs_bestBit0 : List (List zK) := [[(nat_lit 13, nat_lit 0, [(nat_lit 1, (.ofNat (nat_lit 0))), (nat_lit 0, (.ofNat (nat_lit 1))), (nat_lit 0, (.ofNat (nat_lit 12)))]), (nat_lit 5, nat_lit 0, [(nat_lit 0, (.ofNat (nat_lit 0))), (nat_lit 0, (.ofNat (nat_lit 2))), (nat_lit 0, (.ofNat (nat_lit 0)))])],
  [(nat_lit 12, nat_lit 0, [(nat_lit 1, (.ofNat (nat_lit 0))), (nat_lit 0, (.negSucc (nat_lit 1))), (nat_lit 0, (.negSucc (nat_lit 0))), (nat_lit 0, (.ofNat (nat_lit 0)))]), (nat_lit 6, nat_lit 1, [(nat_lit 2, (.ofNat (nat_lit 0))), (nat_lit 0, (.ofNat (nat_lit 0)))]), (nat_lit 8, nat_lit 0, [(nat_lit 1, (.ofNat (nat_lit 0))), (nat_lit 0, (.ofNat (nat_lit 1))), (nat_lit 0, (.ofNat (nat_lit 12)))]), (nat_lit 5, nat_lit 0, [(nat_lit 0, (.ofNat (nat_lit 0))), (nat_lit 0, (.ofNat (nat_lit 2))), (nat_lit 0, (.ofNat (nat_lit 0)))])],
  [(nat_lit 11, nat_lit 0, [(nat_lit 0, (.negSucc (nat_lit 0)))]), (nat_lit 6, nat_lit 0, [(nat_lit 2, (.ofNat (nat_lit 0))), (nat_lit 0, (.ofNat (nat_lit 0)))]), (nat_lit 8, nat_lit 0, [(nat_lit 1, (.ofNat (nat_lit 0))), (nat_lit 0, (.ofNat (nat_lit 1))), (nat_lit 0, (.ofNat (nat_lit 12)))]), (nat_lit 5, nat_lit 0, [(nat_lit 0, (.ofNat (nat_lit 0))), (nat_lit 0, (.ofNat (nat_lit 2))), (nat_lit 0, (.ofNat (nat_lit 0)))])]]
def zFhs_bestBit0 : List (List zK) := []
def zDhs_bestBit0_0 : List (List zK) := [[(nat_lit 7, nat_lit 3, []), (nat_lit 6, nat_lit 4, [(nat_lit 5, (.ofNat (nat_lit 0))), (nat_lit 6, (.ofNat (nat_lit 0)))]), (nat_lit 4, nat_lit 0, [(nat_lit 0, (.ofNat (nat_lit 0))), (nat_lit 0, (.ofNat (nat_lit 12)))]), (nat_lit 0, nat_lit 1, [(nat_lit 4, (.ofNat (nat_lit 0))), (nat_lit 1, (.ofNat (nat_lit 0)))])],
  [(nat_lit 7, nat_lit 3, []), (nat_lit 6, nat_lit 5, [(nat_lit 5, (.ofNat (nat_lit 0))), (nat_lit 6, (.ofNat (nat_lit 0)))]), (nat_lit 4, nat_lit 0, [(nat_lit 0, (.ofNat (nat_lit 0))), (nat_lit 0, (.ofNat (nat_lit 12)))]), (nat_lit 0, nat_lit 1, [(nat_lit 4, (.ofNat (nat_lit 0))), (nat_lit 1, (.ofNat (nat_lit 0)))])]]
def zEhs_bestBit0_0 : List (List zK) := []
def zFhs_bestBit0_0 : List (List zK) := []
set_option maxHeartbeats 8000000 in
theorem zhs_bestBit0_o0 {ro : Nat → List Int32} (x1 : Int) (η : zE) (hp : sP wl_hs zTr zPhs_bestBit0 [x1] η) (hpp : pPhs_bestBit0 [x1] η) : ∀ η1 : zE, η1 = zup η 0 (Int.toNat 2) 0 → ∀ (x2 : Int) (η2 : zE), ((gC2 wl_hs [(nat_lit 0, zPhs_isIn, zOhs_isIn, zMhs_isIn)] pChs_bestBit0 qChs_bestBit0) 0).2 [x1, 1, 12] η1 x2 η2 → (¬ x2 = 0) → (iChs_bestBit0 [x1] η) 0 [x1, (-2), (-1), 0] η2 := by
  intro η1 eη1 x2 η2 h2 c1
  have y2 : fQhs_isIn [x1, 1, 12] η1 x2 η2 := h2.2.2
  have k2 : sQ wl_hs zTr zOhs_isIn zMhs_isIn [x1, 1, 12] η1 x2 η2 ∧ oQhs_isIn [x1, 1, 12] η1 x2 η2 := ⟨h2.1, h2.2.1⟩
  refine yj_a ?_ ?_
  · have y2 : fQhs_isIn [x1, 1, 12] η1 x2 η2 := h2.2.2
    have k2 : sQ wl_hs zTr zOhs_isIn zMhs_isIn [x1, 1, 12] η1 x2 η2 ∧ oQhs_isIn [x1, 1, 12] η1 x2 η2 := ⟨h2.1, h2.2.1⟩
    exact trivial
  · have eη1 : η1 = zup η 0 2 0 := eη1
    obtain ⟨a2, b2⟩ : x2 = yq_in x1 1 12 ∧ η2 = η1 := y2
    show yw_bI η x1 x1 (-2) (-1) 0 η2
    exact wbI_0 (by rw [b2, eη1]) (by omega)
set_option maxHeartbeats 8000000 in
theorem zhs_bestBit0_o1 {ro : Nat → List Int32} (x1 : Int) (η : zE) (hp : sP wl_hs zTr zPhs_bestBit0 [x1] η) (hpp : pPhs_bestBit0 [x1] η) : ∀ η1 : zE, η1 = zup η 0 (Int.toNat 2) 0 → ∀ (x2 : Int) (η2 : zE), ((gC2 wl_hs [(nat_lit 0, zPhs_isIn, zOhs_isIn, zMhs_isIn)] pChs_bestBit0 qChs_bestBit0) 0).2 [x1, 1, 12] η1 x2 η2 → (x2 = 0) → (fun (_ : Nat) (y : Int) (η' : zE) => pQhs_bestBit0 [x1] η y η') 0 (-1) η2 := by
  intro η1 eη1 x2 η2 h2 c1
  have y2 : fQhs_isIn [x1, 1, 12] η1 x2 η2 := h2.2.2
  have k2 : sQ wl_hs zTr zOhs_isIn zMhs_isIn [x1, 1, 12] η1 x2 η2 ∧ oQhs_isIn [x1, 1, 12] η1 x2 η2 := ⟨h2.1, h2.2.1⟩
  refine yj_a ?_ ?_
  · have y2 : fQhs_isIn [x1, 1, 12] η1 x2 η2 := h2.2.2
    have k2 : sQ wl_hs zTr zOhs_isIn zMhs_isIn [x1, 1, 12] η1 x2 η2 ∧ oQhs_isIn [x1, 1, 12] η1 x2 η2 := ⟨h2.1, h2.2.1⟩
    exact trivial
  · have eη1 : η1 = zup η 0 2 0 := eη1
    obtain ⟨a2, b2⟩ : x2 = yq_in x1 1 12 ∧ η2 = η1 := y2
    show -1 = yw_bb x1 η ∧ η2 = zup η 0 2 0
    exact ⟨by unfold yw_bb; rw [if_pos (by omega)], (by rw [b2, eη1])⟩
set_option maxHeartbeats 8000000 in
theorem zhs_bestBit0 {ro : Nat → List Int32} : zMet pr_P pr_K pr_df ro (sm_X0 1 6) 1 200 tm_hs [(.inr (.inr (.inl (nat_lit 0)))), (.inl (nat_lit 1, (.ofNat (nat_lit 0))))] 1 [(nat_lit 0, nat_lit 0, nat_lit 1), (nat_lit 0, nat_lit 3, nat_lit 2), (nat_lit 0, nat_lit 20, nat_lit 3), (nat_lit 0, nat_lit 21, nat_lit 4), (nat_lit 0, nat_lit 22, nat_lit 5), (nat_lit 0, nat_lit 23, nat_lit 6), (nat_lit 0, nat_lit 24, nat_lit 7), (nat_lit 0, nat_lit 25, nat_lit 8), (nat_lit 0, nat_lit 26, nat_lit 9), (nat_lit 0, nat_lit 27, nat_lit 10), (nat_lit 0, nat_lit 28, nat_lit 11), (nat_lit 0, nat_lit 29, nat_lit 12), (nat_lit 0, nat_lit 30, nat_lit 13), (nat_lit 0, nat_lit 31, nat_lit 14), (nat_lit 0, nat_lit 32, nat_lit 15), (nat_lit 0, nat_lit 33, nat_lit 16), (nat_lit 0, nat_lit 34, nat_lit 17), (nat_lit 0, nat_lit 35, nat_lit 18), (nat_lit 0, nat_lit 36, nat_lit 19), (nat_lit 0, nat_lit 37, nat_lit 20), (nat_lit 0, nat_lit 38, nat_lit 21), (nat_lit 0, nat_lit 39, nat_lit 22), (nat_lit 0, nat_lit 40, nat_lit 23), (nat_lit 0, nat_lit 47, nat_lit 24), (nat_lit 0, nat_lit 48, nat_lit 25), (nat_lit 0, nat_lit 50, nat_lit 26), (nat_lit 0, nat_lit 51, nat_lit 27), (nat_lit 0, nat_lit 52, nat_lit 28), (nat_lit 0, nat_lit 53, nat_lit 29), (nat_lit 0, nat_lit 54, nat_lit 30), (nat_lit 0, nat_lit 55, nat_lit 31), (nat_lit 0, nat_lit 56, nat_lit 32), (nat_lit 0, nat_lit 57, nat_lit 33), (nat_lit 0, nat_lit 58, nat_lit 34), (nat_lit 0, nat_lit 59, nat_lit 35), (nat_lit 0, nat_lit 72, nat_lit 36), (nat_lit 0, nat_lit 73, nat_lit 37), (nat_lit 0, nat_lit 76, nat_lit 38), (nat_lit 0, nat_lit 77, nat_lit 39), (nat_lit 0, nat_lit 79, nat_lit 40), (nat_lit 0, nat_lit 81, nat_lit 41), (nat_lit 0, nat_lit 82, nat_lit 42)] [] (fun xs η => sP wl_hs zTr zPhs_bestBit0 xs η ∧ pPhs_bestBit0 xs η) (fun xs η y η' => sQ wl_hs zTr zOhs_bestBit0 zMhs_bestBit0 xs η y η' ∧ pQhs_bestBit0 xs η y η') :=
  zmet_alt (zmea_gen (mi := (nat_lit 1, nat_lit 1, nat_lit 8, nat_lit 7, nat_lit 1, tX8_bestBit)) (cd := [(nat_lit 117, nat_lit 0, nat_lit 0, [(.inl (nat_lit 1, (.ofNat (nat_lit 0)))), (.inl (nat_lit 2, (.ofNat (nat_lit 0)))), (.inl (nat_lit 3, (.ofNat (nat_lit 0))))], nat_lit 2, [], [])]) (cu := zUhs_bestBit0) (cs := [(nat_lit 0, zPhs_isIn, zOhs_isIn, zMhs_isIn)]) (iv := zVhs_bestBit0) (po := [zOhs_bestBit0]) (pr := zPhs_bestBit0) (mods := zMhs_bestBit0) (D7 := zDhs_bestBit0) (D0 := zEhs_bestBit0) (Dm := zFhs_bestBit0) (f0 := 19) pChs_bestBit0 qChs_bestBit0 iChs_bestBit0 pPhs_bestBit0 (fun xs η _ y η' => pQhs_bestBit0 xs η y η') zX_low pr_mtR rfl (List.forall_mem_cons.mpr ⟨zhs_isIn, fun _ h => nomatch h⟩) (by decide +kernel) (by decide +kernel) (by decide +kernel)
    (by
      intro xs η hr hl hp hpp
      match xs, hl, hp, hpp with
      | [x1], _, hp, hpp =>
        refine List.forall_mem_cons.mpr ⟨?_, List.forall_mem_cons.mpr ⟨?_, List.forall_mem_cons.mpr ⟨?_, fun _ h => nomatch h⟩⟩⟩
        · refine zden_L (n := 2) (ρ := [x1, 0]) rfl ?_
          show ∀ η1 : zE, η1 = zup η 0 (Int.toNat 2) 0 → ((gC2 wl_hs [(nat_lit 0, zPhs_isIn, zOhs_isIn, zMhs_isIn)] pChs_bestBit0 qChs_bestBit0) 0).1 [x1, 1, 12] η1
          intro η1 eη1
          exact trivial
        · refine zden_L (n := 2) (ρ := [x1, 0]) rfl ?_
          exact zhs_bestBit0_o0 (ro := ro) x1 η hp hpp
        · refine zden_L (n := 2) (ρ := [x1, 0]) rfl ?_
          exact zhs_bestBit0_o1 (ro := ro) x1 η hp hpp
      )
    (fun _ _ _ _ _ _ _ h => nomatch h)
    (List.forall_mem_cons.mpr ⟨⟨zDhs_bestBit0_0, zEhs_bestBit0_0, zFhs_bestBit0_0, 10, by decide +kernel, (by
      intro xs η0 hlx hp hpp ys η hr hl hI hig
      match ys, hl, hI, hig with
      | [x1, x2, x3, x4], _, hI, hig =>
        refine ⟨?_, ?_⟩
        · exact fun _ h => nomatch h
        · exact fun _ h => nomatch h
      )⟩, (fun _ h => nomatch h)⟩))
def zPhs_bestBit1 : zPq := ([((.ofNat (nat_lit 1)), (.ofNat (nat_lit 1)))], [])
def zOhs_bestBit1 : zPo := (((.negSucc (nat_lit 2147483647)), (.ofNat (nat_lit 2147483647))), [], [])
def zMhs_bestBit1 : List zCe := [(nat_lit 0, nat_lit 3)]
def pPhs_bestBit1 : List Int → zE → Prop := fun _ _ => True
def oQhs_bestBit1 : List Int → zE → Int → zE → Prop := fun _ _ _ _ => True
def fQhs_bestBit1 : List Int → zE → Int → zE → Prop := fun xs η y η' => y = (yw_bb (xs.getD 0 0) η) ∧ η' = (zup η 0 2 0)
def pQhs_bestBit1 : List Int → zE → Int → zE → Prop := fun xs η y η' => oQhs_bestBit1 xs η y η' ∧ fQhs_bestBit1 xs η y η'
def pChs_bestBit1 : Nat → List Int → zE → Prop := fun c => match c with
  | 0 => pPhs_isIn
  | _ => fun _ _ => True
def qChs_bestBit1 : Nat → List Int → zE → Int → zE → Prop := fun c => match c with
  | 0 => pQhs_isIn
  | _ => fun _ _ _ _ => True
def iChs_bestBit1 : List Int → zE → Nat → List Int → zE → Prop := fun xs η0 c => match c with
  | 0 => fun ys η => (True) ∧ (yw_bI η0 (xs.getD 0 0) (ys.getD 0 0) (ys.getD 1 0) (ys.getD 2 0) (ys.getD 3 0) η)
  | 1 => fun ys η => (True) ∧ (yw_bJ η0 (xs.getD 0 0) (ys.getD 0 0) (ys.getD 1 0) (ys.getD 2 0) (ys.getD 3 0) (ys.getD 4 0) (ys.getD 5 0) η)
  | _ => fun _ _ => True
def zVhs_bestBit1 : List zIv := [(nat_lit 0, ([((.ofNat (nat_lit 1)), (.ofNat (nat_lit 1))), ((.negSucc (nat_lit 2147483647)), (.ofNat (nat_lit 2147483647))), ((.negSucc (nat_lit 2147483647)), (.ofNat (nat_lit 2147483647))), ((.ofNat (nat_lit 0)), (.ofNat (nat_lit 12)))], []), ((.ofNat (nat_lit 2000)), [((.negSucc (nat_lit 99)), nat_lit 0, nat_lit 3, nat_lit 0)])), (nat_lit 1, ([((.ofNat (nat_lit 1)), (.ofNat (nat_lit 1))), ((.negSucc (nat_lit 2147483647)), (.ofNat (nat_lit 2147483647))), ((.negSucc (nat_lit 2147483647)), (.ofNat (nat_lit 2147483647))), ((.ofNat (nat_lit 0)), (.ofNat (nat_lit 11))), ((.negSucc (nat_lit 2147483647)), (.ofNat (nat_lit 2147483647))), ((.ofNat (nat_lit 0)), (.ofNat (nat_lit 1)))], []), ((.ofNat (nat_lit 1950)), [((.negSucc (nat_lit 99)), nat_lit 0, nat_lit 3, nat_lit 0), ((.negSucc (nat_lit 0)), nat_lit 0, nat_lit 5, nat_lit 0)]))]
def zUhs_bestBit1 : List zCu := [(nat_lit 25, nat_lit 0, [(nat_lit 0, (.inr (.inr (.inl (nat_lit 0))))), (nat_lit 1, (.inl (nat_lit 1, (.ofNat (nat_lit 0))))), (nat_lit 2, (.inl (nat_lit 2, (.ofNat (nat_lit 0))))), (nat_lit 3, (.inl (nat_lit 3, (.ofNat (nat_lit 0))))), (nat_lit 4, (.inl (nat_lit 4, (.ofNat (nat_lit 0)))))], []), (nat_lit 42, nat_lit 1, [(nat_lit 0, (.inr (.inr (.inl (nat_lit 0))))), (nat_lit 1, (.inl (nat_lit 1, (.ofNat (nat_lit 0))))), (nat_lit 2, (.inl (nat_lit 2, (.ofNat (nat_lit 0))))), (nat_lit 3, (.inl (nat_lit 3, (.ofNat (nat_lit 0))))), (nat_lit 4, (.inl (nat_lit 4, (.ofNat (nat_lit 0))))), (nat_lit 5, (.inl (nat_lit 5, (.ofNat (nat_lit 0))))), (nat_lit 6, (.inl (nat_lit 6, (.ofNat (nat_lit 0)))))], [])]
def zDhs_bestBit1 : List (List zK) := []
def zEhs_bestBit1 : List (List zK) := [[(nat_lit 13, nat_lit 0, [(nat_lit 1, (.ofNat (nat_lit 0))), (nat_lit 0, (.ofNat (nat_lit 1))), (nat_lit 0, (.ofNat (nat_lit 12)))]), (nat_lit 5, nat_lit 0, [(nat_lit 0, (.ofNat (nat_lit 0))), (nat_lit 0, (.ofNat (nat_lit 2))), (nat_lit 0, (.ofNat (nat_lit 0)))])],
  [(nat_lit 12, nat_lit 0, [(nat_lit 1, (.ofNat (nat_lit 0))), (nat_lit 0, (.negSucc (nat_lit 1))), (nat_lit 0, (.negSucc (nat_lit 0))), (nat_lit 0, (.ofNat (nat_lit 0)))]), (nat_lit 6, nat_lit 1, [(nat_lit 2, (.ofNat (nat_lit 0))), (nat_lit 0, (.ofNat (nat_lit 0)))]), (nat_lit 8, nat_lit 0, [(nat_lit 1, (.ofNat (nat_lit 0))), (nat_lit 0, (.ofNat (nat_lit 1))), (nat_lit 0, (.ofNat (nat_lit 12)))]), (nat_lit 5, nat_lit 0, [(nat_lit 0, (.ofNat (nat_lit 0))), (nat_lit 0, (.ofNat (nat_lit 2))), (nat_lit 0, (.ofNat (nat_lit 0)))])],
  [(nat_lit 11, nat_lit 0, [(nat_lit 0, (.negSucc (nat_lit 0)))]), (nat_lit 6, nat_lit 0, [(nat_lit 2, (.ofNat (nat_lit 0))), (nat_lit 0, (.ofNat (nat_lit 0)))]), (nat_lit 8, nat_lit 0, [(nat_lit 1, (.ofNat (nat_lit 0))), (nat_lit 0, (.ofNat (nat_lit 1))), (nat_lit 0, (.ofNat (nat_lit 12)))]), (nat_lit 5, nat_lit 0, [(nat_lit 0, (.ofNat (nat_lit 0))), (nat_lit 0, (.ofNat (nat_lit 2))), (nat_lit 0, (.ofNat (nat_lit 0)))])]]
def zFhs_bestBit1 : List (List zK) := []
def zDhs_bestBit1_0 : List (List zK) := []
def zEhs_bestBit1_0 : List (List zK) := [[(nat_lit 11, nat_lit 0, [(nat_lit 2, (.ofNat (nat_lit 0)))]), (nat_lit 6, nat_lit 4, [(nat_lit 5, (.ofNat (nat_lit 0))), (nat_lit 6, (.ofNat (nat_lit 0)))]), (nat_lit 4, nat_lit 0, [(nat_lit 0, (.ofNat (nat_lit 0))), (nat_lit 0, (.ofNat (nat_lit 12)))]), (nat_lit 0, nat_lit 1, [(nat_lit 4, (.ofNat (nat_lit 0))), (nat_lit 1, (.ofNat (nat_lit 0)))])],
  [(nat_lit 10, nat_lit 1, [(nat_lit 1, (.ofNat (nat_lit 0))), (nat_lit 2, (.ofNat (nat_lit 0))), (nat_lit 3, (.ofNat (nat_lit 0))), (nat_lit 4, (.ofNat (nat_lit 0))), (nat_lit 0, (.ofNat (nat_lit 0))), (nat_lit 0, (.ofNat (nat_lit 0)))]), (nat_lit 6, nat_lit 5, [(nat_lit 5, (.ofNat (nat_lit 0))), (nat_lit 6, (.ofNat (nat_lit 0)))]), (nat_lit 4, nat_lit 0, [(nat_lit 0, (.ofNat (nat_lit 0))), (nat_lit 0, (.ofNat (nat_lit 12)))]), (nat_lit 0, nat_lit 1, [(nat_lit 4, (.ofNat (nat_lit 0))), (nat_lit 1, (.ofNat (nat_lit 0)))])]]
def zFhs_bestBit1_0 : List (List zK) := []
def zDhs_bestBit1_1 : List (List zK) := [[(nat_lit 7, nat_lit 0, [(nat_lit 7, (.ofNat (nat_lit 0))), (nat_lit 0, (.ofNat (nat_lit 24)))]), (nat_lit 0, nat_lit 1, [(nat_lit 4, (.ofNat (nat_lit 0))), (nat_lit 6, (.ofNat (nat_lit 0)))]), (nat_lit 6, nat_lit 2, [(nat_lit 6, (.ofNat (nat_lit 0))), (nat_lit 1, (.ofNat (nat_lit 0)))])]]
def zEhs_bestBit1_1 : List (List zK) := [[(nat_lit 10, nat_lit 0, [(nat_lit 1, (.ofNat (nat_lit 0))), (nat_lit 4, (.ofNat (nat_lit 0))), (nat_lit 5, (.ofNat (nat_lit 0))), (nat_lit 7, (.ofNat (nat_lit 0)))]), (nat_lit 0, nat_lit 1, [(nat_lit 4, (.ofNat (nat_lit 0))), (nat_lit 0, (.ofNat (nat_lit 1)))]), (nat_lit 6, nat_lit 4, [(nat_lit 5, (.ofNat (nat_lit 0))), (nat_lit 3, (.ofNat (nat_lit 0)))]), (nat_lit 6, nat_lit 3, [(nat_lit 6, (.ofNat (nat_lit 0))), (nat_lit 1, (.ofNat (nat_lit 0)))])],
  [(nat_lit 10, nat_lit 0, [(nat_lit 1, (.ofNat (nat_lit 0))), (nat_lit 2, (.ofNat (nat_lit 0))), (nat_lit 3, (.ofNat (nat_lit 0))), (nat_lit 7, (.ofNat (nat_lit 0)))]), (nat_lit 0, nat_lit 1, [(nat_lit 4, (.ofNat (nat_lit 0))), (nat_lit 0, (.ofNat (nat_lit 1)))]), (nat_lit 6, nat_lit 5, [(nat_lit 5, (.ofNat (nat_lit 0))), (nat_lit 3, (.ofNat (nat_lit 0)))]), (nat_lit 6, nat_lit 3, [(nat_lit 6, (.ofNat (nat_lit 0))), (nat_lit 1, (.ofNat (nat_lit 0)))])],
  [(nat_lit 10, nat_lit 1, [(nat_lit 1, (.ofNat (nat_lit 0))), (nat_lit 2, (.ofNat (nat_lit 0))), (nat_lit 3, (.ofNat (nat_lit 0))), (nat_lit 4, (.ofNat (nat_lit 0))), (nat_lit 9, (.ofNat (nat_lit 0))), (nat_lit 10, (.ofNat (nat_lit 0)))]), (nat_lit 0, nat_lit 1, [(nat_lit 6, (.ofNat (nat_lit 0))), (nat_lit 0, (.ofNat (nat_lit 1)))]), (nat_lit 0, nat_lit 1, [(nat_lit 5, (.ofNat (nat_lit 0))), (nat_lit 8, (.ofNat (nat_lit 0)))]), (nat_lit 4, nat_lit 0, [(nat_lit 6, (.ofNat (nat_lit 0))), (nat_lit 7, (.ofNat (nat_lit 0)))]), (nat_lit 0, nat_lit 1, [(nat_lit 4, (.ofNat (nat_lit 0))), (nat_lit 6, (.ofNat (nat_lit 0)))]), (nat_lit 6, nat_lit 2, [(nat_lit 6, (.ofNat (nat_lit 0))), (nat_lit 1, (.ofNat (nat_lit 0)))])]]
def zFhs_bestBit1_1 : List (List zK) := []
set_option maxHeartbeats 8000000 in
theorem zhs_bestBit1_o0 {ro : Nat → List Int32} (x1 : Int) (η : zE) (hp : sP wl_hs zTr zPhs_bestBit1 [x1] η) (hpp : pPhs_bestBit1 [x1] η) : ∀ η1 : zE, η1 = zup η 0 (Int.toNat 2) 0 → ∀ (x2 : Int) (η2 : zE), ((gC2 wl_hs [(nat_lit 0, zPhs_isIn, zOhs_isIn, zMhs_isIn)] pChs_bestBit1 qChs_bestBit1) 0).2 [x1, 1, 12] η1 x2 η2 → (¬ x2 = 0) → (iChs_bestBit1 [x1] η) 0 [x1, (-2), (-1), 0] η2 := by
  intro η1 eη1 x2 η2 h2 c1
  have y2 : fQhs_isIn [x1, 1, 12] η1 x2 η2 := h2.2.2
  have k2 : sQ wl_hs zTr zOhs_isIn zMhs_isIn [x1, 1, 12] η1 x2 η2 ∧ oQhs_isIn [x1, 1, 12] η1 x2 η2 := ⟨h2.1, h2.2.1⟩
  refine yj_a ?_ ?_
  · have y2 : fQhs_isIn [x1, 1, 12] η1 x2 η2 := h2.2.2
    have k2 : sQ wl_hs zTr zOhs_isIn zMhs_isIn [x1, 1, 12] η1 x2 η2 ∧ oQhs_isIn [x1, 1, 12] η1 x2 η2 := ⟨h2.1, h2.2.1⟩
    exact trivial
  · have eη1 : η1 = zup η 0 2 0 := eη1
    obtain ⟨a2, b2⟩ : x2 = yq_in x1 1 12 ∧ η2 = η1 := y2
    show yw_bI η x1 x1 (-2) (-1) 0 η2
    exact wbI_0 (by rw [b2, eη1]) (by omega)
set_option maxHeartbeats 8000000 in
theorem zhs_bestBit1_o1 {ro : Nat → List Int32} (x1 : Int) (η : zE) (hp : sP wl_hs zTr zPhs_bestBit1 [x1] η) (hpp : pPhs_bestBit1 [x1] η) : ∀ η1 : zE, η1 = zup η 0 (Int.toNat 2) 0 → ∀ (x2 : Int) (η2 : zE), ((gC2 wl_hs [(nat_lit 0, zPhs_isIn, zOhs_isIn, zMhs_isIn)] pChs_bestBit1 qChs_bestBit1) 0).2 [x1, 1, 12] η1 x2 η2 → (x2 = 0) → (fun (_ : Nat) (y : Int) (η' : zE) => pQhs_bestBit1 [x1] η y η') 0 (-1) η2 := by
  intro η1 eη1 x2 η2 h2 c1
  have y2 : fQhs_isIn [x1, 1, 12] η1 x2 η2 := h2.2.2
  have k2 : sQ wl_hs zTr zOhs_isIn zMhs_isIn [x1, 1, 12] η1 x2 η2 ∧ oQhs_isIn [x1, 1, 12] η1 x2 η2 := ⟨h2.1, h2.2.1⟩
  refine yj_a ?_ ?_
  · have y2 : fQhs_isIn [x1, 1, 12] η1 x2 η2 := h2.2.2
    have k2 : sQ wl_hs zTr zOhs_isIn zMhs_isIn [x1, 1, 12] η1 x2 η2 ∧ oQhs_isIn [x1, 1, 12] η1 x2 η2 := ⟨h2.1, h2.2.1⟩
    exact trivial
  · have eη1 : η1 = zup η 0 2 0 := eη1
    obtain ⟨a2, b2⟩ : x2 = yq_in x1 1 12 ∧ η2 = η1 := y2
    show -1 = yw_bb x1 η ∧ η2 = zup η 0 2 0
    exact ⟨by unfold yw_bb; rw [if_pos (by omega)], (by rw [b2, eη1])⟩
set_option maxHeartbeats 8000000 in
theorem zhs_bestBit1_o2 {ro : Nat → List Int32} (xs : List Int) (η0 : zE) (hp : sP wl_hs zTr zPhs_bestBit1 xs η0) (hpp : pPhs_bestBit1 xs η0) (x1 x2 x3 x4 : Int) (η : zE) (hI : zsI wl_hs zTr zVhs_bestBit1 zMhs_bestBit1 η0 0 [x1, x2, x3, x4] η) (hig : iChs_bestBit1 xs η0 0 [x1, x2, x3, x4] η) : ∀ x5 : Int, x5 = zd 0 1 x4 x1 → ∀ x6 : Int, x6 = η 0 (Int.toNat 12) → zok 0 x6 → (x6 < x5) → (fun (_ : Nat) (y : Int) (η' : zE) => pQhs_bestBit1 xs η0 y η') 0 x2 η := by
  have fig := hig.2
  have hig := hig.1
  intro x5 e5 x6 e6 r6 c1
  refine yj_a ?_ ?_
  · exact trivial
  · have e5 : x5 = zd 0 1 x4 x1 := e5
    have e6 : x6 = η 0 12 := e6
    have b4 : (0 : Int) ≤ x4 ∧ x4 ≤ 12 := hI.1.2.1.2.2.2.1
    exact wbI_e (k := x1) (m := x3) (f := x4) fig (by omega) e5 (by rw [← e6]; omega)
set_option maxHeartbeats 8000000 in
theorem zhs_bestBit1_o3 {ro : Nat → List Int32} (xs : List Int) (η0 : zE) (hp : sP wl_hs zTr zPhs_bestBit1 xs η0) (hpp : pPhs_bestBit1 xs η0) (x1 x2 x3 x4 : Int) (η : zE) (hI : zsI wl_hs zTr zVhs_bestBit1 zMhs_bestBit1 η0 0 [x1, x2, x3, x4] η) (hig : iChs_bestBit1 xs η0 0 [x1, x2, x3, x4] η) : ∀ x5 : Int, x5 = zd 0 1 x4 x1 → ∀ x6 : Int, x6 = η 0 (Int.toNat 12) → zok 0 x6 → (x5 ≤ x6) → (iChs_bestBit1 xs η0) 1 [x1, x2, x3, x4, 0, 0] η ∧ (fun (_ : Nat) (_ : List Int) (_ : zE) => (0 : Nat)) 1 [x1, x2, x3, x4, 0, 0] η < 1 := by
  have fig := hig.2
  have hig := hig.1
  intro x5 e5 x6 e6 r6 c1
  refine yj_c ?_ ?_
  · exact ⟨trivial, Nat.zero_lt_one⟩
  · have e5 : x5 = zd 0 1 x4 x1 := e5
    have e6 : x6 = η 0 12 := e6
    have b4 : (0 : Int) ≤ x4 ∧ x4 ≤ 12 := hI.1.2.1.2.2.2.1
    show yw_bJ η0 (xs.getD 0 0) x1 x2 x3 x4 0 0 η
    exact wbJ_0 fig (by omega) e5 (by rw [← e6]; omega)
set_option maxHeartbeats 8000000 in
theorem zhs_bestBit1_o4 {ro : Nat → List Int32} (xs : List Int) (η0 : zE) (hp : sP wl_hs zTr zPhs_bestBit1 xs η0) (hpp : pPhs_bestBit1 xs η0) (x1 x2 x3 x4 x5 x6 : Int) (η : zE) (hI : zsI wl_hs zTr zVhs_bestBit1 zMhs_bestBit1 η0 1 [x1, x2, x3, x4, x5, x6] η) (hig : iChs_bestBit1 xs η0 1 [x1, x2, x3, x4, x5, x6] η) : (x1 ≤ x6) → (x3 < x5) → ∀ x7 : Int, x7 = zd 0 1 x4 1 → (iChs_bestBit1 xs η0) 0 [x1, x4, x5, x7] η ∧ (fun (_ : Nat) (_ : List Int) (_ : zE) => (0 : Nat)) 0 [x1, x4, x5, x7] η < 1 := by
  have fig := hig.2
  have hig := hig.1
  intro c1 c2 x7 e7
  refine yj_c ?_ ?_
  · exact ⟨trivial, Nat.zero_lt_one⟩
  · have e7 : x7 = zd 0 1 x4 1 := e7
    have b4 : (0 : Int) ≤ x4 ∧ x4 ≤ 11 := hI.1.2.1.2.2.2.1
    show yw_bI η0 (xs.getD 0 0) x1 x4 x5 x7 η
    refine wbJ_e (b := x2) (m := x3) (k := x1) (f := x4) (i := x6) (s := x5) fig (by omega) (by omega) e7 ?_
    rw [if_pos (by omega)]
set_option maxHeartbeats 8000000 in
theorem zhs_bestBit1_o5 {ro : Nat → List Int32} (xs : List Int) (η0 : zE) (hp : sP wl_hs zTr zPhs_bestBit1 xs η0) (hpp : pPhs_bestBit1 xs η0) (x1 x2 x3 x4 x5 x6 : Int) (η : zE) (hI : zsI wl_hs zTr zVhs_bestBit1 zMhs_bestBit1 η0 1 [x1, x2, x3, x4, x5, x6] η) (hig : iChs_bestBit1 xs η0 1 [x1, x2, x3, x4, x5, x6] η) : (x1 ≤ x6) → (x5 ≤ x3) → ∀ x7 : Int, x7 = zd 0 1 x4 1 → (iChs_bestBit1 xs η0) 0 [x1, x2, x3, x7] η ∧ (fun (_ : Nat) (_ : List Int) (_ : zE) => (0 : Nat)) 0 [x1, x2, x3, x7] η < 1 := by
  have fig := hig.2
  have hig := hig.1
  intro c1 c2 x7 e7
  refine yj_c ?_ ?_
  · exact ⟨trivial, Nat.zero_lt_one⟩
  · have e7 : x7 = zd 0 1 x4 1 := e7
    have b4 : (0 : Int) ≤ x4 ∧ x4 ≤ 11 := hI.1.2.1.2.2.2.1
    show yw_bI η0 (xs.getD 0 0) x1 x2 x3 x7 η
    refine wbJ_e (b := x2) (m := x3) (k := x1) (f := x4) (i := x6) (s := x5) fig (by omega) (by omega) e7 ?_
    rw [if_neg (by omega)]
set_option maxHeartbeats 8000000 in
theorem zhs_bestBit1_o6 {ro : Nat → List Int32} (xs : List Int) (η0 : zE) (hp : sP wl_hs zTr zPhs_bestBit1 xs η0) (hpp : pPhs_bestBit1 xs η0) (x1 x2 x3 x4 x5 x6 : Int) (η : zE) (hI : zsI wl_hs zTr zVhs_bestBit1 zMhs_bestBit1 η0 1 [x1, x2, x3, x4, x5, x6] η) (hig : iChs_bestBit1 xs η0 1 [x1, x2, x3, x4, x5, x6] η) : (x6 < x1) → ∀ x7 : Int, x7 = zd 0 1 x4 x6 → ∀ x8 : Int, x8 = η 6 (Int.toNat x7) → zok 0 x8 → ∀ x9 : Int, x9 = zd 0 1 x5 x8 → ∀ x10 : Int, x10 = zd 0 1 x6 1 → (iChs_bestBit1 xs η0) 1 [x1, x2, x3, x4, x9, x10] η ∧ (fun (_ : Nat) (_ : List Int) (_ : zE) => (0 : Nat)) 1 [x1, x2, x3, x4, x9, x10] η < 1 := by
  have fig := hig.2
  have hig := hig.1
  intro c1 x7 e7 x8 e8 r8 x9 e9 x10 e10
  refine yj_c ?_ ?_
  · exact ⟨trivial, Nat.zero_lt_one⟩
  · have e7 : x7 = zd 0 1 x4 x6 := e7
    have e8 : x8 = η 6 (Int.toNat x7) := e8
    have e9 : x9 = zd 0 1 x5 x8 := e9
    have e10 : x10 = zd 0 1 x6 1 := e10
    have b4 : (0 : Int) ≤ x4 ∧ x4 ≤ 11 := hI.1.2.1.2.2.2.1
    show yw_bJ η0 (xs.getD 0 0) x1 x2 x3 x4 x9 x10 η
    exact wbJ_s (k := x1) (f := x4) (i := x6) fig (by omega) (by omega) e7 e8 e9 e10
set_option maxHeartbeats 8000000 in
theorem zhs_bestBit1 {ro : Nat → List Int32} : zMet pr_P pr_K pr_df ro (sm_X0 1 6) 1 200 tm_hs [(.inr (.inr (.inl (nat_lit 0)))), (.inl (nat_lit 1, (.ofNat (nat_lit 0))))] 1 [(nat_lit 0, nat_lit 0, nat_lit 1), (nat_lit 0, nat_lit 3, nat_lit 2), (nat_lit 0, nat_lit 20, nat_lit 3), (nat_lit 0, nat_lit 21, nat_lit 4), (nat_lit 0, nat_lit 22, nat_lit 5), (nat_lit 0, nat_lit 23, nat_lit 6), (nat_lit 0, nat_lit 24, nat_lit 7), (nat_lit 0, nat_lit 25, nat_lit 8), (nat_lit 0, nat_lit 26, nat_lit 9), (nat_lit 0, nat_lit 27, nat_lit 10), (nat_lit 0, nat_lit 28, nat_lit 11), (nat_lit 0, nat_lit 29, nat_lit 12), (nat_lit 0, nat_lit 30, nat_lit 13), (nat_lit 0, nat_lit 31, nat_lit 14), (nat_lit 0, nat_lit 32, nat_lit 15), (nat_lit 0, nat_lit 33, nat_lit 16), (nat_lit 0, nat_lit 34, nat_lit 17), (nat_lit 0, nat_lit 35, nat_lit 18), (nat_lit 0, nat_lit 36, nat_lit 19), (nat_lit 0, nat_lit 37, nat_lit 20), (nat_lit 0, nat_lit 38, nat_lit 21), (nat_lit 0, nat_lit 39, nat_lit 22), (nat_lit 0, nat_lit 40, nat_lit 23), (nat_lit 0, nat_lit 47, nat_lit 24), (nat_lit 0, nat_lit 48, nat_lit 25), (nat_lit 0, nat_lit 50, nat_lit 26), (nat_lit 0, nat_lit 51, nat_lit 27), (nat_lit 0, nat_lit 52, nat_lit 28), (nat_lit 0, nat_lit 53, nat_lit 29), (nat_lit 0, nat_lit 54, nat_lit 30), (nat_lit 0, nat_lit 55, nat_lit 31), (nat_lit 0, nat_lit 56, nat_lit 32), (nat_lit 0, nat_lit 57, nat_lit 33), (nat_lit 0, nat_lit 58, nat_lit 34), (nat_lit 0, nat_lit 59, nat_lit 35), (nat_lit 0, nat_lit 72, nat_lit 36), (nat_lit 0, nat_lit 73, nat_lit 37), (nat_lit 0, nat_lit 76, nat_lit 38), (nat_lit 0, nat_lit 77, nat_lit 39), (nat_lit 0, nat_lit 79, nat_lit 40), (nat_lit 0, nat_lit 81, nat_lit 41), (nat_lit 0, nat_lit 82, nat_lit 42)] [] (fun xs η => sP wl_hs zTr zPhs_bestBit1 xs η ∧ pPhs_bestBit1 xs η) (fun xs η y η' => sQ wl_hs zTr zOhs_bestBit1 zMhs_bestBit1 xs η y η' ∧ pQhs_bestBit1 xs η y η') :=
  zmet_alt (zmea_gen (mi := (nat_lit 1, nat_lit 1, nat_lit 8, nat_lit 7, nat_lit 1, tX8_bestBit)) (cd := [(nat_lit 117, nat_lit 0, nat_lit 0, [(.inl (nat_lit 1, (.ofNat (nat_lit 0)))), (.inl (nat_lit 2, (.ofNat (nat_lit 0)))), (.inl (nat_lit 3, (.ofNat (nat_lit 0))))], nat_lit 2, [], [])]) (cu := zUhs_bestBit1) (cs := [(nat_lit 0, zPhs_isIn, zOhs_isIn, zMhs_isIn)]) (iv := zVhs_bestBit1) (po := [zOhs_bestBit1]) (pr := zPhs_bestBit1) (mods := zMhs_bestBit1) (D7 := zDhs_bestBit1) (D0 := zEhs_bestBit1) (Dm := zFhs_bestBit1) (f0 := 19) pChs_bestBit1 qChs_bestBit1 iChs_bestBit1 pPhs_bestBit1 (fun xs η _ y η' => pQhs_bestBit1 xs η y η') zX_low pr_mtR rfl (List.forall_mem_cons.mpr ⟨zhs_isIn, fun _ h => nomatch h⟩) (by decide +kernel) (by decide +kernel) (by decide +kernel)
    (by
      intro xs η hr hl hp hpp
      match xs, hl, hp, hpp with
      | [x1], _, hp, hpp =>
        refine List.forall_mem_cons.mpr ⟨?_, List.forall_mem_cons.mpr ⟨?_, List.forall_mem_cons.mpr ⟨?_, fun _ h => nomatch h⟩⟩⟩
        · refine zden_L (n := 2) (ρ := [x1, 0]) rfl ?_
          show ∀ η1 : zE, η1 = zup η 0 (Int.toNat 2) 0 → ((gC2 wl_hs [(nat_lit 0, zPhs_isIn, zOhs_isIn, zMhs_isIn)] pChs_bestBit1 qChs_bestBit1) 0).1 [x1, 1, 12] η1
          intro η1 eη1
          exact trivial
        · refine zden_L (n := 2) (ρ := [x1, 0]) rfl ?_
          exact zhs_bestBit1_o0 (ro := ro) x1 η hp hpp
        · refine zden_L (n := 2) (ρ := [x1, 0]) rfl ?_
          exact zhs_bestBit1_o1 (ro := ro) x1 η hp hpp
      )
    (fun _ _ _ _ _ _ _ h => nomatch h)
    (List.forall_mem_cons.mpr ⟨⟨zDhs_bestBit1_0, zEhs_bestBit1_0, zFhs_bestBit1_0, 15, by decide +kernel, (by
      intro xs η0 hlx hp hpp ys η hr hl hI hig
      match ys, hl, hI, hig with
      | [x1, x2, x3, x4], _, hI, hig =>
        refine ⟨?_, ?_⟩
        · refine List.forall_mem_cons.mpr ⟨?_, List.forall_mem_cons.mpr ⟨?_, fun _ h => nomatch h⟩⟩
          · refine zden_L (n := 5) (ρ := [x4, x3, x2, x1, 0]) rfl ?_
            exact zhs_bestBit1_o2 (ro := ro) xs η0 hp hpp x1 x2 x3 x4 η hI hig
          · refine zden_L (n := 5) (ρ := [x4, x3, x2, x1, 0]) rfl ?_
            exact zhs_bestBit1_o3 (ro := ro) xs η0 hp hpp x1 x2 x3 x4 η hI hig
        · exact fun _ h => nomatch h
      )⟩, (List.forall_mem_cons.mpr ⟨⟨zDhs_bestBit1_1, zEhs_bestBit1_1, zFhs_bestBit1_1, 19, by decide +kernel, (by
      intro xs η0 hlx hp hpp ys η hr hl hI hig
      match ys, hl, hI, hig with
      | [x1, x2, x3, x4, x5, x6], _, hI, hig =>
        refine ⟨?_, ?_⟩
        · refine List.forall_mem_cons.mpr ⟨?_, List.forall_mem_cons.mpr ⟨?_, List.forall_mem_cons.mpr ⟨?_, fun _ h => nomatch h⟩⟩⟩
          · refine zden_L (n := 7) (ρ := [x6, x5, x4, x3, x2, x1, 0]) rfl ?_
            exact zhs_bestBit1_o4 (ro := ro) xs η0 hp hpp x1 x2 x3 x4 x5 x6 η hI hig
          · refine zden_L (n := 7) (ρ := [x6, x5, x4, x3, x2, x1, 0]) rfl ?_
            exact zhs_bestBit1_o5 (ro := ro) xs η0 hp hpp x1 x2 x3 x4 x5 x6 η hI hig
          · refine zden_L (n := 7) (ρ := [x6, x5, x4, x3, x2, x1, 0]) rfl ?_
            exact zhs_bestBit1_o6 (ro := ro) xs η0 hp hpp x1 x2 x3 x4 x5 x6 η hI hig
        · exact fun _ h => nomatch h
      )⟩, (fun _ h => nomatch h)⟩)⟩))
def zPhs_bestBit2 : zPq := ([((.ofNat (nat_lit 2)), (.ofNat (nat_lit 2)))], [])
def zOhs_bestBit2 : zPo := (((.negSucc (nat_lit 2147483647)), (.ofNat (nat_lit 2147483647))), [], [])
def zMhs_bestBit2 : List zCe := [(nat_lit 0, nat_lit 3)]
def pPhs_bestBit2 : List Int → zE → Prop := fun _ _ => True
def oQhs_bestBit2 : List Int → zE → Int → zE → Prop := fun _ _ _ _ => True
def fQhs_bestBit2 : List Int → zE → Int → zE → Prop := fun xs η y η' => y = (yw_bb (xs.getD 0 0) η) ∧ η' = (zup η 0 2 0)
def pQhs_bestBit2 : List Int → zE → Int → zE → Prop := fun xs η y η' => oQhs_bestBit2 xs η y η' ∧ fQhs_bestBit2 xs η y η'
def pChs_bestBit2 : Nat → List Int → zE → Prop := fun c => match c with
  | 0 => pPhs_isIn
  | _ => fun _ _ => True
def qChs_bestBit2 : Nat → List Int → zE → Int → zE → Prop := fun c => match c with
  | 0 => pQhs_isIn
  | _ => fun _ _ _ _ => True
def iChs_bestBit2 : List Int → zE → Nat → List Int → zE → Prop := fun xs η0 c => match c with
  | 0 => fun ys η => (True) ∧ (yw_bI η0 (xs.getD 0 0) (ys.getD 0 0) (ys.getD 1 0) (ys.getD 2 0) (ys.getD 3 0) η)
  | 1 => fun ys η => (True) ∧ (yw_bJ η0 (xs.getD 0 0) (ys.getD 0 0) (ys.getD 1 0) (ys.getD 2 0) (ys.getD 3 0) (ys.getD 4 0) (ys.getD 5 0) η)
  | _ => fun _ _ => True
def zVhs_bestBit2 : List zIv := [(nat_lit 0, ([((.ofNat (nat_lit 2)), (.ofNat (nat_lit 2))), ((.negSucc (nat_lit 2147483647)), (.ofNat (nat_lit 2147483647))), ((.negSucc (nat_lit 2147483647)), (.ofNat (nat_lit 2147483647))), ((.ofNat (nat_lit 0)), (.ofNat (nat_lit 11)))], []), ((.ofNat (nat_lit 2000)), [((.negSucc (nat_lit 99)), nat_lit 0, nat_lit 3, nat_lit 0)])), (nat_lit 1, ([((.ofNat (nat_lit 2)), (.ofNat (nat_lit 2))), ((.negSucc (nat_lit 2147483647)), (.ofNat (nat_lit 2147483647))), ((.negSucc (nat_lit 2147483647)), (.ofNat (nat_lit 2147483647))), ((.ofNat (nat_lit 0)), (.ofNat (nat_lit 10))), ((.negSucc (nat_lit 2147483647)), (.ofNat (nat_lit 2147483647))), ((.ofNat (nat_lit 0)), (.ofNat (nat_lit 2)))], []), ((.ofNat (nat_lit 1950)), [((.negSucc (nat_lit 99)), nat_lit 0, nat_lit 3, nat_lit 0), ((.negSucc (nat_lit 0)), nat_lit 0, nat_lit 5, nat_lit 0)]))]
def zUhs_bestBit2 : List zCu := [(nat_lit 25, nat_lit 0, [(nat_lit 0, (.inr (.inr (.inl (nat_lit 0))))), (nat_lit 1, (.inl (nat_lit 1, (.ofNat (nat_lit 0))))), (nat_lit 2, (.inl (nat_lit 2, (.ofNat (nat_lit 0))))), (nat_lit 3, (.inl (nat_lit 3, (.ofNat (nat_lit 0))))), (nat_lit 4, (.inl (nat_lit 4, (.ofNat (nat_lit 0)))))], []), (nat_lit 42, nat_lit 1, [(nat_lit 0, (.inr (.inr (.inl (nat_lit 0))))), (nat_lit 1, (.inl (nat_lit 1, (.ofNat (nat_lit 0))))), (nat_lit 2, (.inl (nat_lit 2, (.ofNat (nat_lit 0))))), (nat_lit 3, (.inl (nat_lit 3, (.ofNat (nat_lit 0))))), (nat_lit 4, (.inl (nat_lit 4, (.ofNat (nat_lit 0))))), (nat_lit 5, (.inl (nat_lit 5, (.ofNat (nat_lit 0))))), (nat_lit 6, (.inl (nat_lit 6, (.ofNat (nat_lit 0)))))], [])]
def zDhs_bestBit2 : List (List zK) := []
def zEhs_bestBit2 : List (List zK) := [[(nat_lit 13, nat_lit 0, [(nat_lit 1, (.ofNat (nat_lit 0))), (nat_lit 0, (.ofNat (nat_lit 1))), (nat_lit 0, (.ofNat (nat_lit 12)))]), (nat_lit 5, nat_lit 0, [(nat_lit 0, (.ofNat (nat_lit 0))), (nat_lit 0, (.ofNat (nat_lit 2))), (nat_lit 0, (.ofNat (nat_lit 0)))])],
  [(nat_lit 12, nat_lit 0, [(nat_lit 1, (.ofNat (nat_lit 0))), (nat_lit 0, (.negSucc (nat_lit 1))), (nat_lit 0, (.negSucc (nat_lit 0))), (nat_lit 0, (.ofNat (nat_lit 0)))]), (nat_lit 6, nat_lit 1, [(nat_lit 2, (.ofNat (nat_lit 0))), (nat_lit 0, (.ofNat (nat_lit 0)))]), (nat_lit 8, nat_lit 0, [(nat_lit 1, (.ofNat (nat_lit 0))), (nat_lit 0, (.ofNat (nat_lit 1))), (nat_lit 0, (.ofNat (nat_lit 12)))]), (nat_lit 5, nat_lit 0, [(nat_lit 0, (.ofNat (nat_lit 0))), (nat_lit 0, (.ofNat (nat_lit 2))), (nat_lit 0, (.ofNat (nat_lit 0)))])],
  [(nat_lit 11, nat_lit 0, [(nat_lit 0, (.negSucc (nat_lit 0)))]), (nat_lit 6, nat_lit 0, [(nat_lit 2, (.ofNat (nat_lit 0))), (nat_lit 0, (.ofNat (nat_lit 0)))]), (nat_lit 8, nat_lit 0, [(nat_lit 1, (.ofNat (nat_lit 0))), (nat_lit 0, (.ofNat (nat_lit 1))), (nat_lit 0, (.ofNat (nat_lit 12)))]), (nat_lit 5, nat_lit 0, [(nat_lit 0, (.ofNat (nat_lit 0))), (nat_lit 0, (.ofNat (nat_lit 2))), (nat_lit 0, (.ofNat (nat_lit 0)))])]]
def zFhs_bestBit2 : List (List zK) := []
def zDhs_bestBit2_0 : List (List zK) := []
def zEhs_bestBit2_0 : List (List zK) := [[(nat_lit 11, nat_lit 0, [(nat_lit 2, (.ofNat (nat_lit 0)))]), (nat_lit 6, nat_lit 4, [(nat_lit 5, (.ofNat (nat_lit 0))), (nat_lit 6, (.ofNat (nat_lit 0)))]), (nat_lit 4, nat_lit 0, [(nat_lit 0, (.ofNat (nat_lit 0))), (nat_lit 0, (.ofNat (nat_lit 12)))]), (nat_lit 0, nat_lit 1, [(nat_lit 4, (.ofNat (nat_lit 0))), (nat_lit 1, (.ofNat (nat_lit 0)))])],
  [(nat_lit 10, nat_lit 1, [(nat_lit 1, (.ofNat (nat_lit 0))), (nat_lit 2, (.ofNat (nat_lit 0))), (nat_lit 3, (.ofNat (nat_lit 0))), (nat_lit 4, (.ofNat (nat_lit 0))), (nat_lit 0, (.ofNat (nat_lit 0))), (nat_lit 0, (.ofNat (nat_lit 0)))]), (nat_lit 6, nat_lit 5, [(nat_lit 5, (.ofNat (nat_lit 0))), (nat_lit 6, (.ofNat (nat_lit 0)))]), (nat_lit 4, nat_lit 0, [(nat_lit 0, (.ofNat (nat_lit 0))), (nat_lit 0, (.ofNat (nat_lit 12)))]), (nat_lit 0, nat_lit 1, [(nat_lit 4, (.ofNat (nat_lit 0))), (nat_lit 1, (.ofNat (nat_lit 0)))])]]
def zFhs_bestBit2_0 : List (List zK) := []
def zDhs_bestBit2_1 : List (List zK) := [[(nat_lit 7, nat_lit 0, [(nat_lit 7, (.ofNat (nat_lit 0))), (nat_lit 0, (.ofNat (nat_lit 24)))]), (nat_lit 0, nat_lit 1, [(nat_lit 4, (.ofNat (nat_lit 0))), (nat_lit 6, (.ofNat (nat_lit 0)))]), (nat_lit 6, nat_lit 2, [(nat_lit 6, (.ofNat (nat_lit 0))), (nat_lit 1, (.ofNat (nat_lit 0)))])]]
def zEhs_bestBit2_1 : List (List zK) := [[(nat_lit 10, nat_lit 0, [(nat_lit 1, (.ofNat (nat_lit 0))), (nat_lit 4, (.ofNat (nat_lit 0))), (nat_lit 5, (.ofNat (nat_lit 0))), (nat_lit 7, (.ofNat (nat_lit 0)))]), (nat_lit 0, nat_lit 1, [(nat_lit 4, (.ofNat (nat_lit 0))), (nat_lit 0, (.ofNat (nat_lit 1)))]), (nat_lit 6, nat_lit 4, [(nat_lit 5, (.ofNat (nat_lit 0))), (nat_lit 3, (.ofNat (nat_lit 0)))]), (nat_lit 6, nat_lit 3, [(nat_lit 6, (.ofNat (nat_lit 0))), (nat_lit 1, (.ofNat (nat_lit 0)))])],
  [(nat_lit 10, nat_lit 0, [(nat_lit 1, (.ofNat (nat_lit 0))), (nat_lit 2, (.ofNat (nat_lit 0))), (nat_lit 3, (.ofNat (nat_lit 0))), (nat_lit 7, (.ofNat (nat_lit 0)))]), (nat_lit 0, nat_lit 1, [(nat_lit 4, (.ofNat (nat_lit 0))), (nat_lit 0, (.ofNat (nat_lit 1)))]), (nat_lit 6, nat_lit 5, [(nat_lit 5, (.ofNat (nat_lit 0))), (nat_lit 3, (.ofNat (nat_lit 0)))]), (nat_lit 6, nat_lit 3, [(nat_lit 6, (.ofNat (nat_lit 0))), (nat_lit 1, (.ofNat (nat_lit 0)))])],
  [(nat_lit 10, nat_lit 1, [(nat_lit 1, (.ofNat (nat_lit 0))), (nat_lit 2, (.ofNat (nat_lit 0))), (nat_lit 3, (.ofNat (nat_lit 0))), (nat_lit 4, (.ofNat (nat_lit 0))), (nat_lit 9, (.ofNat (nat_lit 0))), (nat_lit 10, (.ofNat (nat_lit 0)))]), (nat_lit 0, nat_lit 1, [(nat_lit 6, (.ofNat (nat_lit 0))), (nat_lit 0, (.ofNat (nat_lit 1)))]), (nat_lit 0, nat_lit 1, [(nat_lit 5, (.ofNat (nat_lit 0))), (nat_lit 8, (.ofNat (nat_lit 0)))]), (nat_lit 4, nat_lit 0, [(nat_lit 6, (.ofNat (nat_lit 0))), (nat_lit 7, (.ofNat (nat_lit 0)))]), (nat_lit 0, nat_lit 1, [(nat_lit 4, (.ofNat (nat_lit 0))), (nat_lit 6, (.ofNat (nat_lit 0)))]), (nat_lit 6, nat_lit 2, [(nat_lit 6, (.ofNat (nat_lit 0))), (nat_lit 1, (.ofNat (nat_lit 0)))])]]
def zFhs_bestBit2_1 : List (List zK) := []
set_option maxHeartbeats 8000000 in
theorem zhs_bestBit2_o0 {ro : Nat → List Int32} (x1 : Int) (η : zE) (hp : sP wl_hs zTr zPhs_bestBit2 [x1] η) (hpp : pPhs_bestBit2 [x1] η) : ∀ η1 : zE, η1 = zup η 0 (Int.toNat 2) 0 → ∀ (x2 : Int) (η2 : zE), ((gC2 wl_hs [(nat_lit 0, zPhs_isIn, zOhs_isIn, zMhs_isIn)] pChs_bestBit2 qChs_bestBit2) 0).2 [x1, 1, 12] η1 x2 η2 → (¬ x2 = 0) → (iChs_bestBit2 [x1] η) 0 [x1, (-2), (-1), 0] η2 := by
  intro η1 eη1 x2 η2 h2 c1
  have y2 : fQhs_isIn [x1, 1, 12] η1 x2 η2 := h2.2.2
  have k2 : sQ wl_hs zTr zOhs_isIn zMhs_isIn [x1, 1, 12] η1 x2 η2 ∧ oQhs_isIn [x1, 1, 12] η1 x2 η2 := ⟨h2.1, h2.2.1⟩
  refine yj_a ?_ ?_
  · have y2 : fQhs_isIn [x1, 1, 12] η1 x2 η2 := h2.2.2
    have k2 : sQ wl_hs zTr zOhs_isIn zMhs_isIn [x1, 1, 12] η1 x2 η2 ∧ oQhs_isIn [x1, 1, 12] η1 x2 η2 := ⟨h2.1, h2.2.1⟩
    exact trivial
  · have eη1 : η1 = zup η 0 2 0 := eη1
    obtain ⟨a2, b2⟩ : x2 = yq_in x1 1 12 ∧ η2 = η1 := y2
    show yw_bI η x1 x1 (-2) (-1) 0 η2
    exact wbI_0 (by rw [b2, eη1]) (by omega)
set_option maxHeartbeats 8000000 in
theorem zhs_bestBit2_o1 {ro : Nat → List Int32} (x1 : Int) (η : zE) (hp : sP wl_hs zTr zPhs_bestBit2 [x1] η) (hpp : pPhs_bestBit2 [x1] η) : ∀ η1 : zE, η1 = zup η 0 (Int.toNat 2) 0 → ∀ (x2 : Int) (η2 : zE), ((gC2 wl_hs [(nat_lit 0, zPhs_isIn, zOhs_isIn, zMhs_isIn)] pChs_bestBit2 qChs_bestBit2) 0).2 [x1, 1, 12] η1 x2 η2 → (x2 = 0) → (fun (_ : Nat) (y : Int) (η' : zE) => pQhs_bestBit2 [x1] η y η') 0 (-1) η2 := by
  intro η1 eη1 x2 η2 h2 c1
  have y2 : fQhs_isIn [x1, 1, 12] η1 x2 η2 := h2.2.2
  have k2 : sQ wl_hs zTr zOhs_isIn zMhs_isIn [x1, 1, 12] η1 x2 η2 ∧ oQhs_isIn [x1, 1, 12] η1 x2 η2 := ⟨h2.1, h2.2.1⟩
  refine yj_a ?_ ?_
  · have y2 : fQhs_isIn [x1, 1, 12] η1 x2 η2 := h2.2.2
    have k2 : sQ wl_hs zTr zOhs_isIn zMhs_isIn [x1, 1, 12] η1 x2 η2 ∧ oQhs_isIn [x1, 1, 12] η1 x2 η2 := ⟨h2.1, h2.2.1⟩
    exact trivial
  · have eη1 : η1 = zup η 0 2 0 := eη1
    obtain ⟨a2, b2⟩ : x2 = yq_in x1 1 12 ∧ η2 = η1 := y2
    show -1 = yw_bb x1 η ∧ η2 = zup η 0 2 0
    exact ⟨by unfold yw_bb; rw [if_pos (by omega)], (by rw [b2, eη1])⟩
set_option maxHeartbeats 8000000 in
theorem zhs_bestBit2_o2 {ro : Nat → List Int32} (xs : List Int) (η0 : zE) (hp : sP wl_hs zTr zPhs_bestBit2 xs η0) (hpp : pPhs_bestBit2 xs η0) (x1 x2 x3 x4 : Int) (η : zE) (hI : zsI wl_hs zTr zVhs_bestBit2 zMhs_bestBit2 η0 0 [x1, x2, x3, x4] η) (hig : iChs_bestBit2 xs η0 0 [x1, x2, x3, x4] η) : ∀ x5 : Int, x5 = zd 0 1 x4 x1 → ∀ x6 : Int, x6 = η 0 (Int.toNat 12) → zok 0 x6 → (x6 < x5) → (fun (_ : Nat) (y : Int) (η' : zE) => pQhs_bestBit2 xs η0 y η') 0 x2 η := by
  have fig := hig.2
  have hig := hig.1
  intro x5 e5 x6 e6 r6 c1
  refine yj_a ?_ ?_
  · exact trivial
  · have e5 : x5 = zd 0 1 x4 x1 := e5
    have e6 : x6 = η 0 12 := e6
    have b4 : (0 : Int) ≤ x4 ∧ x4 ≤ 11 := hI.1.2.1.2.2.2.1
    exact wbI_e (k := x1) (m := x3) (f := x4) fig (by omega) e5 (by rw [← e6]; omega)
set_option maxHeartbeats 8000000 in
theorem zhs_bestBit2_o3 {ro : Nat → List Int32} (xs : List Int) (η0 : zE) (hp : sP wl_hs zTr zPhs_bestBit2 xs η0) (hpp : pPhs_bestBit2 xs η0) (x1 x2 x3 x4 : Int) (η : zE) (hI : zsI wl_hs zTr zVhs_bestBit2 zMhs_bestBit2 η0 0 [x1, x2, x3, x4] η) (hig : iChs_bestBit2 xs η0 0 [x1, x2, x3, x4] η) : ∀ x5 : Int, x5 = zd 0 1 x4 x1 → ∀ x6 : Int, x6 = η 0 (Int.toNat 12) → zok 0 x6 → (x5 ≤ x6) → (iChs_bestBit2 xs η0) 1 [x1, x2, x3, x4, 0, 0] η ∧ (fun (_ : Nat) (_ : List Int) (_ : zE) => (0 : Nat)) 1 [x1, x2, x3, x4, 0, 0] η < 1 := by
  have fig := hig.2
  have hig := hig.1
  intro x5 e5 x6 e6 r6 c1
  refine yj_c ?_ ?_
  · exact ⟨trivial, Nat.zero_lt_one⟩
  · have e5 : x5 = zd 0 1 x4 x1 := e5
    have e6 : x6 = η 0 12 := e6
    have b4 : (0 : Int) ≤ x4 ∧ x4 ≤ 11 := hI.1.2.1.2.2.2.1
    show yw_bJ η0 (xs.getD 0 0) x1 x2 x3 x4 0 0 η
    exact wbJ_0 fig (by omega) e5 (by rw [← e6]; omega)
set_option maxHeartbeats 8000000 in
theorem zhs_bestBit2_o4 {ro : Nat → List Int32} (xs : List Int) (η0 : zE) (hp : sP wl_hs zTr zPhs_bestBit2 xs η0) (hpp : pPhs_bestBit2 xs η0) (x1 x2 x3 x4 x5 x6 : Int) (η : zE) (hI : zsI wl_hs zTr zVhs_bestBit2 zMhs_bestBit2 η0 1 [x1, x2, x3, x4, x5, x6] η) (hig : iChs_bestBit2 xs η0 1 [x1, x2, x3, x4, x5, x6] η) : (x1 ≤ x6) → (x3 < x5) → ∀ x7 : Int, x7 = zd 0 1 x4 1 → (iChs_bestBit2 xs η0) 0 [x1, x4, x5, x7] η ∧ (fun (_ : Nat) (_ : List Int) (_ : zE) => (0 : Nat)) 0 [x1, x4, x5, x7] η < 1 := by
  have fig := hig.2
  have hig := hig.1
  intro c1 c2 x7 e7
  refine yj_c ?_ ?_
  · exact ⟨trivial, Nat.zero_lt_one⟩
  · have e7 : x7 = zd 0 1 x4 1 := e7
    have b4 : (0 : Int) ≤ x4 ∧ x4 ≤ 10 := hI.1.2.1.2.2.2.1
    show yw_bI η0 (xs.getD 0 0) x1 x4 x5 x7 η
    refine wbJ_e (b := x2) (m := x3) (k := x1) (f := x4) (i := x6) (s := x5) fig (by omega) (by omega) e7 ?_
    rw [if_pos (by omega)]
set_option maxHeartbeats 8000000 in
theorem zhs_bestBit2_o5 {ro : Nat → List Int32} (xs : List Int) (η0 : zE) (hp : sP wl_hs zTr zPhs_bestBit2 xs η0) (hpp : pPhs_bestBit2 xs η0) (x1 x2 x3 x4 x5 x6 : Int) (η : zE) (hI : zsI wl_hs zTr zVhs_bestBit2 zMhs_bestBit2 η0 1 [x1, x2, x3, x4, x5, x6] η) (hig : iChs_bestBit2 xs η0 1 [x1, x2, x3, x4, x5, x6] η) : (x1 ≤ x6) → (x5 ≤ x3) → ∀ x7 : Int, x7 = zd 0 1 x4 1 → (iChs_bestBit2 xs η0) 0 [x1, x2, x3, x7] η ∧ (fun (_ : Nat) (_ : List Int) (_ : zE) => (0 : Nat)) 0 [x1, x2, x3, x7] η < 1 := by
  have fig := hig.2
  have hig := hig.1
  intro c1 c2 x7 e7
  refine yj_c ?_ ?_
  · exact ⟨trivial, Nat.zero_lt_one⟩
  · have e7 : x7 = zd 0 1 x4 1 := e7
    have b4 : (0 : Int) ≤ x4 ∧ x4 ≤ 10 := hI.1.2.1.2.2.2.1
    show yw_bI η0 (xs.getD 0 0) x1 x2 x3 x7 η
    refine wbJ_e (b := x2) (m := x3) (k := x1) (f := x4) (i := x6) (s := x5) fig (by omega) (by omega) e7 ?_
    rw [if_neg (by omega)]
set_option maxHeartbeats 8000000 in
theorem zhs_bestBit2_o6 {ro : Nat → List Int32} (xs : List Int) (η0 : zE) (hp : sP wl_hs zTr zPhs_bestBit2 xs η0) (hpp : pPhs_bestBit2 xs η0) (x1 x2 x3 x4 x5 x6 : Int) (η : zE) (hI : zsI wl_hs zTr zVhs_bestBit2 zMhs_bestBit2 η0 1 [x1, x2, x3, x4, x5, x6] η) (hig : iChs_bestBit2 xs η0 1 [x1, x2, x3, x4, x5, x6] η) : (x6 < x1) → ∀ x7 : Int, x7 = zd 0 1 x4 x6 → ∀ x8 : Int, x8 = η 6 (Int.toNat x7) → zok 0 x8 → ∀ x9 : Int, x9 = zd 0 1 x5 x8 → ∀ x10 : Int, x10 = zd 0 1 x6 1 → (iChs_bestBit2 xs η0) 1 [x1, x2, x3, x4, x9, x10] η ∧ (fun (_ : Nat) (_ : List Int) (_ : zE) => (0 : Nat)) 1 [x1, x2, x3, x4, x9, x10] η < 1 := by
  have fig := hig.2
  have hig := hig.1
  intro c1 x7 e7 x8 e8 r8 x9 e9 x10 e10
  refine yj_c ?_ ?_
  · exact ⟨trivial, Nat.zero_lt_one⟩
  · have e7 : x7 = zd 0 1 x4 x6 := e7
    have e8 : x8 = η 6 (Int.toNat x7) := e8
    have e9 : x9 = zd 0 1 x5 x8 := e9
    have e10 : x10 = zd 0 1 x6 1 := e10
    have b4 : (0 : Int) ≤ x4 ∧ x4 ≤ 10 := hI.1.2.1.2.2.2.1
    show yw_bJ η0 (xs.getD 0 0) x1 x2 x3 x4 x9 x10 η
    exact wbJ_s (k := x1) (f := x4) (i := x6) fig (by omega) (by omega) e7 e8 e9 e10
set_option maxHeartbeats 8000000 in
theorem zhs_bestBit2 {ro : Nat → List Int32} : zMet pr_P pr_K pr_df ro (sm_X0 1 6) 1 200 tm_hs [(.inr (.inr (.inl (nat_lit 0)))), (.inl (nat_lit 1, (.ofNat (nat_lit 0))))] 1 [(nat_lit 0, nat_lit 0, nat_lit 1), (nat_lit 0, nat_lit 3, nat_lit 2), (nat_lit 0, nat_lit 20, nat_lit 3), (nat_lit 0, nat_lit 21, nat_lit 4), (nat_lit 0, nat_lit 22, nat_lit 5), (nat_lit 0, nat_lit 23, nat_lit 6), (nat_lit 0, nat_lit 24, nat_lit 7), (nat_lit 0, nat_lit 25, nat_lit 8), (nat_lit 0, nat_lit 26, nat_lit 9), (nat_lit 0, nat_lit 27, nat_lit 10), (nat_lit 0, nat_lit 28, nat_lit 11), (nat_lit 0, nat_lit 29, nat_lit 12), (nat_lit 0, nat_lit 30, nat_lit 13), (nat_lit 0, nat_lit 31, nat_lit 14), (nat_lit 0, nat_lit 32, nat_lit 15), (nat_lit 0, nat_lit 33, nat_lit 16), (nat_lit 0, nat_lit 34, nat_lit 17), (nat_lit 0, nat_lit 35, nat_lit 18), (nat_lit 0, nat_lit 36, nat_lit 19), (nat_lit 0, nat_lit 37, nat_lit 20), (nat_lit 0, nat_lit 38, nat_lit 21), (nat_lit 0, nat_lit 39, nat_lit 22), (nat_lit 0, nat_lit 40, nat_lit 23), (nat_lit 0, nat_lit 47, nat_lit 24), (nat_lit 0, nat_lit 48, nat_lit 25), (nat_lit 0, nat_lit 50, nat_lit 26), (nat_lit 0, nat_lit 51, nat_lit 27), (nat_lit 0, nat_lit 52, nat_lit 28), (nat_lit 0, nat_lit 53, nat_lit 29), (nat_lit 0, nat_lit 54, nat_lit 30), (nat_lit 0, nat_lit 55, nat_lit 31), (nat_lit 0, nat_lit 56, nat_lit 32), (nat_lit 0, nat_lit 57, nat_lit 33), (nat_lit 0, nat_lit 58, nat_lit 34), (nat_lit 0, nat_lit 59, nat_lit 35), (nat_lit 0, nat_lit 72, nat_lit 36), (nat_lit 0, nat_lit 73, nat_lit 37), (nat_lit 0, nat_lit 76, nat_lit 38), (nat_lit 0, nat_lit 77, nat_lit 39), (nat_lit 0, nat_lit 79, nat_lit 40), (nat_lit 0, nat_lit 81, nat_lit 41), (nat_lit 0, nat_lit 82, nat_lit 42)] [] (fun xs η => sP wl_hs zTr zPhs_bestBit2 xs η ∧ pPhs_bestBit2 xs η) (fun xs η y η' => sQ wl_hs zTr zOhs_bestBit2 zMhs_bestBit2 xs η y η' ∧ pQhs_bestBit2 xs η y η') :=
  zmet_alt (zmea_gen (mi := (nat_lit 1, nat_lit 1, nat_lit 8, nat_lit 7, nat_lit 1, tX8_bestBit)) (cd := [(nat_lit 117, nat_lit 0, nat_lit 0, [(.inl (nat_lit 1, (.ofNat (nat_lit 0)))), (.inl (nat_lit 2, (.ofNat (nat_lit 0)))), (.inl (nat_lit 3, (.ofNat (nat_lit 0))))], nat_lit 2, [], [])]) (cu := zUhs_bestBit2) (cs := [(nat_lit 0, zPhs_isIn, zOhs_isIn, zMhs_isIn)]) (iv := zVhs_bestBit2) (po := [zOhs_bestBit2]) (pr := zPhs_bestBit2) (mods := zMhs_bestBit2) (D7 := zDhs_bestBit2) (D0 := zEhs_bestBit2) (Dm := zFhs_bestBit2) (f0 := 19) pChs_bestBit2 qChs_bestBit2 iChs_bestBit2 pPhs_bestBit2 (fun xs η _ y η' => pQhs_bestBit2 xs η y η') zX_low pr_mtR rfl (List.forall_mem_cons.mpr ⟨zhs_isIn, fun _ h => nomatch h⟩) (by decide +kernel) (by decide +kernel) (by decide +kernel)
    (by
      intro xs η hr hl hp hpp
      match xs, hl, hp, hpp with
      | [x1], _, hp, hpp =>
        refine List.forall_mem_cons.mpr ⟨?_, List.forall_mem_cons.mpr ⟨?_, List.forall_mem_cons.mpr ⟨?_, fun _ h => nomatch h⟩⟩⟩
        · refine zden_L (n := 2) (ρ := [x1, 0]) rfl ?_
          show ∀ η1 : zE, η1 = zup η 0 (Int.toNat 2) 0 → ((gC2 wl_hs [(nat_lit 0, zPhs_isIn, zOhs_isIn, zMhs_isIn)] pChs_bestBit2 qChs_bestBit2) 0).1 [x1, 1, 12] η1
          intro η1 eη1
          exact trivial
        · refine zden_L (n := 2) (ρ := [x1, 0]) rfl ?_
          exact zhs_bestBit2_o0 (ro := ro) x1 η hp hpp
        · refine zden_L (n := 2) (ρ := [x1, 0]) rfl ?_
          exact zhs_bestBit2_o1 (ro := ro) x1 η hp hpp
      )
    (fun _ _ _ _ _ _ _ h => nomatch h)
    (List.forall_mem_cons.mpr ⟨⟨zDhs_bestBit2_0, zEhs_bestBit2_0, zFhs_bestBit2_0, 15, by decide +kernel, (by
      intro xs η0 hlx hp hpp ys η hr hl hI hig
      match ys, hl, hI, hig with
      | [x1, x2, x3, x4], _, hI, hig =>
        refine ⟨?_, ?_⟩
        · refine List.forall_mem_cons.mpr ⟨?_, List.forall_mem_cons.mpr ⟨?_, fun _ h => nomatch h⟩⟩
          · refine zden_L (n := 5) (ρ := [x4, x3, x2, x1, 0]) rfl ?_
            exact zhs_bestBit2_o2 (ro := ro) xs η0 hp hpp x1 x2 x3 x4 η hI hig
          · refine zden_L (n := 5) (ρ := [x4, x3, x2, x1, 0]) rfl ?_
            exact zhs_bestBit2_o3 (ro := ro) xs η0 hp hpp x1 x2 x3 x4 η hI hig
        · exact fun _ h => nomatch h
      )⟩, (List.forall_mem_cons.mpr ⟨⟨zDhs_bestBit2_1, zEhs_bestBit2_1, zFhs_bestBit2_1, 19, by decide +kernel, (by
      intro xs η0 hlx hp hpp ys η hr hl hI hig
      match ys, hl, hI, hig with
      | [x1, x2, x3, x4, x5, x6], _, hI, hig =>
        refine ⟨?_, ?_⟩
        · refine List.forall_mem_cons.mpr ⟨?_, List.forall_mem_cons.mpr ⟨?_, List.forall_mem_cons.mpr ⟨?_, fun _ h => nomatch h⟩⟩⟩
          · refine zden_L (n := 7) (ρ := [x6, x5, x4, x3, x2, x1, 0]) rfl ?_
            exact zhs_bestBit2_o4 (ro := ro) xs η0 hp hpp x1 x2 x3 x4 x5 x6 η hI hig
          · refine zden_L (n := 7) (ρ := [x6, x5, x4, x3, x2, x1, 0]) rfl ?_
            exact zhs_bestBit2_o5 (ro := ro) xs η0 hp hpp x1 x2 x3 x4 x5 x6 η hI hig
          · refine zden_L (n := 7) (ρ := [x6, x5, x4, x3, x2, x1, 0]) rfl ?_
            exact zhs_bestBit2_o6 (ro := ro) xs η0 hp hpp x1 x2 x3 x4 x5 x6 η hI hig
        · exact fun _ h => nomatch h
      )⟩, (fun _ h => nomatch h)⟩)⟩))
def zPhs_bestBit3 : zPq := ([((.ofNat (nat_lit 3)), (.ofNat (nat_lit 3)))], [])
def zOhs_bestBit3 : zPo := (((.negSucc (nat_lit 2147483647)), (.ofNat (nat_lit 2147483647))), [], [])
def zMhs_bestBit3 : List zCe := [(nat_lit 0, nat_lit 3)]
def pPhs_bestBit3 : List Int → zE → Prop := fun _ _ => True
def oQhs_bestBit3 : List Int → zE → Int → zE → Prop := fun _ _ _ _ => True
def fQhs_bestBit3 : List Int → zE → Int → zE → Prop := fun xs η y η' => y = (yw_bb (xs.getD 0 0) η) ∧ η' = (zup η 0 2 0)
def pQhs_bestBit3 : List Int → zE → Int → zE → Prop := fun xs η y η' => oQhs_bestBit3 xs η y η' ∧ fQhs_bestBit3 xs η y η'
def pChs_bestBit3 : Nat → List Int → zE → Prop := fun c => match c with
  | 0 => pPhs_isIn
  | _ => fun _ _ => True
def qChs_bestBit3 : Nat → List Int → zE → Int → zE → Prop := fun c => match c with
  | 0 => pQhs_isIn
  | _ => fun _ _ _ _ => True
def iChs_bestBit3 : List Int → zE → Nat → List Int → zE → Prop := fun xs η0 c => match c with
  | 0 => fun ys η => (True) ∧ (yw_bI η0 (xs.getD 0 0) (ys.getD 0 0) (ys.getD 1 0) (ys.getD 2 0) (ys.getD 3 0) η)
  | 1 => fun ys η => (True) ∧ (yw_bJ η0 (xs.getD 0 0) (ys.getD 0 0) (ys.getD 1 0) (ys.getD 2 0) (ys.getD 3 0) (ys.getD 4 0) (ys.getD 5 0) η)
  | _ => fun _ _ => True
def zVhs_bestBit3 : List zIv := [(nat_lit 0, ([((.ofNat (nat_lit 3)), (.ofNat (nat_lit 3))), ((.negSucc (nat_lit 2147483647)), (.ofNat (nat_lit 2147483647))), ((.negSucc (nat_lit 2147483647)), (.ofNat (nat_lit 2147483647))), ((.ofNat (nat_lit 0)), (.ofNat (nat_lit 10)))], []), ((.ofNat (nat_lit 2000)), [((.negSucc (nat_lit 99)), nat_lit 0, nat_lit 3, nat_lit 0)])), (nat_lit 1, ([((.ofNat (nat_lit 3)), (.ofNat (nat_lit 3))), ((.negSucc (nat_lit 2147483647)), (.ofNat (nat_lit 2147483647))), ((.negSucc (nat_lit 2147483647)), (.ofNat (nat_lit 2147483647))), ((.ofNat (nat_lit 0)), (.ofNat (nat_lit 9))), ((.negSucc (nat_lit 2147483647)), (.ofNat (nat_lit 2147483647))), ((.ofNat (nat_lit 0)), (.ofNat (nat_lit 3)))], []), ((.ofNat (nat_lit 1950)), [((.negSucc (nat_lit 99)), nat_lit 0, nat_lit 3, nat_lit 0), ((.negSucc (nat_lit 0)), nat_lit 0, nat_lit 5, nat_lit 0)]))]
def zUhs_bestBit3 : List zCu := [(nat_lit 25, nat_lit 0, [(nat_lit 0, (.inr (.inr (.inl (nat_lit 0))))), (nat_lit 1, (.inl (nat_lit 1, (.ofNat (nat_lit 0))))), (nat_lit 2, (.inl (nat_lit 2, (.ofNat (nat_lit 0))))), (nat_lit 3, (.inl (nat_lit 3, (.ofNat (nat_lit 0))))), (nat_lit 4, (.inl (nat_lit 4, (.ofNat (nat_lit 0)))))], []), (nat_lit 42, nat_lit 1, [(nat_lit 0, (.inr (.inr (.inl (nat_lit 0))))), (nat_lit 1, (.inl (nat_lit 1, (.ofNat (nat_lit 0))))), (nat_lit 2, (.inl (nat_lit 2, (.ofNat (nat_lit 0))))), (nat_lit 3, (.inl (nat_lit 3, (.ofNat (nat_lit 0))))), (nat_lit 4, (.inl (nat_lit 4, (.ofNat (nat_lit 0))))), (nat_lit 5, (.inl (nat_lit 5, (.ofNat (nat_lit 0))))), (nat_lit 6, (.inl (nat_lit 6, (.ofNat (nat_lit 0)))))], [])]
def zDhs_bestBit3 : List (List zK) := []
def zEhs_bestBit3 : List (List zK) := [[(nat_lit 13, nat_lit 0, [(nat_lit 1, (.ofNat (nat_lit 0))), (nat_lit 0, (.ofNat (nat_lit 1))), (nat_lit 0, (.ofNat (nat_lit 12)))]), (nat_lit 5, nat_lit 0, [(nat_lit 0, (.ofNat (nat_lit 0))), (nat_lit 0, (.ofNat (nat_lit 2))), (nat_lit 0, (.ofNat (nat_lit 0)))])],
  [(nat_lit 12, nat_lit 0, [(nat_lit 1, (.ofNat (nat_lit 0))), (nat_lit 0, (.negSucc (nat_lit 1))), (nat_lit 0, (.negSucc (nat_lit 0))), (nat_lit 0, (.ofNat (nat_lit 0)))]), (nat_lit 6, nat_lit 1, [(nat_lit 2, (.ofNat (nat_lit 0))), (nat_lit 0, (.ofNat (nat_lit 0)))]), (nat_lit 8, nat_lit 0, [(nat_lit 1, (.ofNat (nat_lit 0))), (nat_lit 0, (.ofNat (nat_lit 1))), (nat_lit 0, (.ofNat (nat_lit 12)))]), (nat_lit 5, nat_lit 0, [(nat_lit 0, (.ofNat (nat_lit 0))), (nat_lit 0, (.ofNat (nat_lit 2))), (nat_lit 0, (.ofNat (nat_lit 0)))])],
  [(nat_lit 11, nat_lit 0, [(nat_lit 0, (.negSucc (nat_lit 0)))]), (nat_lit 6, nat_lit 0, [(nat_lit 2, (.ofNat (nat_lit 0))), (nat_lit 0, (.ofNat (nat_lit 0)))]), (nat_lit 8, nat_lit 0, [(nat_lit 1, (.ofNat (nat_lit 0))), (nat_lit 0, (.ofNat (nat_lit 1))), (nat_lit 0, (.ofNat (nat_lit 12)))]), (nat_lit 5, nat_lit 0, [(nat_lit 0, (.ofNat (nat_lit 0))), (nat_lit 0, (.ofNat (nat_lit 2))), (nat_lit 0, (.ofNat (nat_lit 0)))])]]
def zFhs_bestBit3 : List (List zK) := []
def zDhs_bestBit3_0 : List (List zK) := []
def zEhs_bestBit3_0 : List (List zK) := [[(nat_lit 11, nat_lit 0, [(nat_lit 2, (.ofNat (nat_lit 0)))]), (nat_lit 6, nat_lit 4, [(nat_lit 5, (.ofNat (nat_lit 0))), (nat_lit 6, (.ofNat (nat_lit 0)))]), (nat_lit 4, nat_lit 0, [(nat_lit 0, (.ofNat (nat_lit 0))), (nat_lit 0, (.ofNat (nat_lit 12)))]), (nat_lit 0, nat_lit 1, [(nat_lit 4, (.ofNat (nat_lit 0))), (nat_lit 1, (.ofNat (nat_lit 0)))])],
  [(nat_lit 10, nat_lit 1, [(nat_lit 1, (.ofNat (nat_lit 0))), (nat_lit 2, (.ofNat (nat_lit 0))), (nat_lit 3, (.ofNat (nat_lit 0))), (nat_lit 4, (.ofNat (nat_lit 0))), (nat_lit 0, (.ofNat (nat_lit 0))), (nat_lit 0, (.ofNat (nat_lit 0)))]), (nat_lit 6, nat_lit 5, [(nat_lit 5, (.ofNat (nat_lit 0))), (nat_lit 6, (.ofNat (nat_lit 0)))]), (nat_lit 4, nat_lit 0, [(nat_lit 0, (.ofNat (nat_lit 0))), (nat_lit 0, (.ofNat (nat_lit 12)))]), (nat_lit 0, nat_lit 1, [(nat_lit 4, (.ofNat (nat_lit 0))), (nat_lit 1, (.ofNat (nat_lit 0)))])]]
def zFhs_bestBit3_0 : List (List zK) := []
def zDhs_bestBit3_1 : List (List zK) := [[(nat_lit 7, nat_lit 0, [(nat_lit 7, (.ofNat (nat_lit 0))), (nat_lit 0, (.ofNat (nat_lit 24)))]), (nat_lit 0, nat_lit 1, [(nat_lit 4, (.ofNat (nat_lit 0))), (nat_lit 6, (.ofNat (nat_lit 0)))]), (nat_lit 6, nat_lit 2, [(nat_lit 6, (.ofNat (nat_lit 0))), (nat_lit 1, (.ofNat (nat_lit 0)))])]]
def zEhs_bestBit3_1 : List (List zK) := [[(nat_lit 10, nat_lit 0, [(nat_lit 1, (.ofNat (nat_lit 0))), (nat_lit 4, (.ofNat (nat_lit 0))), (nat_lit 5, (.ofNat (nat_lit 0))), (nat_lit 7, (.ofNat (nat_lit 0)))]), (nat_lit 0, nat_lit 1, [(nat_lit 4, (.ofNat (nat_lit 0))), (nat_lit 0, (.ofNat (nat_lit 1)))]), (nat_lit 6, nat_lit 4, [(nat_lit 5, (.ofNat (nat_lit 0))), (nat_lit 3, (.ofNat (nat_lit 0)))]), (nat_lit 6, nat_lit 3, [(nat_lit 6, (.ofNat (nat_lit 0))), (nat_lit 1, (.ofNat (nat_lit 0)))])],
  [(nat_lit 10, nat_lit 0, [(nat_lit 1, (.ofNat (nat_lit 0))), (nat_lit 2, (.ofNat (nat_lit 0))), (nat_lit 3, (.ofNat (nat_lit 0))), (nat_lit 7, (.ofNat (nat_lit 0)))]), (nat_lit 0, nat_lit 1, [(nat_lit 4, (.ofNat (nat_lit 0))), (nat_lit 0, (.ofNat (nat_lit 1)))]), (nat_lit 6, nat_lit 5, [(nat_lit 5, (.ofNat (nat_lit 0))), (nat_lit 3, (.ofNat (nat_lit 0)))]), (nat_lit 6, nat_lit 3, [(nat_lit 6, (.ofNat (nat_lit 0))), (nat_lit 1, (.ofNat (nat_lit 0)))])],
  [(nat_lit 10, nat_lit 1, [(nat_lit 1, (.ofNat (nat_lit 0))), (nat_lit 2, (.ofNat (nat_lit 0))), (nat_lit 3, (.ofNat (nat_lit 0))), (nat_lit 4, (.ofNat (nat_lit 0))), (nat_lit 9, (.ofNat (nat_lit 0))), (nat_lit 10, (.ofNat (nat_lit 0)))]), (nat_lit 0, nat_lit 1, [(nat_lit 6, (.ofNat (nat_lit 0))), (nat_lit 0, (.ofNat (nat_lit 1)))]), (nat_lit 0, nat_lit 1, [(nat_lit 5, (.ofNat (nat_lit 0))), (nat_lit 8, (.ofNat (nat_lit 0)))]), (nat_lit 4, nat_lit 0, [(nat_lit 6, (.ofNat (nat_lit 0))), (nat_lit 7, (.ofNat (nat_lit 0)))]), (nat_lit 0, nat_lit 1, [(nat_lit 4, (.ofNat (nat_lit 0))), (nat_lit 6, (.ofNat (nat_lit 0)))]), (nat_lit 6, nat_lit 2, [(nat_lit 6, (.ofNat (nat_lit 0))), (nat_lit 1, (.ofNat (nat_lit 0)))])]]
def zFhs_bestBit3_1 : List (List zK) := []
set_option maxHeartbeats 8000000 in
theorem zhs_bestBit3_o0 {ro : Nat → List Int32} (x1 : Int) (η : zE) (hp : sP wl_hs zTr zPhs_bestBit3 [x1] η) (hpp : pPhs_bestBit3 [x1] η) : ∀ η1 : zE, η1 = zup η 0 (Int.toNat 2) 0 → ∀ (x2 : Int) (η2 : zE), ((gC2 wl_hs [(nat_lit 0, zPhs_isIn, zOhs_isIn, zMhs_isIn)] pChs_bestBit3 qChs_bestBit3) 0).2 [x1, 1, 12] η1 x2 η2 → (¬ x2 = 0) → (iChs_bestBit3 [x1] η) 0 [x1, (-2), (-1), 0] η2 := by
  intro η1 eη1 x2 η2 h2 c1
  have y2 : fQhs_isIn [x1, 1, 12] η1 x2 η2 := h2.2.2
  have k2 : sQ wl_hs zTr zOhs_isIn zMhs_isIn [x1, 1, 12] η1 x2 η2 ∧ oQhs_isIn [x1, 1, 12] η1 x2 η2 := ⟨h2.1, h2.2.1⟩
  refine yj_a ?_ ?_
  · have y2 : fQhs_isIn [x1, 1, 12] η1 x2 η2 := h2.2.2
    have k2 : sQ wl_hs zTr zOhs_isIn zMhs_isIn [x1, 1, 12] η1 x2 η2 ∧ oQhs_isIn [x1, 1, 12] η1 x2 η2 := ⟨h2.1, h2.2.1⟩
    exact trivial
  · have eη1 : η1 = zup η 0 2 0 := eη1
    obtain ⟨a2, b2⟩ : x2 = yq_in x1 1 12 ∧ η2 = η1 := y2
    show yw_bI η x1 x1 (-2) (-1) 0 η2
    exact wbI_0 (by rw [b2, eη1]) (by omega)
set_option maxHeartbeats 8000000 in
theorem zhs_bestBit3_o1 {ro : Nat → List Int32} (x1 : Int) (η : zE) (hp : sP wl_hs zTr zPhs_bestBit3 [x1] η) (hpp : pPhs_bestBit3 [x1] η) : ∀ η1 : zE, η1 = zup η 0 (Int.toNat 2) 0 → ∀ (x2 : Int) (η2 : zE), ((gC2 wl_hs [(nat_lit 0, zPhs_isIn, zOhs_isIn, zMhs_isIn)] pChs_bestBit3 qChs_bestBit3) 0).2 [x1, 1, 12] η1 x2 η2 → (x2 = 0) → (fun (_ : Nat) (y : Int) (η' : zE) => pQhs_bestBit3 [x1] η y η') 0 (-1) η2 := by
  intro η1 eη1 x2 η2 h2 c1
  have y2 : fQhs_isIn [x1, 1, 12] η1 x2 η2 := h2.2.2
  have k2 : sQ wl_hs zTr zOhs_isIn zMhs_isIn [x1, 1, 12] η1 x2 η2 ∧ oQhs_isIn [x1, 1, 12] η1 x2 η2 := ⟨h2.1, h2.2.1⟩
  refine yj_a ?_ ?_
  · have y2 : fQhs_isIn [x1, 1, 12] η1 x2 η2 := h2.2.2
    have k2 : sQ wl_hs zTr zOhs_isIn zMhs_isIn [x1, 1, 12] η1 x2 η2 ∧ oQhs_isIn [x1, 1, 12] η1 x2 η2 := ⟨h2.1, h2.2.1⟩
    exact trivial
  · have eη1 : η1 = zup η 0 2 0 := eη1
    obtain ⟨a2, b2⟩ : x2 = yq_in x1 1 12 ∧ η2 = η1 := y2
    show -1 = yw_bb x1 η ∧ η2 = zup η 0 2 0
    exact ⟨by unfold yw_bb; rw [if_pos (by omega)], (by rw [b2, eη1])⟩
set_option maxHeartbeats 8000000 in
theorem zhs_bestBit3_o2 {ro : Nat → List Int32} (xs : List Int) (η0 : zE) (hp : sP wl_hs zTr zPhs_bestBit3 xs η0) (hpp : pPhs_bestBit3 xs η0) (x1 x2 x3 x4 : Int) (η : zE) (hI : zsI wl_hs zTr zVhs_bestBit3 zMhs_bestBit3 η0 0 [x1, x2, x3, x4] η) (hig : iChs_bestBit3 xs η0 0 [x1, x2, x3, x4] η) : ∀ x5 : Int, x5 = zd 0 1 x4 x1 → ∀ x6 : Int, x6 = η 0 (Int.toNat 12) → zok 0 x6 → (x6 < x5) → (fun (_ : Nat) (y : Int) (η' : zE) => pQhs_bestBit3 xs η0 y η') 0 x2 η := by
  have fig := hig.2
  have hig := hig.1
  intro x5 e5 x6 e6 r6 c1
  refine yj_a ?_ ?_
  · exact trivial
  · have e5 : x5 = zd 0 1 x4 x1 := e5
    have e6 : x6 = η 0 12 := e6
    have b4 : (0 : Int) ≤ x4 ∧ x4 ≤ 10 := hI.1.2.1.2.2.2.1
    exact wbI_e (k := x1) (m := x3) (f := x4) fig (by omega) e5 (by rw [← e6]; omega)
set_option maxHeartbeats 8000000 in
theorem zhs_bestBit3_o3 {ro : Nat → List Int32} (xs : List Int) (η0 : zE) (hp : sP wl_hs zTr zPhs_bestBit3 xs η0) (hpp : pPhs_bestBit3 xs η0) (x1 x2 x3 x4 : Int) (η : zE) (hI : zsI wl_hs zTr zVhs_bestBit3 zMhs_bestBit3 η0 0 [x1, x2, x3, x4] η) (hig : iChs_bestBit3 xs η0 0 [x1, x2, x3, x4] η) : ∀ x5 : Int, x5 = zd 0 1 x4 x1 → ∀ x6 : Int, x6 = η 0 (Int.toNat 12) → zok 0 x6 → (x5 ≤ x6) → (iChs_bestBit3 xs η0) 1 [x1, x2, x3, x4, 0, 0] η ∧ (fun (_ : Nat) (_ : List Int) (_ : zE) => (0 : Nat)) 1 [x1, x2, x3, x4, 0, 0] η < 1 := by
  have fig := hig.2
  have hig := hig.1
  intro x5 e5 x6 e6 r6 c1
  refine yj_c ?_ ?_
  · exact ⟨trivial, Nat.zero_lt_one⟩
  · have e5 : x5 = zd 0 1 x4 x1 := e5
    have e6 : x6 = η 0 12 := e6
    have b4 : (0 : Int) ≤ x4 ∧ x4 ≤ 10 := hI.1.2.1.2.2.2.1
    show yw_bJ η0 (xs.getD 0 0) x1 x2 x3 x4 0 0 η
    exact wbJ_0 fig (by omega) e5 (by rw [← e6]; omega)
set_option maxHeartbeats 8000000 in
theorem zhs_bestBit3_o4 {ro : Nat → List Int32} (xs : List Int) (η0 : zE) (hp : sP wl_hs zTr zPhs_bestBit3 xs η0) (hpp : pPhs_bestBit3 xs η0) (x1 x2 x3 x4 x5 x6 : Int) (η : zE) (hI : zsI wl_hs zTr zVhs_bestBit3 zMhs_bestBit3 η0 1 [x1, x2, x3, x4, x5, x6] η) (hig : iChs_bestBit3 xs η0 1 [x1, x2, x3, x4, x5, x6] η) : (x1 ≤ x6) → (x3 < x5) → ∀ x7 : Int, x7 = zd 0 1 x4 1 → (iChs_bestBit3 xs η0) 0 [x1, x4, x5, x7] η ∧ (fun (_ : Nat) (_ : List Int) (_ : zE) => (0 : Nat)) 0 [x1, x4, x5, x7] η < 1 := by
  have fig := hig.2
  have hig := hig.1
  intro c1 c2 x7 e7
  refine yj_c ?_ ?_
  · exact ⟨trivial, Nat.zero_lt_one⟩
  · have e7 : x7 = zd 0 1 x4 1 := e7
    have b4 : (0 : Int) ≤ x4 ∧ x4 ≤ 9 := hI.1.2.1.2.2.2.1
    show yw_bI η0 (xs.getD 0 0) x1 x4 x5 x7 η
    refine wbJ_e (b := x2) (m := x3) (k := x1) (f := x4) (i := x6) (s := x5) fig (by omega) (by omega) e7 ?_
    rw [if_pos (by omega)]
set_option maxHeartbeats 8000000 in
theorem zhs_bestBit3_o5 {ro : Nat → List Int32} (xs : List Int) (η0 : zE) (hp : sP wl_hs zTr zPhs_bestBit3 xs η0) (hpp : pPhs_bestBit3 xs η0) (x1 x2 x3 x4 x5 x6 : Int) (η : zE) (hI : zsI wl_hs zTr zVhs_bestBit3 zMhs_bestBit3 η0 1 [x1, x2, x3, x4, x5, x6] η) (hig : iChs_bestBit3 xs η0 1 [x1, x2, x3, x4, x5, x6] η) : (x1 ≤ x6) → (x5 ≤ x3) → ∀ x7 : Int, x7 = zd 0 1 x4 1 → (iChs_bestBit3 xs η0) 0 [x1, x2, x3, x7] η ∧ (fun (_ : Nat) (_ : List Int) (_ : zE) => (0 : Nat)) 0 [x1, x2, x3, x7] η < 1 := by
  have fig := hig.2
  have hig := hig.1
  intro c1 c2 x7 e7
  refine yj_c ?_ ?_
  · exact ⟨trivial, Nat.zero_lt_one⟩
  · have e7 : x7 = zd 0 1 x4 1 := e7
    have b4 : (0 : Int) ≤ x4 ∧ x4 ≤ 9 := hI.1.2.1.2.2.2.1
    show yw_bI η0 (xs.getD 0 0) x1 x2 x3 x7 η
    refine wbJ_e (b := x2) (m := x3) (k := x1) (f := x4) (i := x6) (s := x5) fig (by omega) (by omega) e7 ?_
    rw [if_neg (by omega)]
set_option maxHeartbeats 8000000 in
theorem zhs_bestBit3_o6 {ro : Nat → List Int32} (xs : List Int) (η0 : zE) (hp : sP wl_hs zTr zPhs_bestBit3 xs η0) (hpp : pPhs_bestBit3 xs η0) (x1 x2 x3 x4 x5 x6 : Int) (η : zE) (hI : zsI wl_hs zTr zVhs_bestBit3 zMhs_bestBit3 η0 1 [x1, x2, x3, x4, x5, x6] η) (hig : iChs_bestBit3 xs η0 1 [x1, x2, x3, x4, x5, x6] η) : (x6 < x1) → ∀ x7 : Int, x7 = zd 0 1 x4 x6 → ∀ x8 : Int, x8 = η 6 (Int.toNat x7) → zok 0 x8 → ∀ x9 : Int, x9 = zd 0 1 x5 x8 → ∀ x10 : Int, x10 = zd 0 1 x6 1 → (iChs_bestBit3 xs η0) 1 [x1, x2, x3, x4, x9, x10] η ∧ (fun (_ : Nat) (_ : List Int) (_ : zE) => (0 : Nat)) 1 [x1, x2, x3, x4, x9, x10] η < 1 := by
  have fig := hig.2
  have hig := hig.1
  intro c1 x7 e7 x8 e8 r8 x9 e9 x10 e10
  refine yj_c ?_ ?_
  · exact ⟨trivial, Nat.zero_lt_one⟩
  · have e7 : x7 = zd 0 1 x4 x6 := e7
    have e8 : x8 = η 6 (Int.toNat x7) := e8
    have e9 : x9 = zd 0 1 x5 x8 := e9
    have e10 : x10 = zd 0 1 x6 1 := e10
    have b4 : (0 : Int) ≤ x4 ∧ x4 ≤ 9 := hI.1.2.1.2.2.2.1
    show yw_bJ η0 (xs.getD 0 0) x1 x2 x3 x4 x9 x10 η
    exact wbJ_s (k := x1) (f := x4) (i := x6) fig (by omega) (by omega) e7 e8 e9 e10
set_option maxHeartbeats 8000000 in
theorem zhs_bestBit3 {ro : Nat → List Int32} : zMet pr_P pr_K pr_df ro (sm_X0 1 6) 1 200 tm_hs [(.inr (.inr (.inl (nat_lit 0)))), (.inl (nat_lit 1, (.ofNat (nat_lit 0))))] 1 [(nat_lit 0, nat_lit 0, nat_lit 1), (nat_lit 0, nat_lit 3, nat_lit 2), (nat_lit 0, nat_lit 20, nat_lit 3), (nat_lit 0, nat_lit 21, nat_lit 4), (nat_lit 0, nat_lit 22, nat_lit 5), (nat_lit 0, nat_lit 23, nat_lit 6), (nat_lit 0, nat_lit 24, nat_lit 7), (nat_lit 0, nat_lit 25, nat_lit 8), (nat_lit 0, nat_lit 26, nat_lit 9), (nat_lit 0, nat_lit 27, nat_lit 10), (nat_lit 0, nat_lit 28, nat_lit 11), (nat_lit 0, nat_lit 29, nat_lit 12), (nat_lit 0, nat_lit 30, nat_lit 13), (nat_lit 0, nat_lit 31, nat_lit 14), (nat_lit 0, nat_lit 32, nat_lit 15), (nat_lit 0, nat_lit 33, nat_lit 16), (nat_lit 0, nat_lit 34, nat_lit 17), (nat_lit 0, nat_lit 35, nat_lit 18), (nat_lit 0, nat_lit 36, nat_lit 19), (nat_lit 0, nat_lit 37, nat_lit 20), (nat_lit 0, nat_lit 38, nat_lit 21), (nat_lit 0, nat_lit 39, nat_lit 22), (nat_lit 0, nat_lit 40, nat_lit 23), (nat_lit 0, nat_lit 47, nat_lit 24), (nat_lit 0, nat_lit 48, nat_lit 25), (nat_lit 0, nat_lit 50, nat_lit 26), (nat_lit 0, nat_lit 51, nat_lit 27), (nat_lit 0, nat_lit 52, nat_lit 28), (nat_lit 0, nat_lit 53, nat_lit 29), (nat_lit 0, nat_lit 54, nat_lit 30), (nat_lit 0, nat_lit 55, nat_lit 31), (nat_lit 0, nat_lit 56, nat_lit 32), (nat_lit 0, nat_lit 57, nat_lit 33), (nat_lit 0, nat_lit 58, nat_lit 34), (nat_lit 0, nat_lit 59, nat_lit 35), (nat_lit 0, nat_lit 72, nat_lit 36), (nat_lit 0, nat_lit 73, nat_lit 37), (nat_lit 0, nat_lit 76, nat_lit 38), (nat_lit 0, nat_lit 77, nat_lit 39), (nat_lit 0, nat_lit 79, nat_lit 40), (nat_lit 0, nat_lit 81, nat_lit 41), (nat_lit 0, nat_lit 82, nat_lit 42)] [] (fun xs η => sP wl_hs zTr zPhs_bestBit3 xs η ∧ pPhs_bestBit3 xs η) (fun xs η y η' => sQ wl_hs zTr zOhs_bestBit3 zMhs_bestBit3 xs η y η' ∧ pQhs_bestBit3 xs η y η') :=
  zmet_alt (zmea_gen (mi := (nat_lit 1, nat_lit 1, nat_lit 8, nat_lit 7, nat_lit 1, tX8_bestBit)) (cd := [(nat_lit 117, nat_lit 0, nat_lit 0, [(.inl (nat_lit 1, (.ofNat (nat_lit 0)))), (.inl (nat_lit 2, (.ofNat (nat_lit 0)))), (.inl (nat_lit 3, (.ofNat (nat_lit 0))))], nat_lit 2, [], [])]) (cu := zUhs_bestBit3) (cs := [(nat_lit 0, zPhs_isIn, zOhs_isIn, zMhs_isIn)]) (iv := zVhs_bestBit3) (po := [zOhs_bestBit3]) (pr := zPhs_bestBit3) (mods := zMhs_bestBit3) (D7 := zDhs_bestBit3) (D0 := zEhs_bestBit3) (Dm := zFhs_bestBit3) (f0 := 19) pChs_bestBit3 qChs_bestBit3 iChs_bestBit3 pPhs_bestBit3 (fun xs η _ y η' => pQhs_bestBit3 xs η y η') zX_low pr_mtR rfl (List.forall_mem_cons.mpr ⟨zhs_isIn, fun _ h => nomatch h⟩) (by decide +kernel) (by decide +kernel) (by decide +kernel)
    (by
      intro xs η hr hl hp hpp
      match xs, hl, hp, hpp with
      | [x1], _, hp, hpp =>
        refine List.forall_mem_cons.mpr ⟨?_, List.forall_mem_cons.mpr ⟨?_, List.forall_mem_cons.mpr ⟨?_, fun _ h => nomatch h⟩⟩⟩
        · refine zden_L (n := 2) (ρ := [x1, 0]) rfl ?_
          show ∀ η1 : zE, η1 = zup η 0 (Int.toNat 2) 0 → ((gC2 wl_hs [(nat_lit 0, zPhs_isIn, zOhs_isIn, zMhs_isIn)] pChs_bestBit3 qChs_bestBit3) 0).1 [x1, 1, 12] η1
          intro η1 eη1
          exact trivial
        · refine zden_L (n := 2) (ρ := [x1, 0]) rfl ?_
          exact zhs_bestBit3_o0 (ro := ro) x1 η hp hpp
        · refine zden_L (n := 2) (ρ := [x1, 0]) rfl ?_
          exact zhs_bestBit3_o1 (ro := ro) x1 η hp hpp
      )
    (fun _ _ _ _ _ _ _ h => nomatch h)
    (List.forall_mem_cons.mpr ⟨⟨zDhs_bestBit3_0, zEhs_bestBit3_0, zFhs_bestBit3_0, 15, by decide +kernel, (by
      intro xs η0 hlx hp hpp ys η hr hl hI hig
      match ys, hl, hI, hig with
      | [x1, x2, x3, x4], _, hI, hig =>
        refine ⟨?_, ?_⟩
        · refine List.forall_mem_cons.mpr ⟨?_, List.forall_mem_cons.mpr ⟨?_, fun _ h => nomatch h⟩⟩
          · refine zden_L (n := 5) (ρ := [x4, x3, x2, x1, 0]) rfl ?_
            exact zhs_bestBit3_o2 (ro := ro) xs η0 hp hpp x1 x2 x3 x4 η hI hig
          · refine zden_L (n := 5) (ρ := [x4, x3, x2, x1, 0]) rfl ?_
            exact zhs_bestBit3_o3 (ro := ro) xs η0 hp hpp x1 x2 x3 x4 η hI hig
        · exact fun _ h => nomatch h
      )⟩, (List.forall_mem_cons.mpr ⟨⟨zDhs_bestBit3_1, zEhs_bestBit3_1, zFhs_bestBit3_1, 19, by decide +kernel, (by
      intro xs η0 hlx hp hpp ys η hr hl hI hig
      match ys, hl, hI, hig with
      | [x1, x2, x3, x4, x5, x6], _, hI, hig =>
        refine ⟨?_, ?_⟩
        · refine List.forall_mem_cons.mpr ⟨?_, List.forall_mem_cons.mpr ⟨?_, List.forall_mem_cons.mpr ⟨?_, fun _ h => nomatch h⟩⟩⟩
          · refine zden_L (n := 7) (ρ := [x6, x5, x4, x3, x2, x1, 0]) rfl ?_
            exact zhs_bestBit3_o4 (ro := ro) xs η0 hp hpp x1 x2 x3 x4 x5 x6 η hI hig
          · refine zden_L (n := 7) (ρ := [x6, x5, x4, x3, x2, x1, 0]) rfl ?_
            exact zhs_bestBit3_o5 (ro := ro) xs η0 hp hpp x1 x2 x3 x4 x5 x6 η hI hig
          · refine zden_L (n := 7) (ρ := [x6, x5, x4, x3, x2, x1, 0]) rfl ?_
            exact zhs_bestBit3_o6 (ro := ro) xs η0 hp hpp x1 x2 x3 x4 x5 x6 η hI hig
        · exact fun _ h => nomatch h
      )⟩, (fun _ h => nomatch h)⟩)⟩))
def zPhs_bestBit4 : zPq := ([((.ofNat (nat_lit 4)), (.ofNat (nat_lit 4)))], [])
def zOhs_bestBit4 : zPo := (((.negSucc (nat_lit 2147483647)), (.ofNat (nat_lit 2147483647))), [], [])
def zMhs_bestBit4 : List zCe := [(nat_lit 0, nat_lit 3)]
def pPhs_bestBit4 : List Int → zE → Prop := fun _ _ => True
def oQhs_bestBit4 : List Int → zE → Int → zE → Prop := fun _ _ _ _ => True
def fQhs_bestBit4 : List Int → zE → Int → zE → Prop := fun xs η y η' => y = (yw_bb (xs.getD 0 0) η) ∧ η' = (zup η 0 2 0)
def pQhs_bestBit4 : List Int → zE → Int → zE → Prop := fun xs η y η' => oQhs_bestBit4 xs η y η' ∧ fQhs_bestBit4 xs η y η'
def pChs_bestBit4 : Nat → List Int → zE → Prop := fun c => match c with
  | 0 => pPhs_isIn
  | _ => fun _ _ => True
def qChs_bestBit4 : Nat → List Int → zE → Int → zE → Prop := fun c => match c with
  | 0 => pQhs_isIn
  | _ => fun _ _ _ _ => True
def iChs_bestBit4 : List Int → zE → Nat → List Int → zE → Prop := fun xs η0 c => match c with
  | 0 => fun ys η => (True) ∧ (yw_bI η0 (xs.getD 0 0) (ys.getD 0 0) (ys.getD 1 0) (ys.getD 2 0) (ys.getD 3 0) η)
  | 1 => fun ys η => (True) ∧ (yw_bJ η0 (xs.getD 0 0) (ys.getD 0 0) (ys.getD 1 0) (ys.getD 2 0) (ys.getD 3 0) (ys.getD 4 0) (ys.getD 5 0) η)
  | _ => fun _ _ => True
def zVhs_bestBit4 : List zIv := [(nat_lit 0, ([((.ofNat (nat_lit 4)), (.ofNat (nat_lit 4))), ((.negSucc (nat_lit 2147483647)), (.ofNat (nat_lit 2147483647))), ((.negSucc (nat_lit 2147483647)), (.ofNat (nat_lit 2147483647))), ((.ofNat (nat_lit 0)), (.ofNat (nat_lit 9)))], []), ((.ofNat (nat_lit 2000)), [((.negSucc (nat_lit 99)), nat_lit 0, nat_lit 3, nat_lit 0)])), (nat_lit 1, ([((.ofNat (nat_lit 4)), (.ofNat (nat_lit 4))), ((.negSucc (nat_lit 2147483647)), (.ofNat (nat_lit 2147483647))), ((.negSucc (nat_lit 2147483647)), (.ofNat (nat_lit 2147483647))), ((.ofNat (nat_lit 0)), (.ofNat (nat_lit 8))), ((.negSucc (nat_lit 2147483647)), (.ofNat (nat_lit 2147483647))), ((.ofNat (nat_lit 0)), (.ofNat (nat_lit 4)))], []), ((.ofNat (nat_lit 1950)), [((.negSucc (nat_lit 99)), nat_lit 0, nat_lit 3, nat_lit 0), ((.negSucc (nat_lit 0)), nat_lit 0, nat_lit 5, nat_lit 0)]))]
def zUhs_bestBit4 : List zCu := [(nat_lit 25, nat_lit 0, [(nat_lit 0, (.inr (.inr (.inl (nat_lit 0))))), (nat_lit 1, (.inl (nat_lit 1, (.ofNat (nat_lit 0))))), (nat_lit 2, (.inl (nat_lit 2, (.ofNat (nat_lit 0))))), (nat_lit 3, (.inl (nat_lit 3, (.ofNat (nat_lit 0))))), (nat_lit 4, (.inl (nat_lit 4, (.ofNat (nat_lit 0)))))], []), (nat_lit 42, nat_lit 1, [(nat_lit 0, (.inr (.inr (.inl (nat_lit 0))))), (nat_lit 1, (.inl (nat_lit 1, (.ofNat (nat_lit 0))))), (nat_lit 2, (.inl (nat_lit 2, (.ofNat (nat_lit 0))))), (nat_lit 3, (.inl (nat_lit 3, (.ofNat (nat_lit 0))))), (nat_lit 4, (.inl (nat_lit 4, (.ofNat (nat_lit 0))))), (nat_lit 5, (.inl (nat_lit 5, (.ofNat (nat_lit 0))))), (nat_lit 6, (.inl (nat_lit 6, (.ofNat (nat_lit 0)))))], [])]
def zDhs_bestBit4 : List (List zK) := []
def zEhs_bestBit4 : List (List zK) := [[(nat_lit 13, nat_lit 0, [(nat_lit 1, (.ofNat (nat_lit 0))), (nat_lit 0, (.ofNat (nat_lit 1))), (nat_lit 0, (.ofNat (nat_lit 12)))]), (nat_lit 5, nat_lit 0, [(nat_lit 0, (.ofNat (nat_lit 0))), (nat_lit 0, (.ofNat (nat_lit 2))), (nat_lit 0, (.ofNat (nat_lit 0)))])],
  [(nat_lit 12, nat_lit 0, [(nat_lit 1, (.ofNat (nat_lit 0))), (nat_lit 0, (.negSucc (nat_lit 1))), (nat_lit 0, (.negSucc (nat_lit 0))), (nat_lit 0, (.ofNat (nat_lit 0)))]), (nat_lit 6, nat_lit 1, [(nat_lit 2, (.ofNat (nat_lit 0))), (nat_lit 0, (.ofNat (nat_lit 0)))]), (nat_lit 8, nat_lit 0, [(nat_lit 1, (.ofNat (nat_lit 0))), (nat_lit 0, (.ofNat (nat_lit 1))), (nat_lit 0, (.ofNat (nat_lit 12)))]), (nat_lit 5, nat_lit 0, [(nat_lit 0, (.ofNat (nat_lit 0))), (nat_lit 0, (.ofNat (nat_lit 2))), (nat_lit 0, (.ofNat (nat_lit 0)))])],
  [(nat_lit 11, nat_lit 0, [(nat_lit 0, (.negSucc (nat_lit 0)))]), (nat_lit 6, nat_lit 0, [(nat_lit 2, (.ofNat (nat_lit 0))), (nat_lit 0, (.ofNat (nat_lit 0)))]), (nat_lit 8, nat_lit 0, [(nat_lit 1, (.ofNat (nat_lit 0))), (nat_lit 0, (.ofNat (nat_lit 1))), (nat_lit 0, (.ofNat (nat_lit 12)))]), (nat_lit 5, nat_lit 0, [(nat_lit 0, (.ofNat (nat_lit 0))), (nat_lit 0, (.ofNat (nat_lit 2))), (nat_lit 0, (.ofNat (nat_lit 0)))])]]
def zFhs_bestBit4 : List (List zK) := []
def zDhs_bestBit4_0 : List (List zK) := []
def zEhs_bestBit4_0 : List (List zK) := [[(nat_lit 11, nat_lit 0, [(nat_lit 2, (.ofNat (nat_lit 0)))]), (nat_lit 6, nat_lit 4, [(nat_lit 5, (.ofNat (nat_lit 0))), (nat_lit 6, (.ofNat (nat_lit 0)))]), (nat_lit 4, nat_lit 0, [(nat_lit 0, (.ofNat (nat_lit 0))), (nat_lit 0, (.ofNat (nat_lit 12)))]), (nat_lit 0, nat_lit 1, [(nat_lit 4, (.ofNat (nat_lit 0))), (nat_lit 1, (.ofNat (nat_lit 0)))])],
  [(nat_lit 10, nat_lit 1, [(nat_lit 1, (.ofNat (nat_lit 0))), (nat_lit 2, (.ofNat (nat_lit 0))), (nat_lit 3, (.ofNat (nat_lit 0))), (nat_lit 4, (.ofNat (nat_lit 0))), (nat_lit 0, (.ofNat (nat_lit 0))), (nat_lit 0, (.ofNat (nat_lit 0)))]), (nat_lit 6, nat_lit 5, [(nat_lit 5, (.ofNat (nat_lit 0))), (nat_lit 6, (.ofNat (nat_lit 0)))]), (nat_lit 4, nat_lit 0, [(nat_lit 0, (.ofNat (nat_lit 0))), (nat_lit 0, (.ofNat (nat_lit 12)))]), (nat_lit 0, nat_lit 1, [(nat_lit 4, (.ofNat (nat_lit 0))), (nat_lit 1, (.ofNat (nat_lit 0)))])]]
def zFhs_bestBit4_0 : List (List zK) := []
def zDhs_bestBit4_1 : List (List zK) := [[(nat_lit 7, nat_lit 0, [(nat_lit 7, (.ofNat (nat_lit 0))), (nat_lit 0, (.ofNat (nat_lit 24)))]), (nat_lit 0, nat_lit 1, [(nat_lit 4, (.ofNat (nat_lit 0))), (nat_lit 6, (.ofNat (nat_lit 0)))]), (nat_lit 6, nat_lit 2, [(nat_lit 6, (.ofNat (nat_lit 0))), (nat_lit 1, (.ofNat (nat_lit 0)))])]]
def zEhs_bestBit4_1 : List (List zK) := [[(nat_lit 10, nat_lit 0, [(nat_lit 1, (.ofNat (nat_lit 0))), (nat_lit 4, (.ofNat (nat_lit 0))), (nat_lit 5, (.ofNat (nat_lit 0))), (nat_lit 7, (.ofNat (nat_lit 0)))]), (nat_lit 0, nat_lit 1, [(nat_lit 4, (.ofNat (nat_lit 0))), (nat_lit 0, (.ofNat (nat_lit 1)))]), (nat_lit 6, nat_lit 4, [(nat_lit 5, (.ofNat (nat_lit 0))), (nat_lit 3, (.ofNat (nat_lit 0)))]), (nat_lit 6, nat_lit 3, [(nat_lit 6, (.ofNat (nat_lit 0))), (nat_lit 1, (.ofNat (nat_lit 0)))])],
  [(nat_lit 10, nat_lit 0, [(nat_lit 1, (.ofNat (nat_lit 0))), (nat_lit 2, (.ofNat (nat_lit 0))), (nat_lit 3, (.ofNat (nat_lit 0))), (nat_lit 7, (.ofNat (nat_lit 0)))]), (nat_lit 0, nat_lit 1, [(nat_lit 4, (.ofNat (nat_lit 0))), (nat_lit 0, (.ofNat (nat_lit 1)))]), (nat_lit 6, nat_lit 5, [(nat_lit 5, (.ofNat (nat_lit 0))), (nat_lit 3, (.ofNat (nat_lit 0)))]), (nat_lit 6, nat_lit 3, [(nat_lit 6, (.ofNat (nat_lit 0))), (nat_lit 1, (.ofNat (nat_lit 0)))])],
  [(nat_lit 10, nat_lit 1, [(nat_lit 1, (.ofNat (nat_lit 0))), (nat_lit 2, (.ofNat (nat_lit 0))), (nat_lit 3, (.ofNat (nat_lit 0))), (nat_lit 4, (.ofNat (nat_lit 0))), (nat_lit 9, (.ofNat (nat_lit 0))), (nat_lit 10, (.ofNat (nat_lit 0)))]), (nat_lit 0, nat_lit 1, [(nat_lit 6, (.ofNat (nat_lit 0))), (nat_lit 0, (.ofNat (nat_lit 1)))]), (nat_lit 0, nat_lit 1, [(nat_lit 5, (.ofNat (nat_lit 0))), (nat_lit 8, (.ofNat (nat_lit 0)))]), (nat_lit 4, nat_lit 0, [(nat_lit 6, (.ofNat (nat_lit 0))), (nat_lit 7, (.ofNat (nat_lit 0)))]), (nat_lit 0, nat_lit 1, [(nat_lit 4, (.ofNat (nat_lit 0))), (nat_lit 6, (.ofNat (nat_lit 0)))]), (nat_lit 6, nat_lit 2, [(nat_lit 6, (.ofNat (nat_lit 0))), (nat_lit 1, (.ofNat (nat_lit 0)))])]]
def zFhs_bestBit4_1 : List (List zK) := []
set_option maxHeartbeats 8000000 in
theorem zhs_bestBit4_o0 {ro : Nat → List Int32} (x1 : Int) (η : zE) (hp : sP wl_hs zTr zPhs_bestBit4 [x1] η) (hpp : pPhs_bestBit4 [x1] η) : ∀ η1 : zE, η1 = zup η 0 (Int.toNat 2) 0 → ∀ (x2 : Int) (η2 : zE), ((gC2 wl_hs [(nat_lit 0, zPhs_isIn, zOhs_isIn, zMhs_isIn)] pChs_bestBit4 qChs_bestBit4) 0).2 [x1, 1, 12] η1 x2 η2 → (¬ x2 = 0) → (iChs_bestBit4 [x1] η) 0 [x1, (-2), (-1), 0] η2 := by
  intro η1 eη1 x2 η2 h2 c1
  have y2 : fQhs_isIn [x1, 1, 12] η1 x2 η2 := h2.2.2
  have k2 : sQ wl_hs zTr zOhs_isIn zMhs_isIn [x1, 1, 12] η1 x2 η2 ∧ oQhs_isIn [x1, 1, 12] η1 x2 η2 := ⟨h2.1, h2.2.1⟩
  refine yj_a ?_ ?_
  · have y2 : fQhs_isIn [x1, 1, 12] η1 x2 η2 := h2.2.2
    have k2 : sQ wl_hs zTr zOhs_isIn zMhs_isIn [x1, 1, 12] η1 x2 η2 ∧ oQhs_isIn [x1, 1, 12] η1 x2 η2 := ⟨h2.1, h2.2.1⟩
    exact trivial
  · have eη1 : η1 = zup η 0 2 0 := eη1
    obtain ⟨a2, b2⟩ : x2 = yq_in x1 1 12 ∧ η2 = η1 := y2
    show yw_bI η x1 x1 (-2) (-1) 0 η2
    exact wbI_0 (by rw [b2, eη1]) (by omega)
set_option maxHeartbeats 8000000 in
theorem zhs_bestBit4_o1 {ro : Nat → List Int32} (x1 : Int) (η : zE) (hp : sP wl_hs zTr zPhs_bestBit4 [x1] η) (hpp : pPhs_bestBit4 [x1] η) : ∀ η1 : zE, η1 = zup η 0 (Int.toNat 2) 0 → ∀ (x2 : Int) (η2 : zE), ((gC2 wl_hs [(nat_lit 0, zPhs_isIn, zOhs_isIn, zMhs_isIn)] pChs_bestBit4 qChs_bestBit4) 0).2 [x1, 1, 12] η1 x2 η2 → (x2 = 0) → (fun (_ : Nat) (y : Int) (η' : zE) => pQhs_bestBit4 [x1] η y η') 0 (-1) η2 := by
  intro η1 eη1 x2 η2 h2 c1
  have y2 : fQhs_isIn [x1, 1, 12] η1 x2 η2 := h2.2.2
  have k2 : sQ wl_hs zTr zOhs_isIn zMhs_isIn [x1, 1, 12] η1 x2 η2 ∧ oQhs_isIn [x1, 1, 12] η1 x2 η2 := ⟨h2.1, h2.2.1⟩
  refine yj_a ?_ ?_
  · have y2 : fQhs_isIn [x1, 1, 12] η1 x2 η2 := h2.2.2
    have k2 : sQ wl_hs zTr zOhs_isIn zMhs_isIn [x1, 1, 12] η1 x2 η2 ∧ oQhs_isIn [x1, 1, 12] η1 x2 η2 := ⟨h2.1, h2.2.1⟩
    exact trivial
  · have eη1 : η1 = zup η 0 2 0 := eη1
    obtain ⟨a2, b2⟩ : x2 = yq_in x1 1 12 ∧ η2 = η1 := y2
    show -1 = yw_bb x1 η ∧ η2 = zup η 0 2 0
    exact ⟨by unfold yw_bb; rw [if_pos (by omega)], (by rw [b2, eη1])⟩
set_option maxHeartbeats 8000000 in
theorem zhs_bestBit4_o2 {ro : Nat → List Int32} (xs : List Int) (η0 : zE) (hp : sP wl_hs zTr zPhs_bestBit4 xs η0) (hpp : pPhs_bestBit4 xs η0) (x1 x2 x3 x4 : Int) (η : zE) (hI : zsI wl_hs zTr zVhs_bestBit4 zMhs_bestBit4 η0 0 [x1, x2, x3, x4] η) (hig : iChs_bestBit4 xs η0 0 [x1, x2, x3, x4] η) : ∀ x5 : Int, x5 = zd 0 1 x4 x1 → ∀ x6 : Int, x6 = η 0 (Int.toNat 12) → zok 0 x6 → (x6 < x5) → (fun (_ : Nat) (y : Int) (η' : zE) => pQhs_bestBit4 xs η0 y η') 0 x2 η := by
  have fig := hig.2
  have hig := hig.1
  intro x5 e5 x6 e6 r6 c1
  refine yj_a ?_ ?_
  · exact trivial
  · have e5 : x5 = zd 0 1 x4 x1 := e5
    have e6 : x6 = η 0 12 := e6
    have b4 : (0 : Int) ≤ x4 ∧ x4 ≤ 9 := hI.1.2.1.2.2.2.1
    exact wbI_e (k := x1) (m := x3) (f := x4) fig (by omega) e5 (by rw [← e6]; omega)
set_option maxHeartbeats 8000000 in
theorem zhs_bestBit4_o3 {ro : Nat → List Int32} (xs : List Int) (η0 : zE) (hp : sP wl_hs zTr zPhs_bestBit4 xs η0) (hpp : pPhs_bestBit4 xs η0) (x1 x2 x3 x4 : Int) (η : zE) (hI : zsI wl_hs zTr zVhs_bestBit4 zMhs_bestBit4 η0 0 [x1, x2, x3, x4] η) (hig : iChs_bestBit4 xs η0 0 [x1, x2, x3, x4] η) : ∀ x5 : Int, x5 = zd 0 1 x4 x1 → ∀ x6 : Int, x6 = η 0 (Int.toNat 12) → zok 0 x6 → (x5 ≤ x6) → (iChs_bestBit4 xs η0) 1 [x1, x2, x3, x4, 0, 0] η ∧ (fun (_ : Nat) (_ : List Int) (_ : zE) => (0 : Nat)) 1 [x1, x2, x3, x4, 0, 0] η < 1 := by
  have fig := hig.2
  have hig := hig.1
  intro x5 e5 x6 e6 r6 c1
  refine yj_c ?_ ?_
  · exact ⟨trivial, Nat.zero_lt_one⟩
  · have e5 : x5 = zd 0 1 x4 x1 := e5
    have e6 : x6 = η 0 12 := e6
    have b4 : (0 : Int) ≤ x4 ∧ x4 ≤ 9 := hI.1.2.1.2.2.2.1
    show yw_bJ η0 (xs.getD 0 0) x1 x2 x3 x4 0 0 η
    exact wbJ_0 fig (by omega) e5 (by rw [← e6]; omega)
set_option maxHeartbeats 8000000 in
theorem zhs_bestBit4_o4 {ro : Nat → List Int32} (xs : List Int) (η0 : zE) (hp : sP wl_hs zTr zPhs_bestBit4 xs η0) (hpp : pPhs_bestBit4 xs η0) (x1 x2 x3 x4 x5 x6 : Int) (η : zE) (hI : zsI wl_hs zTr zVhs_bestBit4 zMhs_bestBit4 η0 1 [x1, x2, x3, x4, x5, x6] η) (hig : iChs_bestBit4 xs η0 1 [x1, x2, x3, x4, x5, x6] η) : (x1 ≤ x6) → (x3 < x5) → ∀ x7 : Int, x7 = zd 0 1 x4 1 → (iChs_bestBit4 xs η0) 0 [x1, x4, x5, x7] η ∧ (fun (_ : Nat) (_ : List Int) (_ : zE) => (0 : Nat)) 0 [x1, x4, x5, x7] η < 1 := by
  have fig := hig.2
  have hig := hig.1
  intro c1 c2 x7 e7
  refine yj_c ?_ ?_
  · exact ⟨trivial, Nat.zero_lt_one⟩
  · have e7 : x7 = zd 0 1 x4 1 := e7
    have b4 : (0 : Int) ≤ x4 ∧ x4 ≤ 8 := hI.1.2.1.2.2.2.1
    show yw_bI η0 (xs.getD 0 0) x1 x4 x5 x7 η
    refine wbJ_e (b := x2) (m := x3) (k := x1) (f := x4) (i := x6) (s := x5) fig (by omega) (by omega) e7 ?_
    rw [if_pos (by omega)]
set_option maxHeartbeats 8000000 in
theorem zhs_bestBit4_o5 {ro : Nat → List Int32} (xs : List Int) (η0 : zE) (hp : sP wl_hs zTr zPhs_bestBit4 xs η0) (hpp : pPhs_bestBit4 xs η0) (x1 x2 x3 x4 x5 x6 : Int) (η : zE) (hI : zsI wl_hs zTr zVhs_bestBit4 zMhs_bestBit4 η0 1 [x1, x2, x3, x4, x5, x6] η) (hig : iChs_bestBit4 xs η0 1 [x1, x2, x3, x4, x5, x6] η) : (x1 ≤ x6) → (x5 ≤ x3) → ∀ x7 : Int, x7 = zd 0 1 x4 1 → (iChs_bestBit4 xs η0) 0 [x1, x2, x3, x7] η ∧ (fun (_ : Nat) (_ : List Int) (_ : zE) => (0 : Nat)) 0 [x1, x2, x3, x7] η < 1 := by
  have fig := hig.2
  have hig := hig.1
  intro c1 c2 x7 e7
  refine yj_c ?_ ?_
  · exact ⟨trivial, Nat.zero_lt_one⟩
  · have e7 : x7 = zd 0 1 x4 1 := e7
    have b4 : (0 : Int) ≤ x4 ∧ x4 ≤ 8 := hI.1.2.1.2.2.2.1
    show yw_bI η0 (xs.getD 0 0) x1 x2 x3 x7 η
    refine wbJ_e (b := x2) (m := x3) (k := x1) (f := x4) (i := x6) (s := x5) fig (by omega) (by omega) e7 ?_
    rw [if_neg (by omega)]
set_option maxHeartbeats 8000000 in
theorem zhs_bestBit4_o6 {ro : Nat → List Int32} (xs : List Int) (η0 : zE) (hp : sP wl_hs zTr zPhs_bestBit4 xs η0) (hpp : pPhs_bestBit4 xs η0) (x1 x2 x3 x4 x5 x6 : Int) (η : zE) (hI : zsI wl_hs zTr zVhs_bestBit4 zMhs_bestBit4 η0 1 [x1, x2, x3, x4, x5, x6] η) (hig : iChs_bestBit4 xs η0 1 [x1, x2, x3, x4, x5, x6] η) : (x6 < x1) → ∀ x7 : Int, x7 = zd 0 1 x4 x6 → ∀ x8 : Int, x8 = η 6 (Int.toNat x7) → zok 0 x8 → ∀ x9 : Int, x9 = zd 0 1 x5 x8 → ∀ x10 : Int, x10 = zd 0 1 x6 1 → (iChs_bestBit4 xs η0) 1 [x1, x2, x3, x4, x9, x10] η ∧ (fun (_ : Nat) (_ : List Int) (_ : zE) => (0 : Nat)) 1 [x1, x2, x3, x4, x9, x10] η < 1 := by
  have fig := hig.2
  have hig := hig.1
  intro c1 x7 e7 x8 e8 r8 x9 e9 x10 e10
  refine yj_c ?_ ?_
  · exact ⟨trivial, Nat.zero_lt_one⟩
  · have e7 : x7 = zd 0 1 x4 x6 := e7
    have e8 : x8 = η 6 (Int.toNat x7) := e8
    have e9 : x9 = zd 0 1 x5 x8 := e9
    have e10 : x10 = zd 0 1 x6 1 := e10
    have b4 : (0 : Int) ≤ x4 ∧ x4 ≤ 8 := hI.1.2.1.2.2.2.1
    show yw_bJ η0 (xs.getD 0 0) x1 x2 x3 x4 x9 x10 η
    exact wbJ_s (k := x1) (f := x4) (i := x6) fig (by omega) (by omega) e7 e8 e9 e10
set_option maxHeartbeats 8000000 in
theorem zhs_bestBit4 {ro : Nat → List Int32} : zMet pr_P pr_K pr_df ro (sm_X0 1 6) 1 200 tm_hs [(.inr (.inr (.inl (nat_lit 0)))), (.inl (nat_lit 1, (.ofNat (nat_lit 0))))] 1 [(nat_lit 0, nat_lit 0, nat_lit 1), (nat_lit 0, nat_lit 3, nat_lit 2), (nat_lit 0, nat_lit 20, nat_lit 3), (nat_lit 0, nat_lit 21, nat_lit 4), (nat_lit 0, nat_lit 22, nat_lit 5), (nat_lit 0, nat_lit 23, nat_lit 6), (nat_lit 0, nat_lit 24, nat_lit 7), (nat_lit 0, nat_lit 25, nat_lit 8), (nat_lit 0, nat_lit 26, nat_lit 9), (nat_lit 0, nat_lit 27, nat_lit 10), (nat_lit 0, nat_lit 28, nat_lit 11), (nat_lit 0, nat_lit 29, nat_lit 12), (nat_lit 0, nat_lit 30, nat_lit 13), (nat_lit 0, nat_lit 31, nat_lit 14), (nat_lit 0, nat_lit 32, nat_lit 15), (nat_lit 0, nat_lit 33, nat_lit 16), (nat_lit 0, nat_lit 34, nat_lit 17), (nat_lit 0, nat_lit 35, nat_lit 18), (nat_lit 0, nat_lit 36, nat_lit 19), (nat_lit 0, nat_lit 37, nat_lit 20), (nat_lit 0, nat_lit 38, nat_lit 21), (nat_lit 0, nat_lit 39, nat_lit 22), (nat_lit 0, nat_lit 40, nat_lit 23), (nat_lit 0, nat_lit 47, nat_lit 24), (nat_lit 0, nat_lit 48, nat_lit 25), (nat_lit 0, nat_lit 50, nat_lit 26), (nat_lit 0, nat_lit 51, nat_lit 27), (nat_lit 0, nat_lit 52, nat_lit 28), (nat_lit 0, nat_lit 53, nat_lit 29), (nat_lit 0, nat_lit 54, nat_lit 30), (nat_lit 0, nat_lit 55, nat_lit 31), (nat_lit 0, nat_lit 56, nat_lit 32), (nat_lit 0, nat_lit 57, nat_lit 33), (nat_lit 0, nat_lit 58, nat_lit 34), (nat_lit 0, nat_lit 59, nat_lit 35), (nat_lit 0, nat_lit 72, nat_lit 36), (nat_lit 0, nat_lit 73, nat_lit 37), (nat_lit 0, nat_lit 76, nat_lit 38), (nat_lit 0, nat_lit 77, nat_lit 39), (nat_lit 0, nat_lit 79, nat_lit 40), (nat_lit 0, nat_lit 81, nat_lit 41), (nat_lit 0, nat_lit 82, nat_lit 42)] [] (fun xs η => sP wl_hs zTr zPhs_bestBit4 xs η ∧ pPhs_bestBit4 xs η) (fun xs η y η' => sQ wl_hs zTr zOhs_bestBit4 zMhs_bestBit4 xs η y η' ∧ pQhs_bestBit4 xs η y η') :=
  zmet_alt (zmea_gen (mi := (nat_lit 1, nat_lit 1, nat_lit 8, nat_lit 7, nat_lit 1, tX8_bestBit)) (cd := [(nat_lit 117, nat_lit 0, nat_lit 0, [(.inl (nat_lit 1, (.ofNat (nat_lit 0)))), (.inl (nat_lit 2, (.ofNat (nat_lit 0)))), (.inl (nat_lit 3, (.ofNat (nat_lit 0))))], nat_lit 2, [], [])]) (cu := zUhs_bestBit4) (cs := [(nat_lit 0, zPhs_isIn, zOhs_isIn, zMhs_isIn)]) (iv := zVhs_bestBit4) (po := [zOhs_bestBit4]) (pr := zPhs_bestBit4) (mods := zMhs_bestBit4) (D7 := zDhs_bestBit4) (D0 := zEhs_bestBit4) (Dm := zFhs_bestBit4) (f0 := 19) pChs_bestBit4 qChs_bestBit4 iChs_bestBit4 pPhs_bestBit4 (fun xs η _ y η' => pQhs_bestBit4 xs η y η') zX_low pr_mtR rfl (List.forall_mem_cons.mpr ⟨zhs_isIn, fun _ h => nomatch h⟩) (by decide +kernel) (by decide +kernel) (by decide +kernel)
    (by
      intro xs η hr hl hp hpp
      match xs, hl, hp, hpp with
      | [x1], _, hp, hpp =>
        refine List.forall_mem_cons.mpr ⟨?_, List.forall_mem_cons.mpr ⟨?_, List.forall_mem_cons.mpr ⟨?_, fun _ h => nomatch h⟩⟩⟩
        · refine zden_L (n := 2) (ρ := [x1, 0]) rfl ?_
          show ∀ η1 : zE, η1 = zup η 0 (Int.toNat 2) 0 → ((gC2 wl_hs [(nat_lit 0, zPhs_isIn, zOhs_isIn, zMhs_isIn)] pChs_bestBit4 qChs_bestBit4) 0).1 [x1, 1, 12] η1
          intro η1 eη1
          exact trivial
        · refine zden_L (n := 2) (ρ := [x1, 0]) rfl ?_
          exact zhs_bestBit4_o0 (ro := ro) x1 η hp hpp
        · refine zden_L (n := 2) (ρ := [x1, 0]) rfl ?_
          exact zhs_bestBit4_o1 (ro := ro) x1 η hp hpp
      )
    (fun _ _ _ _ _ _ _ h => nomatch h)
    (List.forall_mem_cons.mpr ⟨⟨zDhs_bestBit4_0, zEhs_bestBit4_0, zFhs_bestBit4_0, 15, by decide +kernel, (by
      intro xs η0 hlx hp hpp ys η hr hl hI hig
      match ys, hl, hI, hig with
      | [x1, x2, x3, x4], _, hI, hig =>
        refine ⟨?_, ?_⟩
        · refine List.forall_mem_cons.mpr ⟨?_, List.forall_mem_cons.mpr ⟨?_, fun _ h => nomatch h⟩⟩
          · refine zden_L (n := 5) (ρ := [x4, x3, x2, x1, 0]) rfl ?_
            exact zhs_bestBit4_o2 (ro := ro) xs η0 hp hpp x1 x2 x3 x4 η hI hig
          · refine zden_L (n := 5) (ρ := [x4, x3, x2, x1, 0]) rfl ?_
            exact zhs_bestBit4_o3 (ro := ro) xs η0 hp hpp x1 x2 x3 x4 η hI hig
        · exact fun _ h => nomatch h
      )⟩, (List.forall_mem_cons.mpr ⟨⟨zDhs_bestBit4_1, zEhs_bestBit4_1, zFhs_bestBit4_1, 19, by decide +kernel, (by
      intro xs η0 hlx hp hpp ys η hr hl hI hig
      match ys, hl, hI, hig with
      | [x1, x2, x3, x4, x5, x6], _, hI, hig =>
        refine ⟨?_, ?_⟩
        · refine List.forall_mem_cons.mpr ⟨?_, List.forall_mem_cons.mpr ⟨?_, List.forall_mem_cons.mpr ⟨?_, fun _ h => nomatch h⟩⟩⟩
          · refine zden_L (n := 7) (ρ := [x6, x5, x4, x3, x2, x1, 0]) rfl ?_
            exact zhs_bestBit4_o4 (ro := ro) xs η0 hp hpp x1 x2 x3 x4 x5 x6 η hI hig
          · refine zden_L (n := 7) (ρ := [x6, x5, x4, x3, x2, x1, 0]) rfl ?_
            exact zhs_bestBit4_o5 (ro := ro) xs η0 hp hpp x1 x2 x3 x4 x5 x6 η hI hig
          · refine zden_L (n := 7) (ρ := [x6, x5, x4, x3, x2, x1, 0]) rfl ?_
            exact zhs_bestBit4_o6 (ro := ro) xs η0 hp hpp x1 x2 x3 x4 x5 x6 η hI hig
        · exact fun _ h => nomatch h
      )⟩, (fun _ h => nomatch h)⟩)⟩))
def zPhs_bestBit5 : zPq := ([((.ofNat (nat_lit 5)), (.ofNat (nat_lit 5)))], [])
def zOhs_bestBit5 : zPo := (((.negSucc (nat_lit 2147483647)), (.ofNat (nat_lit 2147483647))), [], [])
def zMhs_bestBit5 : List zCe := [(nat_lit 0, nat_lit 3)]
def pPhs_bestBit5 : List Int → zE → Prop := fun _ _ => True
def oQhs_bestBit5 : List Int → zE → Int → zE → Prop := fun _ _ _ _ => True
def fQhs_bestBit5 : List Int → zE → Int → zE → Prop := fun xs η y η' => y = (yw_bb (xs.getD 0 0) η) ∧ η' = (zup η 0 2 0)
def pQhs_bestBit5 : List Int → zE → Int → zE → Prop := fun xs η y η' => oQhs_bestBit5 xs η y η' ∧ fQhs_bestBit5 xs η y η'
def pChs_bestBit5 : Nat → List Int → zE → Prop := fun c => match c with
  | 0 => pPhs_isIn
  | _ => fun _ _ => True
def qChs_bestBit5 : Nat → List Int → zE → Int → zE → Prop := fun c => match c with
  | 0 => pQhs_isIn
  | _ => fun _ _ _ _ => True
def iChs_bestBit5 : List Int → zE → Nat → List Int → zE → Prop := fun xs η0 c => match c with
  | 0 => fun ys η => (True) ∧ (yw_bI η0 (xs.getD 0 0) (ys.getD 0 0) (ys.getD 1 0) (ys.getD 2 0) (ys.getD 3 0) η)
  | 1 => fun ys η => (True) ∧ (yw_bJ η0 (xs.getD 0 0) (ys.getD 0 0) (ys.getD 1 0) (ys.getD 2 0) (ys.getD 3 0) (ys.getD 4 0) (ys.getD 5 0) η)
  | _ => fun _ _ => True
def zVhs_bestBit5 : List zIv := [(nat_lit 0, ([((.ofNat (nat_lit 5)), (.ofNat (nat_lit 5))), ((.negSucc (nat_lit 2147483647)), (.ofNat (nat_lit 2147483647))), ((.negSucc (nat_lit 2147483647)), (.ofNat (nat_lit 2147483647))), ((.ofNat (nat_lit 0)), (.ofNat (nat_lit 8)))], []), ((.ofNat (nat_lit 2000)), [((.negSucc (nat_lit 99)), nat_lit 0, nat_lit 3, nat_lit 0)])), (nat_lit 1, ([((.ofNat (nat_lit 5)), (.ofNat (nat_lit 5))), ((.negSucc (nat_lit 2147483647)), (.ofNat (nat_lit 2147483647))), ((.negSucc (nat_lit 2147483647)), (.ofNat (nat_lit 2147483647))), ((.ofNat (nat_lit 0)), (.ofNat (nat_lit 7))), ((.negSucc (nat_lit 2147483647)), (.ofNat (nat_lit 2147483647))), ((.ofNat (nat_lit 0)), (.ofNat (nat_lit 5)))], []), ((.ofNat (nat_lit 1950)), [((.negSucc (nat_lit 99)), nat_lit 0, nat_lit 3, nat_lit 0), ((.negSucc (nat_lit 0)), nat_lit 0, nat_lit 5, nat_lit 0)]))]
def zUhs_bestBit5 : List zCu := [(nat_lit 25, nat_lit 0, [(nat_lit 0, (.inr (.inr (.inl (nat_lit 0))))), (nat_lit 1, (.inl (nat_lit 1, (.ofNat (nat_lit 0))))), (nat_lit 2, (.inl (nat_lit 2, (.ofNat (nat_lit 0))))), (nat_lit 3, (.inl (nat_lit 3, (.ofNat (nat_lit 0))))), (nat_lit 4, (.inl (nat_lit 4, (.ofNat (nat_lit 0)))))], []), (nat_lit 42, nat_lit 1, [(nat_lit 0, (.inr (.inr (.inl (nat_lit 0))))), (nat_lit 1, (.inl (nat_lit 1, (.ofNat (nat_lit 0))))), (nat_lit 2, (.inl (nat_lit 2, (.ofNat (nat_lit 0))))), (nat_lit 3, (.inl (nat_lit 3, (.ofNat (nat_lit 0))))), (nat_lit 4, (.inl (nat_lit 4, (.ofNat (nat_lit 0))))), (nat_lit 5, (.inl (nat_lit 5, (.ofNat (nat_lit 0))))), (nat_lit 6, (.inl (nat_lit 6, (.ofNat (nat_lit 0)))))], [])]
def zDhs_bestBit5 : List (List zK) := []
def zEhs_bestBit5 : List (List zK) := [[(nat_lit 13, nat_lit 0, [(nat_lit 1, (.ofNat (nat_lit 0))), (nat_lit 0, (.ofNat (nat_lit 1))), (nat_lit 0, (.ofNat (nat_lit 12)))]), (nat_lit 5, nat_lit 0, [(nat_lit 0, (.ofNat (nat_lit 0))), (nat_lit 0, (.ofNat (nat_lit 2))), (nat_lit 0, (.ofNat (nat_lit 0)))])],
  [(nat_lit 12, nat_lit 0, [(nat_lit 1, (.ofNat (nat_lit 0))), (nat_lit 0, (.negSucc (nat_lit 1))), (nat_lit 0, (.negSucc (nat_lit 0))), (nat_lit 0, (.ofNat (nat_lit 0)))]), (nat_lit 6, nat_lit 1, [(nat_lit 2, (.ofNat (nat_lit 0))), (nat_lit 0, (.ofNat (nat_lit 0)))]), (nat_lit 8, nat_lit 0, [(nat_lit 1, (.ofNat (nat_lit 0))), (nat_lit 0, (.ofNat (nat_lit 1))), (nat_lit 0, (.ofNat (nat_lit 12)))]), (nat_lit 5, nat_lit 0, [(nat_lit 0, (.ofNat (nat_lit 0))), (nat_lit 0, (.ofNat (nat_lit 2))), (nat_lit 0, (.ofNat (nat_lit 0)))])],
  [(nat_lit 11, nat_lit 0, [(nat_lit 0, (.negSucc (nat_lit 0)))]), (nat_lit 6, nat_lit 0, [(nat_lit 2, (.ofNat (nat_lit 0))), (nat_lit 0, (.ofNat (nat_lit 0)))]), (nat_lit 8, nat_lit 0, [(nat_lit 1, (.ofNat (nat_lit 0))), (nat_lit 0, (.ofNat (nat_lit 1))), (nat_lit 0, (.ofNat (nat_lit 12)))]), (nat_lit 5, nat_lit 0, [(nat_lit 0, (.ofNat (nat_lit 0))), (nat_lit 0, (.ofNat (nat_lit 2))), (nat_lit 0, (.ofNat (nat_lit 0)))])]]
def zFhs_bestBit5 : List (List zK) := []
def zDhs_bestBit5_0 : List (List zK) := []
def zEhs_bestBit5_0 : List (List zK) := [[(nat_lit 11, nat_lit 0, [(nat_lit 2, (.ofNat (nat_lit 0)))]), (nat_lit 6, nat_lit 4, [(nat_lit 5, (.ofNat (nat_lit 0))), (nat_lit 6, (.ofNat (nat_lit 0)))]), (nat_lit 4, nat_lit 0, [(nat_lit 0, (.ofNat (nat_lit 0))), (nat_lit 0, (.ofNat (nat_lit 12)))]), (nat_lit 0, nat_lit 1, [(nat_lit 4, (.ofNat (nat_lit 0))), (nat_lit 1, (.ofNat (nat_lit 0)))])],
  [(nat_lit 10, nat_lit 1, [(nat_lit 1, (.ofNat (nat_lit 0))), (nat_lit 2, (.ofNat (nat_lit 0))), (nat_lit 3, (.ofNat (nat_lit 0))), (nat_lit 4, (.ofNat (nat_lit 0))), (nat_lit 0, (.ofNat (nat_lit 0))), (nat_lit 0, (.ofNat (nat_lit 0)))]), (nat_lit 6, nat_lit 5, [(nat_lit 5, (.ofNat (nat_lit 0))), (nat_lit 6, (.ofNat (nat_lit 0)))]), (nat_lit 4, nat_lit 0, [(nat_lit 0, (.ofNat (nat_lit 0))), (nat_lit 0, (.ofNat (nat_lit 12)))]), (nat_lit 0, nat_lit 1, [(nat_lit 4, (.ofNat (nat_lit 0))), (nat_lit 1, (.ofNat (nat_lit 0)))])]]
def zFhs_bestBit5_0 : List (List zK) := []
def zDhs_bestBit5_1 : List (List zK) := [[(nat_lit 7, nat_lit 0, [(nat_lit 7, (.ofNat (nat_lit 0))), (nat_lit 0, (.ofNat (nat_lit 24)))]), (nat_lit 0, nat_lit 1, [(nat_lit 4, (.ofNat (nat_lit 0))), (nat_lit 6, (.ofNat (nat_lit 0)))]), (nat_lit 6, nat_lit 2, [(nat_lit 6, (.ofNat (nat_lit 0))), (nat_lit 1, (.ofNat (nat_lit 0)))])]]
def zEhs_bestBit5_1 : List (List zK) := [[(nat_lit 10, nat_lit 0, [(nat_lit 1, (.ofNat (nat_lit 0))), (nat_lit 4, (.ofNat (nat_lit 0))), (nat_lit 5, (.ofNat (nat_lit 0))), (nat_lit 7, (.ofNat (nat_lit 0)))]), (nat_lit 0, nat_lit 1, [(nat_lit 4, (.ofNat (nat_lit 0))), (nat_lit 0, (.ofNat (nat_lit 1)))]), (nat_lit 6, nat_lit 4, [(nat_lit 5, (.ofNat (nat_lit 0))), (nat_lit 3, (.ofNat (nat_lit 0)))]), (nat_lit 6, nat_lit 3, [(nat_lit 6, (.ofNat (nat_lit 0))), (nat_lit 1, (.ofNat (nat_lit 0)))])],
  [(nat_lit 10, nat_lit 0, [(nat_lit 1, (.ofNat (nat_lit 0))), (nat_lit 2, (.ofNat (nat_lit 0))), (nat_lit 3, (.ofNat (nat_lit 0))), (nat_lit 7, (.ofNat (nat_lit 0)))]), (nat_lit 0, nat_lit 1, [(nat_lit 4, (.ofNat (nat_lit 0))), (nat_lit 0, (.ofNat (nat_lit 1)))]), (nat_lit 6, nat_lit 5, [(nat_lit 5, (.ofNat (nat_lit 0))), (nat_lit 3, (.ofNat (nat_lit 0)))]), (nat_lit 6, nat_lit 3, [(nat_lit 6, (.ofNat (nat_lit 0))), (nat_lit 1, (.ofNat (nat_lit 0)))])],
  [(nat_lit 10, nat_lit 1, [(nat_lit 1, (.ofNat (nat_lit 0))), (nat_lit 2, (.ofNat (nat_lit 0))), (nat_lit 3, (.ofNat (nat_lit 0))), (nat_lit 4, (.ofNat (nat_lit 0))), (nat_lit 9, (.ofNat (nat_lit 0))), (nat_lit 10, (.ofNat (nat_lit 0)))]), (nat_lit 0, nat_lit 1, [(nat_lit 6, (.ofNat (nat_lit 0))), (nat_lit 0, (.ofNat (nat_lit 1)))]), (nat_lit 0, nat_lit 1, [(nat_lit 5, (.ofNat (nat_lit 0))), (nat_lit 8, (.ofNat (nat_lit 0)))]), (nat_lit 4, nat_lit 0, [(nat_lit 6, (.ofNat (nat_lit 0))), (nat_lit 7, (.ofNat (nat_lit 0)))]), (nat_lit 0, nat_lit 1, [(nat_lit 4, (.ofNat (nat_lit 0))), (nat_lit 6, (.ofNat (nat_lit 0)))]), (nat_lit 6, nat_lit 2, [(nat_lit 6, (.ofNat (nat_lit 0))), (nat_lit 1, (.ofNat (nat_lit 0)))])]]
def zFhs_bestBit5_1 : List (List zK) := []
set_option maxHeartbeats 8000000 in
theorem zhs_bestBit5_o0 {ro : Nat → List Int32} (x1 : Int) (η : zE) (hp : sP wl_hs zTr zPhs_bestBit5 [x1] η) (hpp : pPhs_bestBit5 [x1] η) : ∀ η1 : zE, η1 = zup η 0 (Int.toNat 2) 0 → ∀ (x2 : Int) (η2 : zE), ((gC2 wl_hs [(nat_lit 0, zPhs_isIn, zOhs_isIn, zMhs_isIn)] pChs_bestBit5 qChs_bestBit5) 0).2 [x1, 1, 12] η1 x2 η2 → (¬ x2 = 0) → (iChs_bestBit5 [x1] η) 0 [x1, (-2), (-1), 0] η2 := by
  intro η1 eη1 x2 η2 h2 c1
  have y2 : fQhs_isIn [x1, 1, 12] η1 x2 η2 := h2.2.2
  have k2 : sQ wl_hs zTr zOhs_isIn zMhs_isIn [x1, 1, 12] η1 x2 η2 ∧ oQhs_isIn [x1, 1, 12] η1 x2 η2 := ⟨h2.1, h2.2.1⟩
  refine yj_a ?_ ?_
  · have y2 : fQhs_isIn [x1, 1, 12] η1 x2 η2 := h2.2.2
    have k2 : sQ wl_hs zTr zOhs_isIn zMhs_isIn [x1, 1, 12] η1 x2 η2 ∧ oQhs_isIn [x1, 1, 12] η1 x2 η2 := ⟨h2.1, h2.2.1⟩
    exact trivial
  · have eη1 : η1 = zup η 0 2 0 := eη1
    obtain ⟨a2, b2⟩ : x2 = yq_in x1 1 12 ∧ η2 = η1 := y2
    show yw_bI η x1 x1 (-2) (-1) 0 η2
    exact wbI_0 (by rw [b2, eη1]) (by omega)
set_option maxHeartbeats 8000000 in
theorem zhs_bestBit5_o1 {ro : Nat → List Int32} (x1 : Int) (η : zE) (hp : sP wl_hs zTr zPhs_bestBit5 [x1] η) (hpp : pPhs_bestBit5 [x1] η) : ∀ η1 : zE, η1 = zup η 0 (Int.toNat 2) 0 → ∀ (x2 : Int) (η2 : zE), ((gC2 wl_hs [(nat_lit 0, zPhs_isIn, zOhs_isIn, zMhs_isIn)] pChs_bestBit5 qChs_bestBit5) 0).2 [x1, 1, 12] η1 x2 η2 → (x2 = 0) → (fun (_ : Nat) (y : Int) (η' : zE) => pQhs_bestBit5 [x1] η y η') 0 (-1) η2 := by
  intro η1 eη1 x2 η2 h2 c1
  have y2 : fQhs_isIn [x1, 1, 12] η1 x2 η2 := h2.2.2
  have k2 : sQ wl_hs zTr zOhs_isIn zMhs_isIn [x1, 1, 12] η1 x2 η2 ∧ oQhs_isIn [x1, 1, 12] η1 x2 η2 := ⟨h2.1, h2.2.1⟩
  refine yj_a ?_ ?_
  · have y2 : fQhs_isIn [x1, 1, 12] η1 x2 η2 := h2.2.2
    have k2 : sQ wl_hs zTr zOhs_isIn zMhs_isIn [x1, 1, 12] η1 x2 η2 ∧ oQhs_isIn [x1, 1, 12] η1 x2 η2 := ⟨h2.1, h2.2.1⟩
    exact trivial
  · have eη1 : η1 = zup η 0 2 0 := eη1
    obtain ⟨a2, b2⟩ : x2 = yq_in x1 1 12 ∧ η2 = η1 := y2
    show -1 = yw_bb x1 η ∧ η2 = zup η 0 2 0
    exact ⟨by unfold yw_bb; rw [if_pos (by omega)], (by rw [b2, eη1])⟩
set_option maxHeartbeats 8000000 in
theorem zhs_bestBit5_o2 {ro : Nat → List Int32} (xs : List Int) (η0 : zE) (hp : sP wl_hs zTr zPhs_bestBit5 xs η0) (hpp : pPhs_bestBit5 xs η0) (x1 x2 x3 x4 : Int) (η : zE) (hI : zsI wl_hs zTr zVhs_bestBit5 zMhs_bestBit5 η0 0 [x1, x2, x3, x4] η) (hig : iChs_bestBit5 xs η0 0 [x1, x2, x3, x4] η) : ∀ x5 : Int, x5 = zd 0 1 x4 x1 → ∀ x6 : Int, x6 = η 0 (Int.toNat 12) → zok 0 x6 → (x6 < x5) → (fun (_ : Nat) (y : Int) (η' : zE) => pQhs_bestBit5 xs η0 y η') 0 x2 η := by
  have fig := hig.2
  have hig := hig.1
  intro x5 e5 x6 e6 r6 c1
  refine yj_a ?_ ?_
  · exact trivial
  · have e5 : x5 = zd 0 1 x4 x1 := e5
    have e6 : x6 = η 0 12 := e6
    have b4 : (0 : Int) ≤ x4 ∧ x4 ≤ 8 := hI.1.2.1.2.2.2.1
    exact wbI_e (k := x1) (m := x3) (f := x4) fig (by omega) e5 (by rw [← e6]; omega)
set_option maxHeartbeats 8000000 in
theorem zhs_bestBit5_o3 {ro : Nat → List Int32} (xs : List Int) (η0 : zE) (hp : sP wl_hs zTr zPhs_bestBit5 xs η0) (hpp : pPhs_bestBit5 xs η0) (x1 x2 x3 x4 : Int) (η : zE) (hI : zsI wl_hs zTr zVhs_bestBit5 zMhs_bestBit5 η0 0 [x1, x2, x3, x4] η) (hig : iChs_bestBit5 xs η0 0 [x1, x2, x3, x4] η) : ∀ x5 : Int, x5 = zd 0 1 x4 x1 → ∀ x6 : Int, x6 = η 0 (Int.toNat 12) → zok 0 x6 → (x5 ≤ x6) → (iChs_bestBit5 xs η0) 1 [x1, x2, x3, x4, 0, 0] η ∧ (fun (_ : Nat) (_ : List Int) (_ : zE) => (0 : Nat)) 1 [x1, x2, x3, x4, 0, 0] η < 1 := by
  have fig := hig.2
  have hig := hig.1
  intro x5 e5 x6 e6 r6 c1
  refine yj_c ?_ ?_
  · exact ⟨trivial, Nat.zero_lt_one⟩
  · have e5 : x5 = zd 0 1 x4 x1 := e5
    have e6 : x6 = η 0 12 := e6
    have b4 : (0 : Int) ≤ x4 ∧ x4 ≤ 8 := hI.1.2.1.2.2.2.1
    show yw_bJ η0 (xs.getD 0 0) x1 x2 x3 x4 0 0 η
    exact wbJ_0 fig (by omega) e5 (by rw [← e6]; omega)
set_option maxHeartbeats 8000000 in
theorem zhs_bestBit5_o4 {ro : Nat → List Int32} (xs : List Int) (η0 : zE) (hp : sP wl_hs zTr zPhs_bestBit5 xs η0) (hpp : pPhs_bestBit5 xs η0) (x1 x2 x3 x4 x5 x6 : Int) (η : zE) (hI : zsI wl_hs zTr zVhs_bestBit5 zMhs_bestBit5 η0 1 [x1, x2, x3, x4, x5, x6] η) (hig : iChs_bestBit5 xs η0 1 [x1, x2, x3, x4, x5, x6] η) : (x1 ≤ x6) → (x3 < x5) → ∀ x7 : Int, x7 = zd 0 1 x4 1 → (iChs_bestBit5 xs η0) 0 [x1, x4, x5, x7] η ∧ (fun (_ : Nat) (_ : List Int) (_ : zE) => (0 : Nat)) 0 [x1, x4, x5, x7] η < 1 := by
  have fig := hig.2
  have hig := hig.1
  intro c1 c2 x7 e7
  refine yj_c ?_ ?_
  · exact ⟨trivial, Nat.zero_lt_one⟩
  · have e7 : x7 = zd 0 1 x4 1 := e7
    have b4 : (0 : Int) ≤ x4 ∧ x4 ≤ 7 := hI.1.2.1.2.2.2.1
    show yw_bI η0 (xs.getD 0 0) x1 x4 x5 x7 η
    refine wbJ_e (b := x2) (m := x3) (k := x1) (f := x4) (i := x6) (s := x5) fig (by omega) (by omega) e7 ?_
    rw [if_pos (by omega)]
set_option maxHeartbeats 8000000 in
theorem zhs_bestBit5_o5 {ro : Nat → List Int32} (xs : List Int) (η0 : zE) (hp : sP wl_hs zTr zPhs_bestBit5 xs η0) (hpp : pPhs_bestBit5 xs η0) (x1 x2 x3 x4 x5 x6 : Int) (η : zE) (hI : zsI wl_hs zTr zVhs_bestBit5 zMhs_bestBit5 η0 1 [x1, x2, x3, x4, x5, x6] η) (hig : iChs_bestBit5 xs η0 1 [x1, x2, x3, x4, x5, x6] η) : (x1 ≤ x6) → (x5 ≤ x3) → ∀ x7 : Int, x7 = zd 0 1 x4 1 → (iChs_bestBit5 xs η0) 0 [x1, x2, x3, x7] η ∧ (fun (_ : Nat) (_ : List Int) (_ : zE) => (0 : Nat)) 0 [x1, x2, x3, x7] η < 1 := by
  have fig := hig.2
  have hig := hig.1
  intro c1 c2 x7 e7
  refine yj_c ?_ ?_
  · exact ⟨trivial, Nat.zero_lt_one⟩
  · have e7 : x7 = zd 0 1 x4 1 := e7
    have b4 : (0 : Int) ≤ x4 ∧ x4 ≤ 7 := hI.1.2.1.2.2.2.1
    show yw_bI η0 (xs.getD 0 0) x1 x2 x3 x7 η
    refine wbJ_e (b := x2) (m := x3) (k := x1) (f := x4) (i := x6) (s := x5) fig (by omega) (by omega) e7 ?_
    rw [if_neg (by omega)]
set_option maxHeartbeats 8000000 in
theorem zhs_bestBit5_o6 {ro : Nat → List Int32} (xs : List Int) (η0 : zE) (hp : sP wl_hs zTr zPhs_bestBit5 xs η0) (hpp : pPhs_bestBit5 xs η0) (x1 x2 x3 x4 x5 x6 : Int) (η : zE) (hI : zsI wl_hs zTr zVhs_bestBit5 zMhs_bestBit5 η0 1 [x1, x2, x3, x4, x5, x6] η) (hig : iChs_bestBit5 xs η0 1 [x1, x2, x3, x4, x5, x6] η) : (x6 < x1) → ∀ x7 : Int, x7 = zd 0 1 x4 x6 → ∀ x8 : Int, x8 = η 6 (Int.toNat x7) → zok 0 x8 → ∀ x9 : Int, x9 = zd 0 1 x5 x8 → ∀ x10 : Int, x10 = zd 0 1 x6 1 → (iChs_bestBit5 xs η0) 1 [x1, x2, x3, x4, x9, x10] η ∧ (fun (_ : Nat) (_ : List Int) (_ : zE) => (0 : Nat)) 1 [x1, x2, x3, x4, x9, x10] η < 1 := by
  have fig := hig.2
  have hig := hig.1
  intro c1 x7 e7 x8 e8 r8 x9 e9 x10 e10
  refine yj_c ?_ ?_
  · exact ⟨trivial, Nat.zero_lt_one⟩
  · have e7 : x7 = zd 0 1 x4 x6 := e7
    have e8 : x8 = η 6 (Int.toNat x7) := e8
    have e9 : x9 = zd 0 1 x5 x8 := e9
    have e10 : x10 = zd 0 1 x6 1 := e10
    have b4 : (0 : Int) ≤ x4 ∧ x4 ≤ 7 := hI.1.2.1.2.2.2.1
    show yw_bJ η0 (xs.getD 0 0) x1 x2 x3 x4 x9 x10 η
    exact wbJ_s (k := x1) (f := x4) (i := x6) fig (by omega) (by omega) e7 e8 e9 e10
set_option maxHeartbeats 8000000 in
theorem zhs_bestBit5 {ro : Nat → List Int32} : zMet pr_P pr_K pr_df ro (sm_X0 1 6) 1 200 tm_hs [(.inr (.inr (.inl (nat_lit 0)))), (.inl (nat_lit 1, (.ofNat (nat_lit 0))))] 1 [(nat_lit 0, nat_lit 0, nat_lit 1), (nat_lit 0, nat_lit 3, nat_lit 2), (nat_lit 0, nat_lit 20, nat_lit 3), (nat_lit 0, nat_lit 21, nat_lit 4), (nat_lit 0, nat_lit 22, nat_lit 5), (nat_lit 0, nat_lit 23, nat_lit 6), (nat_lit 0, nat_lit 24, nat_lit 7), (nat_lit 0, nat_lit 25, nat_lit 8), (nat_lit 0, nat_lit 26, nat_lit 9), (nat_lit 0, nat_lit 27, nat_lit 10), (nat_lit 0, nat_lit 28, nat_lit 11), (nat_lit 0, nat_lit 29, nat_lit 12), (nat_lit 0, nat_lit 30, nat_lit 13), (nat_lit 0, nat_lit 31, nat_lit 14), (nat_lit 0, nat_lit 32, nat_lit 15), (nat_lit 0, nat_lit 33, nat_lit 16), (nat_lit 0, nat_lit 34, nat_lit 17), (nat_lit 0, nat_lit 35, nat_lit 18), (nat_lit 0, nat_lit 36, nat_lit 19), (nat_lit 0, nat_lit 37, nat_lit 20), (nat_lit 0, nat_lit 38, nat_lit 21), (nat_lit 0, nat_lit 39, nat_lit 22), (nat_lit 0, nat_lit 40, nat_lit 23), (nat_lit 0, nat_lit 47, nat_lit 24), (nat_lit 0, nat_lit 48, nat_lit 25), (nat_lit 0, nat_lit 50, nat_lit 26), (nat_lit 0, nat_lit 51, nat_lit 27), (nat_lit 0, nat_lit 52, nat_lit 28), (nat_lit 0, nat_lit 53, nat_lit 29), (nat_lit 0, nat_lit 54, nat_lit 30), (nat_lit 0, nat_lit 55, nat_lit 31), (nat_lit 0, nat_lit 56, nat_lit 32), (nat_lit 0, nat_lit 57, nat_lit 33), (nat_lit 0, nat_lit 58, nat_lit 34), (nat_lit 0, nat_lit 59, nat_lit 35), (nat_lit 0, nat_lit 72, nat_lit 36), (nat_lit 0, nat_lit 73, nat_lit 37), (nat_lit 0, nat_lit 76, nat_lit 38), (nat_lit 0, nat_lit 77, nat_lit 39), (nat_lit 0, nat_lit 79, nat_lit 40), (nat_lit 0, nat_lit 81, nat_lit 41), (nat_lit 0, nat_lit 82, nat_lit 42)] [] (fun xs η => sP wl_hs zTr zPhs_bestBit5 xs η ∧ pPhs_bestBit5 xs η) (fun xs η y η' => sQ wl_hs zTr zOhs_bestBit5 zMhs_bestBit5 xs η y η' ∧ pQhs_bestBit5 xs η y η') :=
  zmet_alt (zmea_gen (mi := (nat_lit 1, nat_lit 1, nat_lit 8, nat_lit 7, nat_lit 1, tX8_bestBit)) (cd := [(nat_lit 117, nat_lit 0, nat_lit 0, [(.inl (nat_lit 1, (.ofNat (nat_lit 0)))), (.inl (nat_lit 2, (.ofNat (nat_lit 0)))), (.inl (nat_lit 3, (.ofNat (nat_lit 0))))], nat_lit 2, [], [])]) (cu := zUhs_bestBit5) (cs := [(nat_lit 0, zPhs_isIn, zOhs_isIn, zMhs_isIn)]) (iv := zVhs_bestBit5) (po := [zOhs_bestBit5]) (pr := zPhs_bestBit5) (mods := zMhs_bestBit5) (D7 := zDhs_bestBit5) (D0 := zEhs_bestBit5) (Dm := zFhs_bestBit5) (f0 := 19) pChs_bestBit5 qChs_bestBit5 iChs_bestBit5 pPhs_bestBit5 (fun xs η _ y η' => pQhs_bestBit5 xs η y η') zX_low pr_mtR rfl (List.forall_mem_cons.mpr ⟨zhs_isIn, fun _ h => nomatch h⟩) (by decide +kernel) (by decide +kernel) (by decide +kernel)
    (by
      intro xs η hr hl hp hpp
      match xs, hl, hp, hpp with
      | [x1], _, hp, hpp =>
        refine List.forall_mem_cons.mpr ⟨?_, List.forall_mem_cons.mpr ⟨?_, List.forall_mem_cons.mpr ⟨?_, fun _ h => nomatch h⟩⟩⟩
        · refine zden_L (n := 2) (ρ := [x1, 0]) rfl ?_
          show ∀ η1 : zE, η1 = zup η 0 (Int.toNat 2) 0 → ((gC2 wl_hs [(nat_lit 0, zPhs_isIn, zOhs_isIn, zMhs_isIn)] pChs_bestBit5 qChs_bestBit5) 0).1 [x1, 1, 12] η1
          intro η1 eη1
          exact trivial
        · refine zden_L (n := 2) (ρ := [x1, 0]) rfl ?_
          exact zhs_bestBit5_o0 (ro := ro) x1 η hp hpp
        · refine zden_L (n := 2) (ρ := [x1, 0]) rfl ?_
          exact zhs_bestBit5_o1 (ro := ro) x1 η hp hpp
      )
    (fun _ _ _ _ _ _ _ h => nomatch h)
    (List.forall_mem_cons.mpr ⟨⟨zDhs_bestBit5_0, zEhs_bestBit5_0, zFhs_bestBit5_0, 15, by decide +kernel, (by
      intro xs η0 hlx hp hpp ys η hr hl hI hig
      match ys, hl, hI, hig with
      | [x1, x2, x3, x4], _, hI, hig =>
        refine ⟨?_, ?_⟩
        · refine List.forall_mem_cons.mpr ⟨?_, List.forall_mem_cons.mpr ⟨?_, fun _ h => nomatch h⟩⟩
          · refine zden_L (n := 5) (ρ := [x4, x3, x2, x1, 0]) rfl ?_
            exact zhs_bestBit5_o2 (ro := ro) xs η0 hp hpp x1 x2 x3 x4 η hI hig
          · refine zden_L (n := 5) (ρ := [x4, x3, x2, x1, 0]) rfl ?_
            exact zhs_bestBit5_o3 (ro := ro) xs η0 hp hpp x1 x2 x3 x4 η hI hig
        · exact fun _ h => nomatch h
      )⟩, (List.forall_mem_cons.mpr ⟨⟨zDhs_bestBit5_1, zEhs_bestBit5_1, zFhs_bestBit5_1, 19, by decide +kernel, (by
      intro xs η0 hlx hp hpp ys η hr hl hI hig
      match ys, hl, hI, hig with
      | [x1, x2, x3, x4, x5, x6], _, hI, hig =>
        refine ⟨?_, ?_⟩
        · refine List.forall_mem_cons.mpr ⟨?_, List.forall_mem_cons.mpr ⟨?_, List.forall_mem_cons.mpr ⟨?_, fun _ h => nomatch h⟩⟩⟩
          · refine zden_L (n := 7) (ρ := [x6, x5, x4, x3, x2, x1, 0]) rfl ?_
            exact zhs_bestBit5_o4 (ro := ro) xs η0 hp hpp x1 x2 x3 x4 x5 x6 η hI hig
          · refine zden_L (n := 7) (ρ := [x6, x5, x4, x3, x2, x1, 0]) rfl ?_
            exact zhs_bestBit5_o5 (ro := ro) xs η0 hp hpp x1 x2 x3 x4 x5 x6 η hI hig
          · refine zden_L (n := 7) (ρ := [x6, x5, x4, x3, x2, x1, 0]) rfl ?_
            exact zhs_bestBit5_o6 (ro := ro) xs η0 hp hpp x1 x2 x3 x4 x5 x6 η hI hig
        · exact fun _ h => nomatch h
      )⟩, (fun _ h => nomatch h)⟩)⟩))
def zPhs_bestBit6 : zPq := ([((.ofNat (nat_lit 6)), (.ofNat (nat_lit 6)))], [])
def zOhs_bestBit6 : zPo := (((.negSucc (nat_lit 2147483647)), (.ofNat (nat_lit 2147483647))), [], [])
def zMhs_bestBit6 : List zCe := [(nat_lit 0, nat_lit 3)]
def pPhs_bestBit6 : List Int → zE → Prop := fun _ _ => True
def oQhs_bestBit6 : List Int → zE → Int → zE → Prop := fun _ _ _ _ => True
def fQhs_bestBit6 : List Int → zE → Int → zE → Prop := fun xs η y η' => y = (yw_bb (xs.getD 0 0) η) ∧ η' = (zup η 0 2 0)
def pQhs_bestBit6 : List Int → zE → Int → zE → Prop := fun xs η y η' => oQhs_bestBit6 xs η y η' ∧ fQhs_bestBit6 xs η y η'
def pChs_bestBit6 : Nat → List Int → zE → Prop := fun c => match c with
  | 0 => pPhs_isIn
  | _ => fun _ _ => True
def qChs_bestBit6 : Nat → List Int → zE → Int → zE → Prop := fun c => match c with
  | 0 => pQhs_isIn
  | _ => fun _ _ _ _ => True
def iChs_bestBit6 : List Int → zE → Nat → List Int → zE → Prop := fun xs η0 c => match c with
  | 0 => fun ys η => (True) ∧ (yw_bI η0 (xs.getD 0 0) (ys.getD 0 0) (ys.getD 1 0) (ys.getD 2 0) (ys.getD 3 0) η)
  | 1 => fun ys η => (True) ∧ (yw_bJ η0 (xs.getD 0 0) (ys.getD 0 0) (ys.getD 1 0) (ys.getD 2 0) (ys.getD 3 0) (ys.getD 4 0) (ys.getD 5 0) η)
  | _ => fun _ _ => True
def zVhs_bestBit6 : List zIv := [(nat_lit 0, ([((.ofNat (nat_lit 6)), (.ofNat (nat_lit 6))), ((.negSucc (nat_lit 2147483647)), (.ofNat (nat_lit 2147483647))), ((.negSucc (nat_lit 2147483647)), (.ofNat (nat_lit 2147483647))), ((.ofNat (nat_lit 0)), (.ofNat (nat_lit 7)))], []), ((.ofNat (nat_lit 2000)), [((.negSucc (nat_lit 99)), nat_lit 0, nat_lit 3, nat_lit 0)])), (nat_lit 1, ([((.ofNat (nat_lit 6)), (.ofNat (nat_lit 6))), ((.negSucc (nat_lit 2147483647)), (.ofNat (nat_lit 2147483647))), ((.negSucc (nat_lit 2147483647)), (.ofNat (nat_lit 2147483647))), ((.ofNat (nat_lit 0)), (.ofNat (nat_lit 6))), ((.negSucc (nat_lit 2147483647)), (.ofNat (nat_lit 2147483647))), ((.ofNat (nat_lit 0)), (.ofNat (nat_lit 6)))], []), ((.ofNat (nat_lit 1950)), [((.negSucc (nat_lit 99)), nat_lit 0, nat_lit 3, nat_lit 0), ((.negSucc (nat_lit 0)), nat_lit 0, nat_lit 5, nat_lit 0)]))]
def zUhs_bestBit6 : List zCu := [(nat_lit 25, nat_lit 0, [(nat_lit 0, (.inr (.inr (.inl (nat_lit 0))))), (nat_lit 1, (.inl (nat_lit 1, (.ofNat (nat_lit 0))))), (nat_lit 2, (.inl (nat_lit 2, (.ofNat (nat_lit 0))))), (nat_lit 3, (.inl (nat_lit 3, (.ofNat (nat_lit 0))))), (nat_lit 4, (.inl (nat_lit 4, (.ofNat (nat_lit 0)))))], []), (nat_lit 42, nat_lit 1, [(nat_lit 0, (.inr (.inr (.inl (nat_lit 0))))), (nat_lit 1, (.inl (nat_lit 1, (.ofNat (nat_lit 0))))), (nat_lit 2, (.inl (nat_lit 2, (.ofNat (nat_lit 0))))), (nat_lit 3, (.inl (nat_lit 3, (.ofNat (nat_lit 0))))), (nat_lit 4, (.inl (nat_lit 4, (.ofNat (nat_lit 0))))), (nat_lit 5, (.inl (nat_lit 5, (.ofNat (nat_lit 0))))), (nat_lit 6, (.inl (nat_lit 6, (.ofNat (nat_lit 0)))))], [])]
def zDhs_bestBit6 : List (List zK) := []
def zEhs_bestBit6 : List (List zK) := [[(nat_lit 13, nat_lit 0, [(nat_lit 1, (.ofNat (nat_lit 0))), (nat_lit 0, (.ofNat (nat_lit 1))), (nat_lit 0, (.ofNat (nat_lit 12)))]), (nat_lit 5, nat_lit 0, [(nat_lit 0, (.ofNat (nat_lit 0))), (nat_lit 0, (.ofNat (nat_lit 2))), (nat_lit 0, (.ofNat (nat_lit 0)))])],
  [(nat_lit 12, nat_lit 0, [(nat_lit 1, (.ofNat (nat_lit 0))), (nat_lit 0, (.negSucc (nat_lit 1))), (nat_lit 0, (.negSucc (nat_lit 0))), (nat_lit 0, (.ofNat (nat_lit 0)))]), (nat_lit 6, nat_lit 1, [(nat_lit 2, (.ofNat (nat_lit 0))), (nat_lit 0, (.ofNat (nat_lit 0)))]), (nat_lit 8, nat_lit 0, [(nat_lit 1, (.ofNat (nat_lit 0))), (nat_lit 0, (.ofNat (nat_lit 1))), (nat_lit 0, (.ofNat (nat_lit 12)))]), (nat_lit 5, nat_lit 0, [(nat_lit 0, (.ofNat (nat_lit 0))), (nat_lit 0, (.ofNat (nat_lit 2))), (nat_lit 0, (.ofNat (nat_lit 0)))])],
  [(nat_lit 11, nat_lit 0, [(nat_lit 0, (.negSucc (nat_lit 0)))]), (nat_lit 6, nat_lit 0, [(nat_lit 2, (.ofNat (nat_lit 0))), (nat_lit 0, (.ofNat (nat_lit 0)))]), (nat_lit 8, nat_lit 0, [(nat_lit 1, (.ofNat (nat_lit 0))), (nat_lit 0, (.ofNat (nat_lit 1))), (nat_lit 0, (.ofNat (nat_lit 12)))]), (nat_lit 5, nat_lit 0, [(nat_lit 0, (.ofNat (nat_lit 0))), (nat_lit 0, (.ofNat (nat_lit 2))), (nat_lit 0, (.ofNat (nat_lit 0)))])]]
def zFhs_bestBit6 : List (List zK) := []
def zDhs_bestBit6_0 : List (List zK) := []
def zEhs_bestBit6_0 : List (List zK) := [[(nat_lit 11, nat_lit 0, [(nat_lit 2, (.ofNat (nat_lit 0)))]), (nat_lit 6, nat_lit 4, [(nat_lit 5, (.ofNat (nat_lit 0))), (nat_lit 6, (.ofNat (nat_lit 0)))]), (nat_lit 4, nat_lit 0, [(nat_lit 0, (.ofNat (nat_lit 0))), (nat_lit 0, (.ofNat (nat_lit 12)))]), (nat_lit 0, nat_lit 1, [(nat_lit 4, (.ofNat (nat_lit 0))), (nat_lit 1, (.ofNat (nat_lit 0)))])],
  [(nat_lit 10, nat_lit 1, [(nat_lit 1, (.ofNat (nat_lit 0))), (nat_lit 2, (.ofNat (nat_lit 0))), (nat_lit 3, (.ofNat (nat_lit 0))), (nat_lit 4, (.ofNat (nat_lit 0))), (nat_lit 0, (.ofNat (nat_lit 0))), (nat_lit 0, (.ofNat (nat_lit 0)))]), (nat_lit 6, nat_lit 5, [(nat_lit 5, (.ofNat (nat_lit 0))), (nat_lit 6, (.ofNat (nat_lit 0)))]), (nat_lit 4, nat_lit 0, [(nat_lit 0, (.ofNat (nat_lit 0))), (nat_lit 0, (.ofNat (nat_lit 12)))]), (nat_lit 0, nat_lit 1, [(nat_lit 4, (.ofNat (nat_lit 0))), (nat_lit 1, (.ofNat (nat_lit 0)))])]]
def zFhs_bestBit6_0 : List (List zK) := []
def zDhs_bestBit6_1 : List (List zK) := [[(nat_lit 7, nat_lit 0, [(nat_lit 7, (.ofNat (nat_lit 0))), (nat_lit 0, (.ofNat (nat_lit 24)))]), (nat_lit 0, nat_lit 1, [(nat_lit 4, (.ofNat (nat_lit 0))), (nat_lit 6, (.ofNat (nat_lit 0)))]), (nat_lit 6, nat_lit 2, [(nat_lit 6, (.ofNat (nat_lit 0))), (nat_lit 1, (.ofNat (nat_lit 0)))])]]
def zEhs_bestBit6_1 : List (List zK) := [[(nat_lit 10, nat_lit 0, [(nat_lit 1, (.ofNat (nat_lit 0))), (nat_lit 4, (.ofNat (nat_lit 0))), (nat_lit 5, (.ofNat (nat_lit 0))), (nat_lit 7, (.ofNat (nat_lit 0)))]), (nat_lit 0, nat_lit 1, [(nat_lit 4, (.ofNat (nat_lit 0))), (nat_lit 0, (.ofNat (nat_lit 1)))]), (nat_lit 6, nat_lit 4, [(nat_lit 5, (.ofNat (nat_lit 0))), (nat_lit 3, (.ofNat (nat_lit 0)))]), (nat_lit 6, nat_lit 3, [(nat_lit 6, (.ofNat (nat_lit 0))), (nat_lit 1, (.ofNat (nat_lit 0)))])],
  [(nat_lit 10, nat_lit 0, [(nat_lit 1, (.ofNat (nat_lit 0))), (nat_lit 2, (.ofNat (nat_lit 0))), (nat_lit 3, (.ofNat (nat_lit 0))), (nat_lit 7, (.ofNat (nat_lit 0)))]), (nat_lit 0, nat_lit 1, [(nat_lit 4, (.ofNat (nat_lit 0))), (nat_lit 0, (.ofNat (nat_lit 1)))]), (nat_lit 6, nat_lit 5, [(nat_lit 5, (.ofNat (nat_lit 0))), (nat_lit 3, (.ofNat (nat_lit 0)))]), (nat_lit 6, nat_lit 3, [(nat_lit 6, (.ofNat (nat_lit 0))), (nat_lit 1, (.ofNat (nat_lit 0)))])],
  [(nat_lit 10, nat_lit 1, [(nat_lit 1, (.ofNat (nat_lit 0))), (nat_lit 2, (.ofNat (nat_lit 0))), (nat_lit 3, (.ofNat (nat_lit 0))), (nat_lit 4, (.ofNat (nat_lit 0))), (nat_lit 9, (.ofNat (nat_lit 0))), (nat_lit 10, (.ofNat (nat_lit 0)))]), (nat_lit 0, nat_lit 1, [(nat_lit 6, (.ofNat (nat_lit 0))), (nat_lit 0, (.ofNat (nat_lit 1)))]), (nat_lit 0, nat_lit 1, [(nat_lit 5, (.ofNat (nat_lit 0))), (nat_lit 8, (.ofNat (nat_lit 0)))]), (nat_lit 4, nat_lit 0, [(nat_lit 6, (.ofNat (nat_lit 0))), (nat_lit 7, (.ofNat (nat_lit 0)))]), (nat_lit 0, nat_lit 1, [(nat_lit 4, (.ofNat (nat_lit 0))), (nat_lit 6, (.ofNat (nat_lit 0)))]), (nat_lit 6, nat_lit 2, [(nat_lit 6, (.ofNat (nat_lit 0))), (nat_lit 1, (.ofNat (nat_lit 0)))])]]
def zFhs_bestBit6_1 : List (List zK) := []
set_option maxHeartbeats 8000000 in
theorem zhs_bestBit6_o0 {ro : Nat → List Int32} (x1 : Int) (η : zE) (hp : sP wl_hs zTr zPhs_bestBit6 [x1] η) (hpp : pPhs_bestBit6 [x1] η) : ∀ η1 : zE, η1 = zup η 0 (Int.toNat 2) 0 → ∀ (x2 : Int) (η2 : zE), ((gC2 wl_hs [(nat_lit 0, zPhs_isIn, zOhs_isIn, zMhs_isIn)] pChs_bestBit6 qChs_bestBit6) 0).2 [x1, 1, 12] η1 x2 η2 → (¬ x2 = 0) → (iChs_bestBit6 [x1] η) 0 [x1, (-2), (-1), 0] η2 := by
  intro η1 eη1 x2 η2 h2 c1
  have y2 : fQhs_isIn [x1, 1, 12] η1 x2 η2 := h2.2.2
  have k2 : sQ wl_hs zTr zOhs_isIn zMhs_isIn [x1, 1, 12] η1 x2 η2 ∧ oQhs_isIn [x1, 1, 12] η1 x2 η2 := ⟨h2.1, h2.2.1⟩
  refine yj_a ?_ ?_
  · have y2 : fQhs_isIn [x1, 1, 12] η1 x2 η2 := h2.2.2
    have k2 : sQ wl_hs zTr zOhs_isIn zMhs_isIn [x1, 1, 12] η1 x2 η2 ∧ oQhs_isIn [x1, 1, 12] η1 x2 η2 := ⟨h2.1, h2.2.1⟩
    exact trivial
  · have eη1 : η1 = zup η 0 2 0 := eη1
    obtain ⟨a2, b2⟩ : x2 = yq_in x1 1 12 ∧ η2 = η1 := y2
    show yw_bI η x1 x1 (-2) (-1) 0 η2
    exact wbI_0 (by rw [b2, eη1]) (by omega)
set_option maxHeartbeats 8000000 in
theorem zhs_bestBit6_o1 {ro : Nat → List Int32} (x1 : Int) (η : zE) (hp : sP wl_hs zTr zPhs_bestBit6 [x1] η) (hpp : pPhs_bestBit6 [x1] η) : ∀ η1 : zE, η1 = zup η 0 (Int.toNat 2) 0 → ∀ (x2 : Int) (η2 : zE), ((gC2 wl_hs [(nat_lit 0, zPhs_isIn, zOhs_isIn, zMhs_isIn)] pChs_bestBit6 qChs_bestBit6) 0).2 [x1, 1, 12] η1 x2 η2 → (x2 = 0) → (fun (_ : Nat) (y : Int) (η' : zE) => pQhs_bestBit6 [x1] η y η') 0 (-1) η2 := by
  intro η1 eη1 x2 η2 h2 c1
  have y2 : fQhs_isIn [x1, 1, 12] η1 x2 η2 := h2.2.2
  have k2 : sQ wl_hs zTr zOhs_isIn zMhs_isIn [x1, 1, 12] η1 x2 η2 ∧ oQhs_isIn [x1, 1, 12] η1 x2 η2 := ⟨h2.1, h2.2.1⟩
  refine yj_a ?_ ?_
  · have y2 : fQhs_isIn [x1, 1, 12] η1 x2 η2 := h2.2.2
    have k2 : sQ wl_hs zTr zOhs_isIn zMhs_isIn [x1, 1, 12] η1 x2 η2 ∧ oQhs_isIn [x1, 1, 12] η1 x2 η2 := ⟨h2.1, h2.2.1⟩
    exact trivial
  · have eη1 : η1 = zup η 0 2 0 := eη1
    obtain ⟨a2, b2⟩ : x2 = yq_in x1 1 12 ∧ η2 = η1 := y2
    show -1 = yw_bb x1 η ∧ η2 = zup η 0 2 0
    exact ⟨by unfold yw_bb; rw [if_pos (by omega)], (by rw [b2, eη1])⟩
set_option maxHeartbeats 8000000 in
theorem zhs_bestBit6_o2 {ro : Nat → List Int32} (xs : List Int) (η0 : zE) (hp : sP wl_hs zTr zPhs_bestBit6 xs η0) (hpp : pPhs_bestBit6 xs η0) (x1 x2 x3 x4 : Int) (η : zE) (hI : zsI wl_hs zTr zVhs_bestBit6 zMhs_bestBit6 η0 0 [x1, x2, x3, x4] η) (hig : iChs_bestBit6 xs η0 0 [x1, x2, x3, x4] η) : ∀ x5 : Int, x5 = zd 0 1 x4 x1 → ∀ x6 : Int, x6 = η 0 (Int.toNat 12) → zok 0 x6 → (x6 < x5) → (fun (_ : Nat) (y : Int) (η' : zE) => pQhs_bestBit6 xs η0 y η') 0 x2 η := by
  have fig := hig.2
  have hig := hig.1
  intro x5 e5 x6 e6 r6 c1
  refine yj_a ?_ ?_
  · exact trivial
  · have e5 : x5 = zd 0 1 x4 x1 := e5
    have e6 : x6 = η 0 12 := e6
    have b4 : (0 : Int) ≤ x4 ∧ x4 ≤ 7 := hI.1.2.1.2.2.2.1
    exact wbI_e (k := x1) (m := x3) (f := x4) fig (by omega) e5 (by rw [← e6]; omega)
set_option maxHeartbeats 8000000 in
theorem zhs_bestBit6_o3 {ro : Nat → List Int32} (xs : List Int) (η0 : zE) (hp : sP wl_hs zTr zPhs_bestBit6 xs η0) (hpp : pPhs_bestBit6 xs η0) (x1 x2 x3 x4 : Int) (η : zE) (hI : zsI wl_hs zTr zVhs_bestBit6 zMhs_bestBit6 η0 0 [x1, x2, x3, x4] η) (hig : iChs_bestBit6 xs η0 0 [x1, x2, x3, x4] η) : ∀ x5 : Int, x5 = zd 0 1 x4 x1 → ∀ x6 : Int, x6 = η 0 (Int.toNat 12) → zok 0 x6 → (x5 ≤ x6) → (iChs_bestBit6 xs η0) 1 [x1, x2, x3, x4, 0, 0] η ∧ (fun (_ : Nat) (_ : List Int) (_ : zE) => (0 : Nat)) 1 [x1, x2, x3, x4, 0, 0] η < 1 := by
  have fig := hig.2
  have hig := hig.1
  intro x5 e5 x6 e6 r6 c1
  refine yj_c ?_ ?_
  · exact ⟨trivial, Nat.zero_lt_one⟩
  · have e5 : x5 = zd 0 1 x4 x1 := e5
    have e6 : x6 = η 0 12 := e6
    have b4 : (0 : Int) ≤ x4 ∧ x4 ≤ 7 := hI.1.2.1.2.2.2.1
    show yw_bJ η0 (xs.getD 0 0) x1 x2 x3 x4 0 0 η
    exact wbJ_0 fig (by omega) e5 (by rw [← e6]; omega)
set_option maxHeartbeats 8000000 in
theorem zhs_bestBit6_o4 {ro : Nat → List Int32} (xs : List Int) (η0 : zE) (hp : sP wl_hs zTr zPhs_bestBit6 xs η0) (hpp : pPhs_bestBit6 xs η0) (x1 x2 x3 x4 x5 x6 : Int) (η : zE) (hI : zsI wl_hs zTr zVhs_bestBit6 zMhs_bestBit6 η0 1 [x1, x2, x3, x4, x5, x6] η) (hig : iChs_bestBit6 xs η0 1 [x1, x2, x3, x4, x5, x6] η) : (x1 ≤ x6) → (x3 < x5) → ∀ x7 : Int, x7 = zd 0 1 x4 1 → (iChs_bestBit6 xs η0) 0 [x1, x4, x5, x7] η ∧ (fun (_ : Nat) (_ : List Int) (_ : zE) => (0 : Nat)) 0 [x1, x4, x5, x7] η < 1 := by
  have fig := hig.2
  have hig := hig.1
  intro c1 c2 x7 e7
  refine yj_c ?_ ?_
  · exact ⟨trivial, Nat.zero_lt_one⟩
  · have e7 : x7 = zd 0 1 x4 1 := e7
    have b4 : (0 : Int) ≤ x4 ∧ x4 ≤ 6 := hI.1.2.1.2.2.2.1
    show yw_bI η0 (xs.getD 0 0) x1 x4 x5 x7 η
    refine wbJ_e (b := x2) (m := x3) (k := x1) (f := x4) (i := x6) (s := x5) fig (by omega) (by omega) e7 ?_
    rw [if_pos (by omega)]
set_option maxHeartbeats 8000000 in
theorem zhs_bestBit6_o5 {ro : Nat → List Int32} (xs : List Int) (η0 : zE) (hp : sP wl_hs zTr zPhs_bestBit6 xs η0) (hpp : pPhs_bestBit6 xs η0) (x1 x2 x3 x4 x5 x6 : Int) (η : zE) (hI : zsI wl_hs zTr zVhs_bestBit6 zMhs_bestBit6 η0 1 [x1, x2, x3, x4, x5, x6] η) (hig : iChs_bestBit6 xs η0 1 [x1, x2, x3, x4, x5, x6] η) : (x1 ≤ x6) → (x5 ≤ x3) → ∀ x7 : Int, x7 = zd 0 1 x4 1 → (iChs_bestBit6 xs η0) 0 [x1, x2, x3, x7] η ∧ (fun (_ : Nat) (_ : List Int) (_ : zE) => (0 : Nat)) 0 [x1, x2, x3, x7] η < 1 := by
  have fig := hig.2
  have hig := hig.1
  intro c1 c2 x7 e7
  refine yj_c ?_ ?_
  · exact ⟨trivial, Nat.zero_lt_one⟩
  · have e7 : x7 = zd 0 1 x4 1 := e7
    have b4 : (0 : Int) ≤ x4 ∧ x4 ≤ 6 := hI.1.2.1.2.2.2.1
    show yw_bI η0 (xs.getD 0 0) x1 x2 x3 x7 η
    refine wbJ_e (b := x2) (m := x3) (k := x1) (f := x4) (i := x6) (s := x5) fig (by omega) (by omega) e7 ?_
    rw [if_neg (by omega)]
set_option maxHeartbeats 8000000 in
theorem zhs_bestBit6_o6 {ro : Nat → List Int32} (xs : List Int) (η0 : zE) (hp : sP wl_hs zTr zPhs_bestBit6 xs η0) (hpp : pPhs_bestBit6 xs η0) (x1 x2 x3 x4 x5 x6 : Int) (η : zE) (hI : zsI wl_hs zTr zVhs_bestBit6 zMhs_bestBit6 η0 1 [x1, x2, x3, x4, x5, x6] η) (hig : iChs_bestBit6 xs η0 1 [x1, x2, x3, x4, x5, x6] η) : (x6 < x1) → ∀ x7 : Int, x7 = zd 0 1 x4 x6 → ∀ x8 : Int, x8 = η 6 (Int.toNat x7) → zok 0 x8 → ∀ x9 : Int, x9 = zd 0 1 x5 x8 → ∀ x10 : Int, x10 = zd 0 1 x6 1 → (iChs_bestBit6 xs η0) 1 [x1, x2, x3, x4, x9, x10] η ∧ (fun (_ : Nat) (_ : List Int) (_ : zE) => (0 : Nat)) 1 [x1, x2, x3, x4, x9, x10] η < 1 := by
  have fig := hig.2
  have hig := hig.1
  intro c1 x7 e7 x8 e8 r8 x9 e9 x10 e10
  refine yj_c ?_ ?_
  · exact ⟨trivial, Nat.zero_lt_one⟩
  · have e7 : x7 = zd 0 1 x4 x6 := e7
    have e8 : x8 = η 6 (Int.toNat x7) := e8
    have e9 : x9 = zd 0 1 x5 x8 := e9
    have e10 : x10 = zd 0 1 x6 1 := e10
    have b4 : (0 : Int) ≤ x4 ∧ x4 ≤ 6 := hI.1.2.1.2.2.2.1
    show yw_bJ η0 (xs.getD 0 0) x1 x2 x3 x4 x9 x10 η
    exact wbJ_s (k := x1) (f := x4) (i := x6) fig (by omega) (by omega) e7 e8 e9 e10
set_option maxHeartbeats 8000000 in
theorem zhs_bestBit6 {ro : Nat → List Int32} : zMet pr_P pr_K pr_df ro (sm_X0 1 6) 1 200 tm_hs [(.inr (.inr (.inl (nat_lit 0)))), (.inl (nat_lit 1, (.ofNat (nat_lit 0))))] 1 [(nat_lit 0, nat_lit 0, nat_lit 1), (nat_lit 0, nat_lit 3, nat_lit 2), (nat_lit 0, nat_lit 20, nat_lit 3), (nat_lit 0, nat_lit 21, nat_lit 4), (nat_lit 0, nat_lit 22, nat_lit 5), (nat_lit 0, nat_lit 23, nat_lit 6), (nat_lit 0, nat_lit 24, nat_lit 7), (nat_lit 0, nat_lit 25, nat_lit 8), (nat_lit 0, nat_lit 26, nat_lit 9), (nat_lit 0, nat_lit 27, nat_lit 10), (nat_lit 0, nat_lit 28, nat_lit 11), (nat_lit 0, nat_lit 29, nat_lit 12), (nat_lit 0, nat_lit 30, nat_lit 13), (nat_lit 0, nat_lit 31, nat_lit 14), (nat_lit 0, nat_lit 32, nat_lit 15), (nat_lit 0, nat_lit 33, nat_lit 16), (nat_lit 0, nat_lit 34, nat_lit 17), (nat_lit 0, nat_lit 35, nat_lit 18), (nat_lit 0, nat_lit 36, nat_lit 19), (nat_lit 0, nat_lit 37, nat_lit 20), (nat_lit 0, nat_lit 38, nat_lit 21), (nat_lit 0, nat_lit 39, nat_lit 22), (nat_lit 0, nat_lit 40, nat_lit 23), (nat_lit 0, nat_lit 47, nat_lit 24), (nat_lit 0, nat_lit 48, nat_lit 25), (nat_lit 0, nat_lit 50, nat_lit 26), (nat_lit 0, nat_lit 51, nat_lit 27), (nat_lit 0, nat_lit 52, nat_lit 28), (nat_lit 0, nat_lit 53, nat_lit 29), (nat_lit 0, nat_lit 54, nat_lit 30), (nat_lit 0, nat_lit 55, nat_lit 31), (nat_lit 0, nat_lit 56, nat_lit 32), (nat_lit 0, nat_lit 57, nat_lit 33), (nat_lit 0, nat_lit 58, nat_lit 34), (nat_lit 0, nat_lit 59, nat_lit 35), (nat_lit 0, nat_lit 72, nat_lit 36), (nat_lit 0, nat_lit 73, nat_lit 37), (nat_lit 0, nat_lit 76, nat_lit 38), (nat_lit 0, nat_lit 77, nat_lit 39), (nat_lit 0, nat_lit 79, nat_lit 40), (nat_lit 0, nat_lit 81, nat_lit 41), (nat_lit 0, nat_lit 82, nat_lit 42)] [] (fun xs η => sP wl_hs zTr zPhs_bestBit6 xs η ∧ pPhs_bestBit6 xs η) (fun xs η y η' => sQ wl_hs zTr zOhs_bestBit6 zMhs_bestBit6 xs η y η' ∧ pQhs_bestBit6 xs η y η') :=
  zmet_alt (zmea_gen (mi := (nat_lit 1, nat_lit 1, nat_lit 8, nat_lit 7, nat_lit 1, tX8_bestBit)) (cd := [(nat_lit 117, nat_lit 0, nat_lit 0, [(.inl (nat_lit 1, (.ofNat (nat_lit 0)))), (.inl (nat_lit 2, (.ofNat (nat_lit 0)))), (.inl (nat_lit 3, (.ofNat (nat_lit 0))))], nat_lit 2, [], [])]) (cu := zUhs_bestBit6) (cs := [(nat_lit 0, zPhs_isIn, zOhs_isIn, zMhs_isIn)]) (iv := zVhs_bestBit6) (po := [zOhs_bestBit6]) (pr := zPhs_bestBit6) (mods := zMhs_bestBit6) (D7 := zDhs_bestBit6) (D0 := zEhs_bestBit6) (Dm := zFhs_bestBit6) (f0 := 19) pChs_bestBit6 qChs_bestBit6 iChs_bestBit6 pPhs_bestBit6 (fun xs η _ y η' => pQhs_bestBit6 xs η y η') zX_low pr_mtR rfl (List.forall_mem_cons.mpr ⟨zhs_isIn, fun _ h => nomatch h⟩) (by decide +kernel) (by decide +kernel) (by decide +kernel)
    (by
      intro xs η hr hl hp hpp
      match xs, hl, hp, hpp with
      | [x1], _, hp, hpp =>
        refine List.forall_mem_cons.mpr ⟨?_, List.forall_mem_cons.mpr ⟨?_, List.forall_mem_cons.mpr ⟨?_, fun _ h => nomatch h⟩⟩⟩
        · refine zden_L (n := 2) (ρ := [x1, 0]) rfl ?_
          show ∀ η1 : zE, η1 = zup η 0 (Int.toNat 2) 0 → ((gC2 wl_hs [(nat_lit 0, zPhs_isIn, zOhs_isIn, zMhs_isIn)] pChs_bestBit6 qChs_bestBit6) 0).1 [x1, 1, 12] η1
          intro η1 eη1
          exact trivial
        · refine zden_L (n := 2) (ρ := [x1, 0]) rfl ?_
          exact zhs_bestBit6_o0 (ro := ro) x1 η hp hpp
        · refine zden_L (n := 2) (ρ := [x1, 0]) rfl ?_
          exact zhs_bestBit6_o1 (ro := ro) x1 η hp hpp
      )
    (fun _ _ _ _ _ _ _ h => nomatch h)
    (List.forall_mem_cons.mpr ⟨⟨zDhs_bestBit6_0, zEhs_bestBit6_0, zFhs_bestBit6_0, 15, by decide +kernel, (by
      intro xs η0 hlx hp hpp ys η hr hl hI hig
      match ys, hl, hI, hig with
      | [x1, x2, x3, x4], _, hI, hig =>
        refine ⟨?_, ?_⟩
        · refine List.forall_mem_cons.mpr ⟨?_, List.forall_mem_cons.mpr ⟨?_, fun _ h => nomatch h⟩⟩
          · refine zden_L (n := 5) (ρ := [x4, x3, x2, x1, 0]) rfl ?_
            exact zhs_bestBit6_o2 (ro := ro) xs η0 hp hpp x1 x2 x3 x4 η hI hig
          · refine zden_L (n := 5) (ρ := [x4, x3, x2, x1, 0]) rfl ?_
            exact zhs_bestBit6_o3 (ro := ro) xs η0 hp hpp x1 x2 x3 x4 η hI hig
        · exact fun _ h => nomatch h
      )⟩, (List.forall_mem_cons.mpr ⟨⟨zDhs_bestBit6_1, zEhs_bestBit6_1, zFhs_bestBit6_1, 19, by decide +kernel, (by
      intro xs η0 hlx hp hpp ys η hr hl hI hig
      match ys, hl, hI, hig with
      | [x1, x2, x3, x4, x5, x6], _, hI, hig =>
        refine ⟨?_, ?_⟩
        · refine List.forall_mem_cons.mpr ⟨?_, List.forall_mem_cons.mpr ⟨?_, List.forall_mem_cons.mpr ⟨?_, fun _ h => nomatch h⟩⟩⟩
          · refine zden_L (n := 7) (ρ := [x6, x5, x4, x3, x2, x1, 0]) rfl ?_
            exact zhs_bestBit6_o4 (ro := ro) xs η0 hp hpp x1 x2 x3 x4 x5 x6 η hI hig
          · refine zden_L (n := 7) (ρ := [x6, x5, x4, x3, x2, x1, 0]) rfl ?_
            exact zhs_bestBit6_o5 (ro := ro) xs η0 hp hpp x1 x2 x3 x4 x5 x6 η hI hig
          · refine zden_L (n := 7) (ρ := [x6, x5, x4, x3, x2, x1, 0]) rfl ?_
            exact zhs_bestBit6_o6 (ro := ro) xs η0 hp hpp x1 x2 x3 x4 x5 x6 η hI hig
        · exact fun _ h => nomatch h
      )⟩, (fun _ h => nomatch h)⟩)⟩))
def zPhs_bestBit7 : zPq := ([((.ofNat (nat_lit 7)), (.ofNat (nat_lit 7)))], [])
def zOhs_bestBit7 : zPo := (((.negSucc (nat_lit 2147483647)), (.ofNat (nat_lit 2147483647))), [], [])
def zMhs_bestBit7 : List zCe := [(nat_lit 0, nat_lit 3)]
def pPhs_bestBit7 : List Int → zE → Prop := fun _ _ => True
def oQhs_bestBit7 : List Int → zE → Int → zE → Prop := fun _ _ _ _ => True
def fQhs_bestBit7 : List Int → zE → Int → zE → Prop := fun xs η y η' => y = (yw_bb (xs.getD 0 0) η) ∧ η' = (zup η 0 2 0)
def pQhs_bestBit7 : List Int → zE → Int → zE → Prop := fun xs η y η' => oQhs_bestBit7 xs η y η' ∧ fQhs_bestBit7 xs η y η'
def pChs_bestBit7 : Nat → List Int → zE → Prop := fun c => match c with
  | 0 => pPhs_isIn
  | _ => fun _ _ => True
def qChs_bestBit7 : Nat → List Int → zE → Int → zE → Prop := fun c => match c with
  | 0 => pQhs_isIn
  | _ => fun _ _ _ _ => True
def iChs_bestBit7 : List Int → zE → Nat → List Int → zE → Prop := fun xs η0 c => match c with
  | 0 => fun ys η => (True) ∧ (yw_bI η0 (xs.getD 0 0) (ys.getD 0 0) (ys.getD 1 0) (ys.getD 2 0) (ys.getD 3 0) η)
  | 1 => fun ys η => (True) ∧ (yw_bJ η0 (xs.getD 0 0) (ys.getD 0 0) (ys.getD 1 0) (ys.getD 2 0) (ys.getD 3 0) (ys.getD 4 0) (ys.getD 5 0) η)
  | _ => fun _ _ => True
def zVhs_bestBit7 : List zIv := [(nat_lit 0, ([((.ofNat (nat_lit 7)), (.ofNat (nat_lit 7))), ((.negSucc (nat_lit 2147483647)), (.ofNat (nat_lit 2147483647))), ((.negSucc (nat_lit 2147483647)), (.ofNat (nat_lit 2147483647))), ((.ofNat (nat_lit 0)), (.ofNat (nat_lit 6)))], []), ((.ofNat (nat_lit 2000)), [((.negSucc (nat_lit 99)), nat_lit 0, nat_lit 3, nat_lit 0)])), (nat_lit 1, ([((.ofNat (nat_lit 7)), (.ofNat (nat_lit 7))), ((.negSucc (nat_lit 2147483647)), (.ofNat (nat_lit 2147483647))), ((.negSucc (nat_lit 2147483647)), (.ofNat (nat_lit 2147483647))), ((.ofNat (nat_lit 0)), (.ofNat (nat_lit 5))), ((.negSucc (nat_lit 2147483647)), (.ofNat (nat_lit 2147483647))), ((.ofNat (nat_lit 0)), (.ofNat (nat_lit 7)))], []), ((.ofNat (nat_lit 1950)), [((.negSucc (nat_lit 99)), nat_lit 0, nat_lit 3, nat_lit 0), ((.negSucc (nat_lit 0)), nat_lit 0, nat_lit 5, nat_lit 0)]))]
def zUhs_bestBit7 : List zCu := [(nat_lit 25, nat_lit 0, [(nat_lit 0, (.inr (.inr (.inl (nat_lit 0))))), (nat_lit 1, (.inl (nat_lit 1, (.ofNat (nat_lit 0))))), (nat_lit 2, (.inl (nat_lit 2, (.ofNat (nat_lit 0))))), (nat_lit 3, (.inl (nat_lit 3, (.ofNat (nat_lit 0))))), (nat_lit 4, (.inl (nat_lit 4, (.ofNat (nat_lit 0)))))], []), (nat_lit 42, nat_lit 1, [(nat_lit 0, (.inr (.inr (.inl (nat_lit 0))))), (nat_lit 1, (.inl (nat_lit 1, (.ofNat (nat_lit 0))))), (nat_lit 2, (.inl (nat_lit 2, (.ofNat (nat_lit 0))))), (nat_lit 3, (.inl (nat_lit 3, (.ofNat (nat_lit 0))))), (nat_lit 4, (.inl (nat_lit 4, (.ofNat (nat_lit 0))))), (nat_lit 5, (.inl (nat_lit 5, (.ofNat (nat_lit 0))))), (nat_lit 6, (.inl (nat_lit 6, (.ofNat (nat_lit 0)))))], [])]
def zDhs_bestBit7 : List (List zK) := []
def zEhs_bestBit7 : List (List zK) := [[(nat_lit 13, nat_lit 0, [(nat_lit 1, (.ofNat (nat_lit 0))), (nat_lit 0, (.ofNat (nat_lit 1))), (nat_lit 0, (.ofNat (nat_lit 12)))]), (nat_lit 5, nat_lit 0, [(nat_lit 0, (.ofNat (nat_lit 0))), (nat_lit 0, (.ofNat (nat_lit 2))), (nat_lit 0, (.ofNat (nat_lit 0)))])],
  [(nat_lit 12, nat_lit 0, [(nat_lit 1, (.ofNat (nat_lit 0))), (nat_lit 0, (.negSucc (nat_lit 1))), (nat_lit 0, (.negSucc (nat_lit 0))), (nat_lit 0, (.ofNat (nat_lit 0)))]), (nat_lit 6, nat_lit 1, [(nat_lit 2, (.ofNat (nat_lit 0))), (nat_lit 0, (.ofNat (nat_lit 0)))]), (nat_lit 8, nat_lit 0, [(nat_lit 1, (.ofNat (nat_lit 0))), (nat_lit 0, (.ofNat (nat_lit 1))), (nat_lit 0, (.ofNat (nat_lit 12)))]), (nat_lit 5, nat_lit 0, [(nat_lit 0, (.ofNat (nat_lit 0))), (nat_lit 0, (.ofNat (nat_lit 2))), (nat_lit 0, (.ofNat (nat_lit 0)))])],
  [(nat_lit 11, nat_lit 0, [(nat_lit 0, (.negSucc (nat_lit 0)))]), (nat_lit 6, nat_lit 0, [(nat_lit 2, (.ofNat (nat_lit 0))), (nat_lit 0, (.ofNat (nat_lit 0)))]), (nat_lit 8, nat_lit 0, [(nat_lit 1, (.ofNat (nat_lit 0))), (nat_lit 0, (.ofNat (nat_lit 1))), (nat_lit 0, (.ofNat (nat_lit 12)))]), (nat_lit 5, nat_lit 0, [(nat_lit 0, (.ofNat (nat_lit 0))), (nat_lit 0, (.ofNat (nat_lit 2))), (nat_lit 0, (.ofNat (nat_lit 0)))])]]
def zFhs_bestBit7 : List (List zK) := []
def zDhs_bestBit7_0 : List (List zK) := []
def zEhs_bestBit7_0 : List (List zK) := [[(nat_lit 11, nat_lit 0, [(nat_lit 2, (.ofNat (nat_lit 0)))]), (nat_lit 6, nat_lit 4, [(nat_lit 5, (.ofNat (nat_lit 0))), (nat_lit 6, (.ofNat (nat_lit 0)))]), (nat_lit 4, nat_lit 0, [(nat_lit 0, (.ofNat (nat_lit 0))), (nat_lit 0, (.ofNat (nat_lit 12)))]), (nat_lit 0, nat_lit 1, [(nat_lit 4, (.ofNat (nat_lit 0))), (nat_lit 1, (.ofNat (nat_lit 0)))])],
  [(nat_lit 10, nat_lit 1, [(nat_lit 1, (.ofNat (nat_lit 0))), (nat_lit 2, (.ofNat (nat_lit 0))), (nat_lit 3, (.ofNat (nat_lit 0))), (nat_lit 4, (.ofNat (nat_lit 0))), (nat_lit 0, (.ofNat (nat_lit 0))), (nat_lit 0, (.ofNat (nat_lit 0)))]), (nat_lit 6, nat_lit 5, [(nat_lit 5, (.ofNat (nat_lit 0))), (nat_lit 6, (.ofNat (nat_lit 0)))]), (nat_lit 4, nat_lit 0, [(nat_lit 0, (.ofNat (nat_lit 0))), (nat_lit 0, (.ofNat (nat_lit 12)))]), (nat_lit 0, nat_lit 1, [(nat_lit 4, (.ofNat (nat_lit 0))), (nat_lit 1, (.ofNat (nat_lit 0)))])]]
def zFhs_bestBit7_0 : List (List zK) := []
def zDhs_bestBit7_1 : List (List zK) := [[(nat_lit 7, nat_lit 0, [(nat_lit 7, (.ofNat (nat_lit 0))), (nat_lit 0, (.ofNat (nat_lit 24)))]), (nat_lit 0, nat_lit 1, [(nat_lit 4, (.ofNat (nat_lit 0))), (nat_lit 6, (.ofNat (nat_lit 0)))]), (nat_lit 6, nat_lit 2, [(nat_lit 6, (.ofNat (nat_lit 0))), (nat_lit 1, (.ofNat (nat_lit 0)))])]]
def zEhs_bestBit7_1 : List (List zK) := [[(nat_lit 10, nat_lit 0, [(nat_lit 1, (.ofNat (nat_lit 0))), (nat_lit 4, (.ofNat (nat_lit 0))), (nat_lit 5, (.ofNat (nat_lit 0))), (nat_lit 7, (.ofNat (nat_lit 0)))]), (nat_lit 0, nat_lit 1, [(nat_lit 4, (.ofNat (nat_lit 0))), (nat_lit 0, (.ofNat (nat_lit 1)))]), (nat_lit 6, nat_lit 4, [(nat_lit 5, (.ofNat (nat_lit 0))), (nat_lit 3, (.ofNat (nat_lit 0)))]), (nat_lit 6, nat_lit 3, [(nat_lit 6, (.ofNat (nat_lit 0))), (nat_lit 1, (.ofNat (nat_lit 0)))])],
  [(nat_lit 10, nat_lit 0, [(nat_lit 1, (.ofNat (nat_lit 0))), (nat_lit 2, (.ofNat (nat_lit 0))), (nat_lit 3, (.ofNat (nat_lit 0))), (nat_lit 7, (.ofNat (nat_lit 0)))]), (nat_lit 0, nat_lit 1, [(nat_lit 4, (.ofNat (nat_lit 0))), (nat_lit 0, (.ofNat (nat_lit 1)))]), (nat_lit 6, nat_lit 5, [(nat_lit 5, (.ofNat (nat_lit 0))), (nat_lit 3, (.ofNat (nat_lit 0)))]), (nat_lit 6, nat_lit 3, [(nat_lit 6, (.ofNat (nat_lit 0))), (nat_lit 1, (.ofNat (nat_lit 0)))])],
  [(nat_lit 10, nat_lit 1, [(nat_lit 1, (.ofNat (nat_lit 0))), (nat_lit 2, (.ofNat (nat_lit 0))), (nat_lit 3, (.ofNat (nat_lit 0))), (nat_lit 4, (.ofNat (nat_lit 0))), (nat_lit 9, (.ofNat (nat_lit 0))), (nat_lit 10, (.ofNat (nat_lit 0)))]), (nat_lit 0, nat_lit 1, [(nat_lit 6, (.ofNat (nat_lit 0))), (nat_lit 0, (.ofNat (nat_lit 1)))]), (nat_lit 0, nat_lit 1, [(nat_lit 5, (.ofNat (nat_lit 0))), (nat_lit 8, (.ofNat (nat_lit 0)))]), (nat_lit 4, nat_lit 0, [(nat_lit 6, (.ofNat (nat_lit 0))), (nat_lit 7, (.ofNat (nat_lit 0)))]), (nat_lit 0, nat_lit 1, [(nat_lit 4, (.ofNat (nat_lit 0))), (nat_lit 6, (.ofNat (nat_lit 0)))]), (nat_lit 6, nat_lit 2, [(nat_lit 6, (.ofNat (nat_lit 0))), (nat_lit 1, (.ofNat (nat_lit 0)))])]]
def zFhs_bestBit7_1 : List (List zK) := []
set_option maxHeartbeats 8000000 in
theorem zhs_bestBit7_o0 {ro : Nat → List Int32} (x1 : Int) (η : zE) (hp : sP wl_hs zTr zPhs_bestBit7 [x1] η) (hpp : pPhs_bestBit7 [x1] η) : ∀ η1 : zE, η1 = zup η 0 (Int.toNat 2) 0 → ∀ (x2 : Int) (η2 : zE), ((gC2 wl_hs [(nat_lit 0, zPhs_isIn, zOhs_isIn, zMhs_isIn)] pChs_bestBit7 qChs_bestBit7) 0).2 [x1, 1, 12] η1 x2 η2 → (¬ x2 = 0) → (iChs_bestBit7 [x1] η) 0 [x1, (-2), (-1), 0] η2 := by
  intro η1 eη1 x2 η2 h2 c1
  have y2 : fQhs_isIn [x1, 1, 12] η1 x2 η2 := h2.2.2
  have k2 : sQ wl_hs zTr zOhs_isIn zMhs_isIn [x1, 1, 12] η1 x2 η2 ∧ oQhs_isIn [x1, 1, 12] η1 x2 η2 := ⟨h2.1, h2.2.1⟩
  refine yj_a ?_ ?_
  · have y2 : fQhs_isIn [x1, 1, 12] η1 x2 η2 := h2.2.2
    have k2 : sQ wl_hs zTr zOhs_isIn zMhs_isIn [x1, 1, 12] η1 x2 η2 ∧ oQhs_isIn [x1, 1, 12] η1 x2 η2 := ⟨h2.1, h2.2.1⟩
    exact trivial
  · have eη1 : η1 = zup η 0 2 0 := eη1
    obtain ⟨a2, b2⟩ : x2 = yq_in x1 1 12 ∧ η2 = η1 := y2
    show yw_bI η x1 x1 (-2) (-1) 0 η2
    exact wbI_0 (by rw [b2, eη1]) (by omega)
set_option maxHeartbeats 8000000 in
theorem zhs_bestBit7_o1 {ro : Nat → List Int32} (x1 : Int) (η : zE) (hp : sP wl_hs zTr zPhs_bestBit7 [x1] η) (hpp : pPhs_bestBit7 [x1] η) : ∀ η1 : zE, η1 = zup η 0 (Int.toNat 2) 0 → ∀ (x2 : Int) (η2 : zE), ((gC2 wl_hs [(nat_lit 0, zPhs_isIn, zOhs_isIn, zMhs_isIn)] pChs_bestBit7 qChs_bestBit7) 0).2 [x1, 1, 12] η1 x2 η2 → (x2 = 0) → (fun (_ : Nat) (y : Int) (η' : zE) => pQhs_bestBit7 [x1] η y η') 0 (-1) η2 := by
  intro η1 eη1 x2 η2 h2 c1
  have y2 : fQhs_isIn [x1, 1, 12] η1 x2 η2 := h2.2.2
  have k2 : sQ wl_hs zTr zOhs_isIn zMhs_isIn [x1, 1, 12] η1 x2 η2 ∧ oQhs_isIn [x1, 1, 12] η1 x2 η2 := ⟨h2.1, h2.2.1⟩
  refine yj_a ?_ ?_
  · have y2 : fQhs_isIn [x1, 1, 12] η1 x2 η2 := h2.2.2
    have k2 : sQ wl_hs zTr zOhs_isIn zMhs_isIn [x1, 1, 12] η1 x2 η2 ∧ oQhs_isIn [x1, 1, 12] η1 x2 η2 := ⟨h2.1, h2.2.1⟩
    exact trivial
  · have eη1 : η1 = zup η 0 2 0 := eη1
    obtain ⟨a2, b2⟩ : x2 = yq_in x1 1 12 ∧ η2 = η1 := y2
    show -1 = yw_bb x1 η ∧ η2 = zup η 0 2 0
    exact ⟨by unfold yw_bb; rw [if_pos (by omega)], (by rw [b2, eη1])⟩
set_option maxHeartbeats 8000000 in
theorem zhs_bestBit7_o2 {ro : Nat → List Int32} (xs : List Int) (η0 : zE) (hp : sP wl_hs zTr zPhs_bestBit7 xs η0) (hpp : pPhs_bestBit7 xs η0) (x1 x2 x3 x4 : Int) (η : zE) (hI : zsI wl_hs zTr zVhs_bestBit7 zMhs_bestBit7 η0 0 [x1, x2, x3, x4] η) (hig : iChs_bestBit7 xs η0 0 [x1, x2, x3, x4] η) : ∀ x5 : Int, x5 = zd 0 1 x4 x1 → ∀ x6 : Int, x6 = η 0 (Int.toNat 12) → zok 0 x6 → (x6 < x5) → (fun (_ : Nat) (y : Int) (η' : zE) => pQhs_bestBit7 xs η0 y η') 0 x2 η := by
  have fig := hig.2
  have hig := hig.1
  intro x5 e5 x6 e6 r6 c1
  refine yj_a ?_ ?_
  · exact trivial
  · have e5 : x5 = zd 0 1 x4 x1 := e5
    have e6 : x6 = η 0 12 := e6
    have b4 : (0 : Int) ≤ x4 ∧ x4 ≤ 6 := hI.1.2.1.2.2.2.1
    exact wbI_e (k := x1) (m := x3) (f := x4) fig (by omega) e5 (by rw [← e6]; omega)
set_option maxHeartbeats 8000000 in
theorem zhs_bestBit7_o3 {ro : Nat → List Int32} (xs : List Int) (η0 : zE) (hp : sP wl_hs zTr zPhs_bestBit7 xs η0) (hpp : pPhs_bestBit7 xs η0) (x1 x2 x3 x4 : Int) (η : zE) (hI : zsI wl_hs zTr zVhs_bestBit7 zMhs_bestBit7 η0 0 [x1, x2, x3, x4] η) (hig : iChs_bestBit7 xs η0 0 [x1, x2, x3, x4] η) : ∀ x5 : Int, x5 = zd 0 1 x4 x1 → ∀ x6 : Int, x6 = η 0 (Int.toNat 12) → zok 0 x6 → (x5 ≤ x6) → (iChs_bestBit7 xs η0) 1 [x1, x2, x3, x4, 0, 0] η ∧ (fun (_ : Nat) (_ : List Int) (_ : zE) => (0 : Nat)) 1 [x1, x2, x3, x4, 0, 0] η < 1 := by
  have fig := hig.2
  have hig := hig.1
  intro x5 e5 x6 e6 r6 c1
  refine yj_c ?_ ?_
  · exact ⟨trivial, Nat.zero_lt_one⟩
  · have e5 : x5 = zd 0 1 x4 x1 := e5
    have e6 : x6 = η 0 12 := e6
    have b4 : (0 : Int) ≤ x4 ∧ x4 ≤ 6 := hI.1.2.1.2.2.2.1
    show yw_bJ η0 (xs.getD 0 0) x1 x2 x3 x4 0 0 η
    exact wbJ_0 fig (by omega) e5 (by rw [← e6]; omega)
set_option maxHeartbeats 8000000 in
theorem zhs_bestBit7_o4 {ro : Nat → List Int32} (xs : List Int) (η0 : zE) (hp : sP wl_hs zTr zPhs_bestBit7 xs η0) (hpp : pPhs_bestBit7 xs η0) (x1 x2 x3 x4 x5 x6 : Int) (η : zE) (hI : zsI wl_hs zTr zVhs_bestBit7 zMhs_bestBit7 η0 1 [x1, x2, x3, x4, x5, x6] η) (hig : iChs_bestBit7 xs η0 1 [x1, x2, x3, x4, x5, x6] η) : (x1 ≤ x6) → (x3 < x5) → ∀ x7 : Int, x7 = zd 0 1 x4 1 → (iChs_bestBit7 xs η0) 0 [x1, x4, x5, x7] η ∧ (fun (_ : Nat) (_ : List Int) (_ : zE) => (0 : Nat)) 0 [x1, x4, x5, x7] η < 1 := by
  have fig := hig.2
  have hig := hig.1
  intro c1 c2 x7 e7
  refine yj_c ?_ ?_
  · exact ⟨trivial, Nat.zero_lt_one⟩
  · have e7 : x7 = zd 0 1 x4 1 := e7
    have b4 : (0 : Int) ≤ x4 ∧ x4 ≤ 5 := hI.1.2.1.2.2.2.1
    show yw_bI η0 (xs.getD 0 0) x1 x4 x5 x7 η
    refine wbJ_e (b := x2) (m := x3) (k := x1) (f := x4) (i := x6) (s := x5) fig (by omega) (by omega) e7 ?_
    rw [if_pos (by omega)]
set_option maxHeartbeats 8000000 in
theorem zhs_bestBit7_o5 {ro : Nat → List Int32} (xs : List Int) (η0 : zE) (hp : sP wl_hs zTr zPhs_bestBit7 xs η0) (hpp : pPhs_bestBit7 xs η0) (x1 x2 x3 x4 x5 x6 : Int) (η : zE) (hI : zsI wl_hs zTr zVhs_bestBit7 zMhs_bestBit7 η0 1 [x1, x2, x3, x4, x5, x6] η) (hig : iChs_bestBit7 xs η0 1 [x1, x2, x3, x4, x5, x6] η) : (x1 ≤ x6) → (x5 ≤ x3) → ∀ x7 : Int, x7 = zd 0 1 x4 1 → (iChs_bestBit7 xs η0) 0 [x1, x2, x3, x7] η ∧ (fun (_ : Nat) (_ : List Int) (_ : zE) => (0 : Nat)) 0 [x1, x2, x3, x7] η < 1 := by
  have fig := hig.2
  have hig := hig.1
  intro c1 c2 x7 e7
  refine yj_c ?_ ?_
  · exact ⟨trivial, Nat.zero_lt_one⟩
  · have e7 : x7 = zd 0 1 x4 1 := e7
    have b4 : (0 : Int) ≤ x4 ∧ x4 ≤ 5 := hI.1.2.1.2.2.2.1
    show yw_bI η0 (xs.getD 0 0) x1 x2 x3 x7 η
    refine wbJ_e (b := x2) (m := x3) (k := x1) (f := x4) (i := x6) (s := x5) fig (by omega) (by omega) e7 ?_
    rw [if_neg (by omega)]
set_option maxHeartbeats 8000000 in
theorem zhs_bestBit7_o6 {ro : Nat → List Int32} (xs : List Int) (η0 : zE) (hp : sP wl_hs zTr zPhs_bestBit7 xs η0) (hpp : pPhs_bestBit7 xs η0) (x1 x2 x3 x4 x5 x6 : Int) (η : zE) (hI : zsI wl_hs zTr zVhs_bestBit7 zMhs_bestBit7 η0 1 [x1, x2, x3, x4, x5, x6] η) (hig : iChs_bestBit7 xs η0 1 [x1, x2, x3, x4, x5, x6] η) : (x6 < x1) → ∀ x7 : Int, x7 = zd 0 1 x4 x6 → ∀ x8 : Int, x8 = η 6 (Int.toNat x7) → zok 0 x8 → ∀ x9 : Int, x9 = zd 0 1 x5 x8 → ∀ x10 : Int, x10 = zd 0 1 x6 1 → (iChs_bestBit7 xs η0) 1 [x1, x2, x3, x4, x9, x10] η ∧ (fun (_ : Nat) (_ : List Int) (_ : zE) => (0 : Nat)) 1 [x1, x2, x3, x4, x9, x10] η < 1 := by
  have fig := hig.2
  have hig := hig.1
  intro c1 x7 e7 x8 e8 r8 x9 e9 x10 e10
  refine yj_c ?_ ?_
  · exact ⟨trivial, Nat.zero_lt_one⟩
  · have e7 : x7 = zd 0 1 x4 x6 := e7
    have e8 : x8 = η 6 (Int.toNat x7) := e8
    have e9 : x9 = zd 0 1 x5 x8 := e9
    have e10 : x10 = zd 0 1 x6 1 := e10
    have b4 : (0 : Int) ≤ x4 ∧ x4 ≤ 5 := hI.1.2.1.2.2.2.1
    show yw_bJ η0 (xs.getD 0 0) x1 x2 x3 x4 x9 x10 η
    exact wbJ_s (k := x1) (f := x4) (i := x6) fig (by omega) (by omega) e7 e8 e9 e10
