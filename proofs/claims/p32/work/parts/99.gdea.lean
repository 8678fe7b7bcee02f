def tm_gs : zTm := tm_c
def wl_gs : wL := wl_c
def zPgs_within : zPq := ([((.negSucc (nat_lit 2147483647)), (.ofNat (nat_lit 2147483647))), ((.negSucc (nat_lit 2147483647)), (.ofNat (nat_lit 2147483647))), ((.negSucc (nat_lit 2147483647)), (.ofNat (nat_lit 2147483647)))], [])
def zOgs_within : zPo := (((.ofNat (nat_lit 0)), (.ofNat (nat_lit 1))), [], [((nat_lit 2, (.ofNat (nat_lit 0))), (nat_lit 1, (.ofNat (nat_lit 0)))), ((nat_lit 1, (.ofNat (nat_lit 0))), (nat_lit 3, (.ofNat (nat_lit 0))))])
def zMgs_within : List zCe := []
def pPgs_within : List Int → zE → Prop := fun _ _ => True
def oQgs_within : List Int → zE → Int → zE → Prop := fun _ _ _ _ => True
def fQgs_within : List Int → zE → Int → zE → Prop := fun xs η y η' => y = (yq_in (xs.getD 0 0) (xs.getD 1 0) (xs.getD 2 0)) ∧ η' = η
def pQgs_within : List Int → zE → Int → zE → Prop := fun xs η y η' => oQgs_within xs η y η' ∧ fQgs_within xs η y η'
def pCgs_within : Nat → List Int → zE → Prop := fun c => match c with
  | _ => fun _ _ => True
def qCgs_within : Nat → List Int → zE → Int → zE → Prop := fun c => match c with
  | _ => fun _ _ _ _ => True
def iCgs_within : List Int → zE → Nat → List Int → zE → Prop := fun xs η0 c => match c with
  | _ => fun _ _ => True
def zVgs_within : List zIv := []
def zDgs_within : List (List zK) := [[(nat_lit 7, nat_lit 2, [(nat_lit 0, (.ofNat (nat_lit 0)))]), (nat_lit 6, nat_lit 2, [(nat_lit 1, (.ofNat (nat_lit 0))), (nat_lit 2, (.ofNat (nat_lit 0)))])],
  [(nat_lit 7, nat_lit 2, [(nat_lit 0, (.ofNat (nat_lit 0)))]), (nat_lit 6, nat_lit 4, [(nat_lit 1, (.ofNat (nat_lit 0))), (nat_lit 3, (.ofNat (nat_lit 0)))]), (nat_lit 6, nat_lit 3, [(nat_lit 1, (.ofNat (nat_lit 0))), (nat_lit 2, (.ofNat (nat_lit 0)))])],
  [(nat_lit 7, nat_lit 2, [(nat_lit 0, (.ofNat (nat_lit 1)))]), (nat_lit 6, nat_lit 5, [(nat_lit 1, (.ofNat (nat_lit 0))), (nat_lit 3, (.ofNat (nat_lit 0)))]), (nat_lit 6, nat_lit 3, [(nat_lit 1, (.ofNat (nat_lit 0))), (nat_lit 2, (.ofNat (nat_lit 0)))])]]
def zEgs_within : List (List zK) := [[(nat_lit 11, nat_lit 0, [(nat_lit 0, (.ofNat (nat_lit 0)))]), (nat_lit 6, nat_lit 2, [(nat_lit 1, (.ofNat (nat_lit 0))), (nat_lit 2, (.ofNat (nat_lit 0)))])],
  [(nat_lit 11, nat_lit 0, [(nat_lit 0, (.ofNat (nat_lit 0)))]), (nat_lit 6, nat_lit 4, [(nat_lit 1, (.ofNat (nat_lit 0))), (nat_lit 3, (.ofNat (nat_lit 0)))]), (nat_lit 6, nat_lit 3, [(nat_lit 1, (.ofNat (nat_lit 0))), (nat_lit 2, (.ofNat (nat_lit 0)))])],
  [(nat_lit 11, nat_lit 0, [(nat_lit 0, (.ofNat (nat_lit 1)))]), (nat_lit 6, nat_lit 5, [(nat_lit 1, (.ofNat (nat_lit 0))), (nat_lit 3, (.ofNat (nat_lit 0)))]), (nat_lit 6, nat_lit 3, [(nat_lit 1, (.ofNat (nat_lit 0))), (nat_lit 2, (.ofNat (nat_lit 0)))])]]
def zFgs_within : List (List zK) := []
set_option maxHeartbeats 8000000 in
theorem zgs_within_o0 {ro : Nat → List Int32} (x1 x2 x3 : Int) (η : zE) (hp : sP wl_gs zTr zPgs_within [x1, x2, x3] η) (hpp : pPgs_within [x1, x2, x3] η) : (x1 < x2) → (fun (_ : Nat) (y : Int) (η' : zE) => pQgs_within [x1, x2, x3] η y η') 0 0 η := by
  intro c1
  refine yj_a ?_ ?_
  · exact trivial
  · show 0 = (yq_in x1 x2 x3) ∧ η = η
    refine ⟨?_, rfl⟩
    unfold yq_in
    split <;> first | (exfalso; omega) | rfl
set_option maxHeartbeats 8000000 in
theorem zgs_within_o1 {ro : Nat → List Int32} (x1 x2 x3 : Int) (η : zE) (hp : sP wl_gs zTr zPgs_within [x1, x2, x3] η) (hpp : pPgs_within [x1, x2, x3] η) : (x2 ≤ x1) → (x3 < x1) → (fun (_ : Nat) (y : Int) (η' : zE) => pQgs_within [x1, x2, x3] η y η') 0 0 η := by
  intro c1 c2
  refine yj_a ?_ ?_
  · exact trivial
  · show 0 = (yq_in x1 x2 x3) ∧ η = η
    refine ⟨?_, rfl⟩
    unfold yq_in
    split <;> first | (exfalso; omega) | rfl
set_option maxHeartbeats 8000000 in
theorem zgs_within_o2 {ro : Nat → List Int32} (x1 x2 x3 : Int) (η : zE) (hp : sP wl_gs zTr zPgs_within [x1, x2, x3] η) (hpp : pPgs_within [x1, x2, x3] η) : (x2 ≤ x1) → (x1 ≤ x3) → (fun (_ : Nat) (y : Int) (η' : zE) => pQgs_within [x1, x2, x3] η y η') 0 1 η := by
  intro c1 c2
  refine yj_a ?_ ?_
  · exact trivial
  · show 1 = (yq_in x1 x2 x3) ∧ η = η
    refine ⟨?_, rfl⟩
    unfold yq_in
    split <;> first | (exfalso; omega) | rfl
set_option maxHeartbeats 8000000 in
theorem zgs_within {ro : Nat → List Int32} : zMet pr_P pr_K pr_df ro (sm_X0 1 6) 0 75 tm_gs [(.inl (nat_lit 1, (.ofNat (nat_lit 0)))), (.inl (nat_lit 2, (.ofNat (nat_lit 0)))), (.inl (nat_lit 3, (.ofNat (nat_lit 0))))] 2 [] [] (fun xs η => sP wl_gs zTr zPgs_within xs η ∧ pPgs_within xs η) (fun xs η y η' => sQ wl_gs zTr zOgs_within zMgs_within xs η y η' ∧ pQgs_within xs η y η') :=
  zmet_alt (zmea_gen (mi := (nat_lit 3, nat_lit 0, nat_lit 7, nat_lit 3, nat_lit 2, tX7_within)) (cd := []) (cu := []) (cs := []) (iv := zVgs_within) (po := [zOgs_within]) (pr := zPgs_within) (mods := zMgs_within) (D7 := zDgs_within) (D0 := zEgs_within) (Dm := zFgs_within) (f0 := 13) pCgs_within qCgs_within iCgs_within pPgs_within (fun xs η _ y η' => pQgs_within xs η y η') zX_low pr_mtR rfl (fun _ h => nomatch h) (by decide +kernel) (by decide +kernel) (by decide +kernel)
    (by
      intro xs η hr hl hp hpp
      match xs, hl, hp, hpp with
      | [x1, x2, x3], _, hp, hpp =>
        refine List.forall_mem_cons.mpr ⟨?_, List.forall_mem_cons.mpr ⟨?_, List.forall_mem_cons.mpr ⟨?_, fun _ h => nomatch h⟩⟩⟩
        · refine zden_L (n := 4) (ρ := [x3, x2, x1, 0]) rfl ?_
          exact zgs_within_o0 (ro := ro) x1 x2 x3 η hp hpp
        · refine zden_L (n := 4) (ρ := [x3, x2, x1, 0]) rfl ?_
          exact zgs_within_o1 (ro := ro) x1 x2 x3 η hp hpp
        · refine zden_L (n := 4) (ρ := [x3, x2, x1, 0]) rfl ?_
          exact zgs_within_o2 (ro := ro) x1 x2 x3 η hp hpp
      )
    (fun _ _ _ _ _ _ _ h => nomatch h)
    (fun _ h => nomatch h))
def zPgs_isGroove : zPq := ([((.negSucc (nat_lit 2147483647)), (.ofNat (nat_lit 2147483647)))], [])
def zOgs_isGroove : zPo := (((.ofNat (nat_lit 0)), (.ofNat (nat_lit 1))), [], [((nat_lit 0, (.ofNat (nat_lit 0))), (nat_lit 1, (.ofNat (nat_lit 0)))), ((nat_lit 1, (.ofNat (nat_lit 0))), (nat_lit 0, (.ofNat (nat_lit 11))))])
def zMgs_isGroove : List zCe := []
def pPgs_isGroove : List Int → zE → Prop := fun _ _ => True
def oQgs_isGroove : List Int → zE → Int → zE → Prop := fun _ _ _ _ => True
def fQgs_isGroove : List Int → zE → Int → zE → Prop := fun xs η y η' => y = (yv_ig (xs.getD 0 0) η) ∧ η' = η
def pQgs_isGroove : List Int → zE → Int → zE → Prop := fun xs η y η' => oQgs_isGroove xs η y η' ∧ fQgs_isGroove xs η y η'
def pCgs_isGroove : Nat → List Int → zE → Prop := fun c => match c with
  | _ => fun _ _ => True
def qCgs_isGroove : Nat → List Int → zE → Int → zE → Prop := fun c => match c with
  | _ => fun _ _ _ _ => True
def iCgs_isGroove : List Int → zE → Nat → List Int → zE → Prop := fun xs η0 c => match c with
  | _ => fun _ _ => True
def zVgs_isGroove : List zIv := []
def zDgs_isGroove : List (List zK) := [[(nat_lit 7, nat_lit 2, [(nat_lit 0, (.ofNat (nat_lit 0)))]), (nat_lit 6, nat_lit 2, [(nat_lit 1, (.ofNat (nat_lit 0))), (nat_lit 0, (.ofNat (nat_lit 0)))])],
  [(nat_lit 7, nat_lit 2, [(nat_lit 0, (.ofNat (nat_lit 0)))]), (nat_lit 6, nat_lit 3, [(nat_lit 1, (.ofNat (nat_lit 0))), (nat_lit 2, (.ofNat (nat_lit 0)))]), (nat_lit 4, nat_lit 0, [(nat_lit 2, (.ofNat (nat_lit 0))), (nat_lit 0, (.ofNat (nat_lit 1)))]), (nat_lit 6, nat_lit 3, [(nat_lit 1, (.ofNat (nat_lit 0))), (nat_lit 0, (.ofNat (nat_lit 0)))])],
  [(nat_lit 7, nat_lit 2, [(nat_lit 0, (.ofNat (nat_lit 1)))]), (nat_lit 6, nat_lit 2, [(nat_lit 1, (.ofNat (nat_lit 0))), (nat_lit 2, (.ofNat (nat_lit 0)))]), (nat_lit 4, nat_lit 0, [(nat_lit 2, (.ofNat (nat_lit 0))), (nat_lit 0, (.ofNat (nat_lit 1)))]), (nat_lit 6, nat_lit 3, [(nat_lit 1, (.ofNat (nat_lit 0))), (nat_lit 0, (.ofNat (nat_lit 0)))])]]
def zEgs_isGroove : List (List zK) := [[(nat_lit 11, nat_lit 0, [(nat_lit 0, (.ofNat (nat_lit 0)))]), (nat_lit 6, nat_lit 2, [(nat_lit 1, (.ofNat (nat_lit 0))), (nat_lit 0, (.ofNat (nat_lit 0)))])],
  [(nat_lit 11, nat_lit 0, [(nat_lit 0, (.ofNat (nat_lit 0)))]), (nat_lit 6, nat_lit 3, [(nat_lit 1, (.ofNat (nat_lit 0))), (nat_lit 2, (.ofNat (nat_lit 0)))]), (nat_lit 4, nat_lit 0, [(nat_lit 2, (.ofNat (nat_lit 0))), (nat_lit 0, (.ofNat (nat_lit 1)))]), (nat_lit 6, nat_lit 3, [(nat_lit 1, (.ofNat (nat_lit 0))), (nat_lit 0, (.ofNat (nat_lit 0)))])],
  [(nat_lit 11, nat_lit 0, [(nat_lit 0, (.ofNat (nat_lit 1)))]), (nat_lit 6, nat_lit 2, [(nat_lit 1, (.ofNat (nat_lit 0))), (nat_lit 2, (.ofNat (nat_lit 0)))]), (nat_lit 4, nat_lit 0, [(nat_lit 2, (.ofNat (nat_lit 0))), (nat_lit 0, (.ofNat (nat_lit 1)))]), (nat_lit 6, nat_lit 3, [(nat_lit 1, (.ofNat (nat_lit 0))), (nat_lit 0, (.ofNat (nat_lit 0)))])]]
def zFgs_isGroove : List (List zK) := []
set_option maxHeartbeats 8000000 in
theorem zgs_isGroove_o0 {ro : Nat → List Int32} (x1 : Int) (η : zE) (hp : sP wl_gs zTr zPgs_isGroove [x1] η) (hpp : pPgs_isGroove [x1] η) : (x1 < 0) → (fun (_ : Nat) (y : Int) (η' : zE) => pQgs_isGroove [x1] η y η') 0 0 η := by
  intro c1
  refine yj_a ?_ ?_
  · exact trivial
  · show 0 = (yv_ig x1 η) ∧ η = η
    simp only [yv_ig]
    all_goals (split <;> first | (exfalso; omega) | exact ⟨rfl, rfl⟩ | exact ⟨rfl, trivial⟩)
set_option maxHeartbeats 8000000 in
theorem zgs_isGroove_o1 {ro : Nat → List Int32} (x1 : Int) (η : zE) (hp : sP wl_gs zTr zPgs_isGroove [x1] η) (hpp : pPgs_isGroove [x1] η) : (0 ≤ x1) → ∀ x2 : Int, x2 = η 2 (Int.toNat 1) → zok 0 x2 → (x2 ≤ x1) → (fun (_ : Nat) (y : Int) (η' : zE) => pQgs_isGroove [x1] η y η') 0 0 η := by
  intro c1 x2 e2 r2 c2
  refine yj_a ?_ ?_
  · exact trivial
  · have e2 : x2 = η 2 1 := e2
    show 0 = (yv_ig x1 η) ∧ η = η
    simp only [yv_ig, ← e2]
    all_goals (split <;> first | (exfalso; omega) | exact ⟨rfl, rfl⟩ | exact ⟨rfl, trivial⟩)
set_option maxHeartbeats 8000000 in
theorem zgs_isGroove_o2 {ro : Nat → List Int32} (x1 : Int) (η : zE) (hp : sP wl_gs zTr zPgs_isGroove [x1] η) (hpp : pPgs_isGroove [x1] η) : (0 ≤ x1) → ∀ x2 : Int, x2 = η 2 (Int.toNat 1) → zok 0 x2 → (x1 < x2) → (fun (_ : Nat) (y : Int) (η' : zE) => pQgs_isGroove [x1] η y η') 0 1 η := by
  intro c1 x2 e2 r2 c2
  refine yj_a ?_ ?_
  · exact trivial
  · have e2 : x2 = η 2 1 := e2
    show 1 = (yv_ig x1 η) ∧ η = η
    simp only [yv_ig, ← e2]
    all_goals (split <;> first | (exfalso; omega) | exact ⟨rfl, rfl⟩ | exact ⟨rfl, trivial⟩)
set_option maxHeartbeats 8000000 in
theorem zgs_isGroove {ro : Nat → List Int32} : zMet pr_P pr_K pr_df ro (sm_X0 1 6) 0 72 tm_gs [(.inr (.inr (.inl (nat_lit 0)))), (.inl (nat_lit 1, (.ofNat (nat_lit 0))))] 2 [(nat_lit 0, nat_lit 0, nat_lit 1), (nat_lit 0, nat_lit 4, nat_lit 2), (nat_lit 0, nat_lit 5, nat_lit 32), (nat_lit 0, nat_lit 6, nat_lit 60), (nat_lit 0, nat_lit 7, nat_lit 70), (nat_lit 0, nat_lit 8, nat_lit 74), (nat_lit 0, nat_lit 11, nat_lit 78), (nat_lit 0, nat_lit 12, nat_lit 82), (nat_lit 0, nat_lit 13, nat_lit 90), (nat_lit 0, nat_lit 14, nat_lit 91), (nat_lit 0, nat_lit 15, nat_lit 95), (nat_lit 0, nat_lit 16, nat_lit 101), (nat_lit 2, nat_lit 8, nat_lit 3), (nat_lit 2, nat_lit 9, nat_lit 4), (nat_lit 2, nat_lit 10, nat_lit 5), (nat_lit 2, nat_lit 11, nat_lit 6), (nat_lit 2, nat_lit 12, nat_lit 11), (nat_lit 2, nat_lit 13, nat_lit 16), (nat_lit 2, nat_lit 14, nat_lit 17), (nat_lit 6, nat_lit 0, nat_lit 7), (nat_lit 11, nat_lit 0, nat_lit 12), (nat_lit 6, nat_lit 1, nat_lit 8), (nat_lit 11, nat_lit 1, nat_lit 13), (nat_lit 6, nat_lit 2, nat_lit 9), (nat_lit 11, nat_lit 2, nat_lit 14), (nat_lit 6, nat_lit 3, nat_lit 10), (nat_lit 11, nat_lit 3, nat_lit 15), (nat_lit 17, nat_lit 2, nat_lit 18), (nat_lit 17, nat_lit 3, nat_lit 19), (nat_lit 17, nat_lit 4, nat_lit 20), (nat_lit 17, nat_lit 5, nat_lit 21), (nat_lit 17, nat_lit 6, nat_lit 22), (nat_lit 32, nat_lit 8, nat_lit 33), (nat_lit 32, nat_lit 9, nat_lit 34), (nat_lit 32, nat_lit 10, nat_lit 35), (nat_lit 32, nat_lit 11, nat_lit 36), (nat_lit 32, nat_lit 12, nat_lit 41), (nat_lit 32, nat_lit 13, nat_lit 46), (nat_lit 32, nat_lit 14, nat_lit 47), (nat_lit 36, nat_lit 0, nat_lit 37), (nat_lit 41, nat_lit 0, nat_lit 42), (nat_lit 36, nat_lit 1, nat_lit 38), (nat_lit 41, nat_lit 1, nat_lit 43), (nat_lit 36, nat_lit 2, nat_lit 39), (nat_lit 41, nat_lit 2, nat_lit 44), (nat_lit 36, nat_lit 3, nat_lit 40), (nat_lit 41, nat_lit 3, nat_lit 45), (nat_lit 47, nat_lit 2, nat_lit 48), (nat_lit 47, nat_lit 3, nat_lit 49), (nat_lit 47, nat_lit 4, nat_lit 50), (nat_lit 47, nat_lit 5, nat_lit 51), (nat_lit 47, nat_lit 6, nat_lit 52), (nat_lit 60, nat_lit 3, nat_lit 1), (nat_lit 60, nat_lit 9, nat_lit 61), (nat_lit 60, nat_lit 10, nat_lit 62), (nat_lit 60, nat_lit 11, nat_lit 63), (nat_lit 70, nat_lit 8, nat_lit 71), (nat_lit 70, nat_lit 9, nat_lit 72), (nat_lit 70, nat_lit 10, nat_lit 73), (nat_lit 74, nat_lit 8, nat_lit 75), (nat_lit 74, nat_lit 9, nat_lit 76), (nat_lit 74, nat_lit 10, nat_lit 77), (nat_lit 78, nat_lit 8, nat_lit 79), (nat_lit 78, nat_lit 9, nat_lit 80), (nat_lit 78, nat_lit 10, nat_lit 81), (nat_lit 82, nat_lit 8, nat_lit 83), (nat_lit 82, nat_lit 9, nat_lit 84), (nat_lit 82, nat_lit 10, nat_lit 85), (nat_lit 91, nat_lit 1, nat_lit 92), (nat_lit 91, nat_lit 2, nat_lit 93), (nat_lit 91, nat_lit 3, nat_lit 94), (nat_lit 95, nat_lit 2, nat_lit 96), (nat_lit 95, nat_lit 3, nat_lit 97), (nat_lit 95, nat_lit 4, nat_lit 98), (nat_lit 95, nat_lit 5, nat_lit 99), (nat_lit 95, nat_lit 6, nat_lit 100)] [] (fun xs η => sP wl_gs zTr zPgs_isGroove xs η ∧ pPgs_isGroove xs η) (fun xs η y η' => sQ wl_gs zTr zOgs_isGroove zMgs_isGroove xs η y η' ∧ pQgs_isGroove xs η y η') :=
  zmet_alt (zmea_gen (mi := (nat_lit 1, nat_lit 1, nat_lit 7, nat_lit 2, nat_lit 2, tX7_isGroove)) (cd := []) (cu := []) (cs := []) (iv := zVgs_isGroove) (po := [zOgs_isGroove]) (pr := zPgs_isGroove) (mods := zMgs_isGroove) (D7 := zDgs_isGroove) (D0 := zEgs_isGroove) (Dm := zFgs_isGroove) (f0 := 14) pCgs_isGroove qCgs_isGroove iCgs_isGroove pPgs_isGroove (fun xs η _ y η' => pQgs_isGroove xs η y η') zX_low pr_mtR rfl (fun _ h => nomatch h) (by decide +kernel) (by decide +kernel) (by decide +kernel)
    (by
      intro xs η hr hl hp hpp
      match xs, hl, hp, hpp with
      | [x1], _, hp, hpp =>
        refine List.forall_mem_cons.mpr ⟨?_, List.forall_mem_cons.mpr ⟨?_, List.forall_mem_cons.mpr ⟨?_, fun _ h => nomatch h⟩⟩⟩
        · refine zden_L (n := 2) (ρ := [x1, 0]) rfl ?_
          exact zgs_isGroove_o0 (ro := ro) x1 η hp hpp
        · refine zden_L (n := 2) (ρ := [x1, 0]) rfl ?_
          exact zgs_isGroove_o1 (ro := ro) x1 η hp hpp
        · refine zden_L (n := 2) (ρ := [x1, 0]) rfl ?_
          exact zgs_isGroove_o2 (ro := ro) x1 η hp hpp
      )
    (fun _ _ _ _ _ _ _ h => nomatch h)
    (fun _ h => nomatch h))
def zPgs_t_add : zPq := ([((.ofNat (nat_lit 0)), (.ofNat (nat_lit 60))), ((.negSucc (nat_lit 2147483647)), (.ofNat (nat_lit 2147483647))), ((.ofNat (nat_lit 0)), (.ofNat (nat_lit 1))), ((.negSucc (nat_lit 0)), (.ofNat (nat_lit 23)))], [])
def zOgs_t_add : zPo := (((.negSucc (nat_lit 0)), (.ofNat (nat_lit 23))), [], [])
def zMgs_t_add : List zCe := [(nat_lit 95, nat_lit 0), (nat_lit 96, nat_lit 0), (nat_lit 97, nat_lit 0), (nat_lit 98, nat_lit 0), (nat_lit 99, nat_lit 0)]
def pPgs_t_add : List Int → zE → Prop := fun _ _ => True
def oQgs_t_add : List Int → zE → Int → zE → Prop := fun _ _ _ _ => True
def fQgs_t_add : List Int → zE → Int → zE → Prop := fun xs η y η' => y = (yv_ay η) ∧ η' = (yv_ad (xs.getD 0 0) (xs.getD 1 0) (xs.getD 2 0) (xs.getD 3 0) η)
def pQgs_t_add : List Int → zE → Int → zE → Prop := fun xs η y η' => oQgs_t_add xs η y η' ∧ fQgs_t_add xs η y η'
def pCgs_t_add : Nat → List Int → zE → Prop := fun c => match c with
  | _ => fun _ _ => True
def qCgs_t_add : Nat → List Int → zE → Int → zE → Prop := fun c => match c with
  | _ => fun _ _ _ _ => True
def iCgs_t_add : List Int → zE → Nat → List Int → zE → Prop := fun xs η0 c => match c with
  | _ => fun _ _ => True
def zVgs_t_add : List zIv := []
def zDgs_t_add : List (List zK) := [[(nat_lit 7, nat_lit 0, [(nat_lit 6, (.ofNat (nat_lit 0))), (nat_lit 0, (.ofNat (nat_lit 24)))]), (nat_lit 4, nat_lit 0, [(nat_lit 95, (.ofNat (nat_lit 0))), (nat_lit 0, (.ofNat (nat_lit 0)))]), (nat_lit 6, nat_lit 2, [(nat_lit 5, (.ofNat (nat_lit 0))), (nat_lit 0, (.ofNat (nat_lit 24)))]), (nat_lit 4, nat_lit 0, [(nat_lit 95, (.ofNat (nat_lit 0))), (nat_lit 0, (.ofNat (nat_lit 0)))])],
  [(nat_lit 7, nat_lit 0, [(nat_lit 7, (.ofNat (nat_lit 0))), (nat_lit 0, (.ofNat (nat_lit 24)))]), (nat_lit 4, nat_lit 0, [(nat_lit 95, (.ofNat (nat_lit 0))), (nat_lit 0, (.ofNat (nat_lit 0)))]), (nat_lit 5, nat_lit 0, [(nat_lit 96, (.ofNat (nat_lit 0))), (nat_lit 6, (.ofNat (nat_lit 0))), (nat_lit 1, (.ofNat (nat_lit 0)))]), (nat_lit 4, nat_lit 0, [(nat_lit 95, (.ofNat (nat_lit 0))), (nat_lit 0, (.ofNat (nat_lit 0)))]), (nat_lit 6, nat_lit 2, [(nat_lit 5, (.ofNat (nat_lit 0))), (nat_lit 0, (.ofNat (nat_lit 24)))]), (nat_lit 4, nat_lit 0, [(nat_lit 95, (.ofNat (nat_lit 0))), (nat_lit 0, (.ofNat (nat_lit 0)))])],
  [(nat_lit 7, nat_lit 0, [(nat_lit 8, (.ofNat (nat_lit 0))), (nat_lit 0, (.ofNat (nat_lit 24)))]), (nat_lit 4, nat_lit 0, [(nat_lit 95, (.ofNat (nat_lit 0))), (nat_lit 0, (.ofNat (nat_lit 0)))]), (nat_lit 5, nat_lit 0, [(nat_lit 97, (.ofNat (nat_lit 0))), (nat_lit 7, (.ofNat (nat_lit 0))), (nat_lit 2, (.ofNat (nat_lit 0)))]), (nat_lit 4, nat_lit 0, [(nat_lit 95, (.ofNat (nat_lit 0))), (nat_lit 0, (.ofNat (nat_lit 0)))]), (nat_lit 5, nat_lit 0, [(nat_lit 96, (.ofNat (nat_lit 0))), (nat_lit 6, (.ofNat (nat_lit 0))), (nat_lit 1, (.ofNat (nat_lit 0)))]), (nat_lit 4, nat_lit 0, [(nat_lit 95, (.ofNat (nat_lit 0))), (nat_lit 0, (.ofNat (nat_lit 0)))]), (nat_lit 6, nat_lit 2, [(nat_lit 5, (.ofNat (nat_lit 0))), (nat_lit 0, (.ofNat (nat_lit 24)))]), (nat_lit 4, nat_lit 0, [(nat_lit 95, (.ofNat (nat_lit 0))), (nat_lit 0, (.ofNat (nat_lit 0)))])],
  [(nat_lit 7, nat_lit 2, [(nat_lit 3, (.ofNat (nat_lit 0)))]), (nat_lit 4, nat_lit 0, [(nat_lit 95, (.ofNat (nat_lit 0))), (nat_lit 0, (.ofNat (nat_lit 0)))]), (nat_lit 5, nat_lit 0, [(nat_lit 97, (.ofNat (nat_lit 0))), (nat_lit 7, (.ofNat (nat_lit 0))), (nat_lit 2, (.ofNat (nat_lit 0)))]), (nat_lit 4, nat_lit 0, [(nat_lit 95, (.ofNat (nat_lit 0))), (nat_lit 0, (.ofNat (nat_lit 0)))]), (nat_lit 5, nat_lit 0, [(nat_lit 96, (.ofNat (nat_lit 0))), (nat_lit 6, (.ofNat (nat_lit 0))), (nat_lit 1, (.ofNat (nat_lit 0)))]), (nat_lit 4, nat_lit 0, [(nat_lit 95, (.ofNat (nat_lit 0))), (nat_lit 0, (.ofNat (nat_lit 0)))]), (nat_lit 6, nat_lit 2, [(nat_lit 5, (.ofNat (nat_lit 0))), (nat_lit 0, (.ofNat (nat_lit 24)))]), (nat_lit 4, nat_lit 0, [(nat_lit 95, (.ofNat (nat_lit 0))), (nat_lit 0, (.ofNat (nat_lit 0)))])],
  [(nat_lit 7, nat_lit 0, [(nat_lit 9, (.ofNat (nat_lit 0))), (nat_lit 0, (.ofNat (nat_lit 24)))]), (nat_lit 4, nat_lit 0, [(nat_lit 95, (.ofNat (nat_lit 0))), (nat_lit 0, (.ofNat (nat_lit 0)))]), (nat_lit 5, nat_lit 1, [(nat_lit 98, (.ofNat (nat_lit 0))), (nat_lit 8, (.ofNat (nat_lit 0))), (nat_lit 3, (.ofNat (nat_lit 0)))]), (nat_lit 4, nat_lit 0, [(nat_lit 95, (.ofNat (nat_lit 0))), (nat_lit 0, (.ofNat (nat_lit 0)))]), (nat_lit 5, nat_lit 0, [(nat_lit 97, (.ofNat (nat_lit 0))), (nat_lit 7, (.ofNat (nat_lit 0))), (nat_lit 2, (.ofNat (nat_lit 0)))]), (nat_lit 4, nat_lit 0, [(nat_lit 95, (.ofNat (nat_lit 0))), (nat_lit 0, (.ofNat (nat_lit 0)))]), (nat_lit 5, nat_lit 0, [(nat_lit 96, (.ofNat (nat_lit 0))), (nat_lit 6, (.ofNat (nat_lit 0))), (nat_lit 1, (.ofNat (nat_lit 0)))]), (nat_lit 4, nat_lit 0, [(nat_lit 95, (.ofNat (nat_lit 0))), (nat_lit 0, (.ofNat (nat_lit 0)))]), (nat_lit 6, nat_lit 2, [(nat_lit 5, (.ofNat (nat_lit 0))), (nat_lit 0, (.ofNat (nat_lit 24)))]), (nat_lit 4, nat_lit 0, [(nat_lit 95, (.ofNat (nat_lit 0))), (nat_lit 0, (.ofNat (nat_lit 0)))])]]
def zEgs_t_add : List (List zK) := [[(nat_lit 11, nat_lit 0, [(nat_lit 13, (.ofNat (nat_lit 0)))]), (nat_lit 0, nat_lit 2, [(nat_lit 12, (.ofNat (nat_lit 0))), (nat_lit 0, (.ofNat (nat_lit 1)))]), (nat_lit 4, nat_lit 0, [(nat_lit 95, (.ofNat (nat_lit 0))), (nat_lit 0, (.ofNat (nat_lit 0)))]), (nat_lit 5, nat_lit 0, [(nat_lit 95, (.ofNat (nat_lit 0))), (nat_lit 0, (.ofNat (nat_lit 0))), (nat_lit 11, (.ofNat (nat_lit 0)))]), (nat_lit 0, nat_lit 1, [(nat_lit 10, (.ofNat (nat_lit 0))), (nat_lit 0, (.ofNat (nat_lit 1)))]), (nat_lit 4, nat_lit 0, [(nat_lit 95, (.ofNat (nat_lit 0))), (nat_lit 0, (.ofNat (nat_lit 0)))]), (nat_lit 5, nat_lit 0, [(nat_lit 99, (.ofNat (nat_lit 0))), (nat_lit 9, (.ofNat (nat_lit 0))), (nat_lit 4, (.ofNat (nat_lit 0)))]), (nat_lit 4, nat_lit 0, [(nat_lit 95, (.ofNat (nat_lit 0))), (nat_lit 0, (.ofNat (nat_lit 0)))]), (nat_lit 5, nat_lit 1, [(nat_lit 98, (.ofNat (nat_lit 0))), (nat_lit 8, (.ofNat (nat_lit 0))), (nat_lit 3, (.ofNat (nat_lit 0)))]), (nat_lit 4, nat_lit 0, [(nat_lit 95, (.ofNat (nat_lit 0))), (nat_lit 0, (.ofNat (nat_lit 0)))]), (nat_lit 5, nat_lit 0, [(nat_lit 97, (.ofNat (nat_lit 0))), (nat_lit 7, (.ofNat (nat_lit 0))), (nat_lit 2, (.ofNat (nat_lit 0)))]), (nat_lit 4, nat_lit 0, [(nat_lit 95, (.ofNat (nat_lit 0))), (nat_lit 0, (.ofNat (nat_lit 0)))]), (nat_lit 5, nat_lit 0, [(nat_lit 96, (.ofNat (nat_lit 0))), (nat_lit 6, (.ofNat (nat_lit 0))), (nat_lit 1, (.ofNat (nat_lit 0)))]), (nat_lit 4, nat_lit 0, [(nat_lit 95, (.ofNat (nat_lit 0))), (nat_lit 0, (.ofNat (nat_lit 0)))]), (nat_lit 6, nat_lit 2, [(nat_lit 5, (.ofNat (nat_lit 0))), (nat_lit 0, (.ofNat (nat_lit 24)))]), (nat_lit 4, nat_lit 0, [(nat_lit 95, (.ofNat (nat_lit 0))), (nat_lit 0, (.ofNat (nat_lit 0)))])],
  [(nat_lit 11, nat_lit 0, [(nat_lit 0, (.negSucc (nat_lit 0)))]), (nat_lit 6, nat_lit 3, [(nat_lit 5, (.ofNat (nat_lit 0))), (nat_lit 0, (.ofNat (nat_lit 24)))]), (nat_lit 4, nat_lit 0, [(nat_lit 95, (.ofNat (nat_lit 0))), (nat_lit 0, (.ofNat (nat_lit 0)))])]]
def zFgs_t_add : List (List zK) := []
set_option maxHeartbeats 8000000 in
theorem zgs_t_add_o0 {ro : Nat → List Int32} (x1 x2 x3 x4 : Int) (η : zE) (hp : sP wl_gs zTr zPgs_t_add [x1, x2, x3, x4] η) (hpp : pPgs_t_add [x1, x2, x3, x4] η) : ∀ x5 : Int, x5 = η 95 (Int.toNat 0) → zok 0 x5 → (x5 < 24) → ∀ x6 : Int, x6 = η 95 (Int.toNat 0) → zok 0 x6 → ∀ η1 : zE, η1 = zup η 96 (Int.toNat x6) x1 → ∀ x7 : Int, x7 = η1 95 (Int.toNat 0) → zok 0 x7 → ∀ η2 : zE, η2 = zup η1 97 (Int.toNat x7) x2 → ∀ x8 : Int, x8 = η2 95 (Int.toNat 0) → zok 0 x8 → ∀ η3 : zE, η3 = zup η2 98 (Int.toNat x8) x3 → ∀ x9 : Int, x9 = η3 95 (Int.toNat 0) → zok 0 x9 → ∀ η4 : zE, η4 = zup η3 99 (Int.toNat x9) x4 → ∀ x10 : Int, x10 = η4 95 (Int.toNat 0) → zok 0 x10 → ∀ x11 : Int, x11 = zd 0 1 x10 1 → ∀ η5 : zE, η5 = zup η4 95 (Int.toNat 0) x11 → ∀ x12 : Int, x12 = η5 95 (Int.toNat 0) → zok 0 x12 → ∀ x13 : Int, x13 = zd 0 2 x12 1 → (fun (_ : Nat) (y : Int) (η' : zE) => pQgs_t_add [x1, x2, x3, x4] η y η') 0 x13 η5 := by
  intro x5 e5 r5 c1 x6 e6 r6 η1 eη1 x7 e7 r7 η2 eη2 x8 e8 r8 η3 eη3 x9 e9 r9 η4 eη4 x10 e10 r10 x11 e11 η5 eη5 x12 e12 r12 x13 e13
  refine yj_a ?_ ?_
  · exact trivial
  · have e5 : x5 = η 95 0 := e5
    clear r5
    have e6 : x6 = η 95 0 := e6
    clear r6
    have eη1 : η1 = zup η 96 (Int.toNat x6) x1 := eη1
    have e7 : x7 = η1 95 0 := e7
    clear r7
    have eη2 : η2 = zup η1 97 (Int.toNat x7) x2 := eη2
    have e8 : x8 = η2 95 0 := e8
    clear r8
    have eη3 : η3 = zup η2 98 (Int.toNat x8) x3 := eη3
    have e9 : x9 = η3 95 0 := e9
    clear r9
    have eη4 : η4 = zup η3 99 (Int.toNat x9) x4 := eη4
    have e10 : x10 = η4 95 0 := e10
    clear r10
    have eη5 : η5 = zup η4 95 0 x11 := eη5
    have e12 : x12 = η5 95 0 := e12
    clear r12
    show x13 = yv_ay η ∧ η5 = yv_ad x1 x2 x3 x4 η
    subst e5
    subst e6
    subst eη1
    subst e7
    subst eη2
    subst e8
    subst eη3
    subst e9
    subst eη4
    subst e10
    subst e11
    subst eη5
    subst e12
    subst e13
    refine ⟨?_, ?_⟩
    · unfold yv_ay
      split <;> first | (exfalso; omega) | rfl
    · unfold yv_ad yp_inc
      split <;> first | (exfalso; omega) | rfl
set_option maxHeartbeats 8000000 in
theorem zgs_t_add_o1 {ro : Nat → List Int32} (x1 x2 x3 x4 : Int) (η : zE) (hp : sP wl_gs zTr zPgs_t_add [x1, x2, x3, x4] η) (hpp : pPgs_t_add [x1, x2, x3, x4] η) : ∀ x5 : Int, x5 = η 95 (Int.toNat 0) → zok 0 x5 → (24 ≤ x5) → (fun (_ : Nat) (y : Int) (η' : zE) => pQgs_t_add [x1, x2, x3, x4] η y η') 0 (-1) η := by
  intro x5 e5 r5 c1
  refine yj_a ?_ ?_
  · exact trivial
  · have e5 : x5 = η 95 0 := e5
    clear r5
    show (-1) = yv_ay η ∧ η = yv_ad x1 x2 x3 x4 η
    subst e5
    refine ⟨?_, ?_⟩
    · unfold yv_ay
      split <;> first | (exfalso; omega) | rfl
    · unfold yv_ad yp_inc
      split <;> first | (exfalso; omega) | rfl
set_option maxHeartbeats 8000000 in
theorem zgs_t_add {ro : Nat → List Int32} : zMet pr_P pr_K pr_df ro (sm_X0 1 6) 0 59 tm_gs [(.inr (.inr (.inl (nat_lit 95)))), (.inl (nat_lit 1, (.ofNat (nat_lit 0)))), (.inl (nat_lit 2, (.ofNat (nat_lit 0)))), (.inl (nat_lit 3, (.ofNat (nat_lit 0)))), (.inl (nat_lit 4, (.ofNat (nat_lit 0))))] 1 [(nat_lit 95, nat_lit 2, nat_lit 96), (nat_lit 95, nat_lit 3, nat_lit 97), (nat_lit 95, nat_lit 4, nat_lit 98), (nat_lit 95, nat_lit 5, nat_lit 99), (nat_lit 95, nat_lit 6, nat_lit 100)] [] (fun xs η => sP wl_gs zTr zPgs_t_add xs η ∧ pPgs_t_add xs η) (fun xs η y η' => sQ wl_gs zTr zOgs_t_add zMgs_t_add xs η y η' ∧ pQgs_t_add xs η y η') :=
  zmet_alt (zmea_gen (mi := (nat_lit 4, nat_lit 1, nat_lit 6, nat_lit 5, nat_lit 1, tX6_add)) (cd := []) (cu := []) (cs := []) (iv := zVgs_t_add) (po := [zOgs_t_add]) (pr := zPgs_t_add) (mods := zMgs_t_add) (D7 := zDgs_t_add) (D0 := zEgs_t_add) (Dm := zFgs_t_add) (f0 := 43) pCgs_t_add qCgs_t_add iCgs_t_add pPgs_t_add (fun xs η _ y η' => pQgs_t_add xs η y η') zX_low pr_mtR rfl (fun _ h => nomatch h) (by decide +kernel) (by decide +kernel) (by decide +kernel)
    (by
      intro xs η hr hl hp hpp
      match xs, hl, hp, hpp with
      | [x1, x2, x3, x4], _, hp, hpp =>
        refine List.forall_mem_cons.mpr ⟨?_, List.forall_mem_cons.mpr ⟨?_, fun _ h => nomatch h⟩⟩
        · refine zden_L (n := 5) (ρ := [x4, x3, x2, x1, 0]) rfl ?_
          exact zgs_t_add_o0 (ro := ro) x1 x2 x3 x4 η hp hpp
        · refine zden_L (n := 5) (ρ := [x4, x3, x2, x1, 0]) rfl ?_
          exact zgs_t_add_o1 (ro := ro) x1 x2 x3 x4 η hp hpp
      )
    (fun _ _ _ _ _ _ _ h => nomatch h)
    (fun _ h => nomatch h))
def zPgs_tape : zPq := ([((.negSucc (nat_lit 2147483647)), (.ofNat (nat_lit 2147483647))), ((.negSucc (nat_lit 2147483647)), (.ofNat (nat_lit 2147483647))), ((.ofNat (nat_lit 0)), (.ofNat (nat_lit 1)))], [])
def zOgs_tape : zPo := (((.negSucc (nat_lit 2147483647)), (.ofNat (nat_lit 2147483647))), [], [])
def zMgs_tape : List zCe := [(nat_lit 95, nat_lit 0), (nat_lit 96, nat_lit 0), (nat_lit 97, nat_lit 0), (nat_lit 98, nat_lit 0), (nat_lit 99, nat_lit 0)]
def pPgs_tape : List Int → zE → Prop := fun _ _ => True
def oQgs_tape : List Int → zE → Int → zE → Prop := fun _ _ _ _ => True
def fQgs_tape : List Int → zE → Int → zE → Prop := fun xs η y η' => y = (yv_tp (xs.getD 0 0) (xs.getD 1 0) (xs.getD 2 0) η).1 ∧ η' = (yv_tp (xs.getD 0 0) (xs.getD 1 0) (xs.getD 2 0) η).2
def pQgs_tape : List Int → zE → Int → zE → Prop := fun xs η y η' => oQgs_tape xs η y η' ∧ fQgs_tape xs η y η'
def pCgs_tape : Nat → List Int → zE → Prop := fun c => match c with
  | 0 => pPgs_within
  | 1 => pPgs_isGroove
  | 2 => pPgs_t_add
  | _ => fun _ _ => True
def qCgs_tape : Nat → List Int → zE → Int → zE → Prop := fun c => match c with
  | 0 => pQgs_within
  | 1 => pQgs_isGroove
  | 2 => pQgs_t_add
  | _ => fun _ _ _ _ => True
def iCgs_tape : List Int → zE → Nat → List Int → zE → Prop := fun xs η0 c => match c with
  | _ => fun _ _ => True
def zVgs_tape : List zIv := []
def zDgs_tape : List (List zK) := []
def zEgs_tape : List (List zK) := [[(nat_lit 13, nat_lit 0, [(nat_lit 1, (.ofNat (nat_lit 0))), (nat_lit 0, (.ofNat (nat_lit 1))), (nat_lit 0, (.ofNat (nat_lit 60)))])],
  [(nat_lit 11, nat_lit 0, [(nat_lit 0, (.negSucc (nat_lit 0)))]), (nat_lit 6, nat_lit 0, [(nat_lit 4, (.ofNat (nat_lit 0))), (nat_lit 0, (.ofNat (nat_lit 0)))]), (nat_lit 8, nat_lit 0, [(nat_lit 1, (.ofNat (nat_lit 0))), (nat_lit 0, (.ofNat (nat_lit 1))), (nat_lit 0, (.ofNat (nat_lit 60)))])],
  [(nat_lit 13, nat_lit 1, [(nat_lit 2, (.ofNat (nat_lit 0)))]), (nat_lit 6, nat_lit 1, [(nat_lit 4, (.ofNat (nat_lit 0))), (nat_lit 0, (.ofNat (nat_lit 0)))]), (nat_lit 8, nat_lit 0, [(nat_lit 1, (.ofNat (nat_lit 0))), (nat_lit 0, (.ofNat (nat_lit 1))), (nat_lit 0, (.ofNat (nat_lit 60)))])],
  [(nat_lit 13, nat_lit 2, [(nat_lit 1, (.ofNat (nat_lit 0))), (nat_lit 2, (.ofNat (nat_lit 0))), (nat_lit 3, (.ofNat (nat_lit 0))), (nat_lit 0, (.negSucc (nat_lit 0)))]), (nat_lit 6, nat_lit 1, [(nat_lit 5, (.ofNat (nat_lit 0))), (nat_lit 0, (.ofNat (nat_lit 0)))]), (nat_lit 8, nat_lit 1, [(nat_lit 2, (.ofNat (nat_lit 0)))]), (nat_lit 6, nat_lit 1, [(nat_lit 4, (.ofNat (nat_lit 0))), (nat_lit 0, (.ofNat (nat_lit 0)))]), (nat_lit 8, nat_lit 0, [(nat_lit 1, (.ofNat (nat_lit 0))), (nat_lit 0, (.ofNat (nat_lit 1))), (nat_lit 0, (.ofNat (nat_lit 60)))])],
  [(nat_lit 11, nat_lit 0, [(nat_lit 6, (.ofNat (nat_lit 0)))]), (nat_lit 8, nat_lit 2, [(nat_lit 1, (.ofNat (nat_lit 0))), (nat_lit 2, (.ofNat (nat_lit 0))), (nat_lit 3, (.ofNat (nat_lit 0))), (nat_lit 0, (.negSucc (nat_lit 0)))]), (nat_lit 6, nat_lit 1, [(nat_lit 5, (.ofNat (nat_lit 0))), (nat_lit 0, (.ofNat (nat_lit 0)))]), (nat_lit 8, nat_lit 1, [(nat_lit 2, (.ofNat (nat_lit 0)))]), (nat_lit 6, nat_lit 1, [(nat_lit 4, (.ofNat (nat_lit 0))), (nat_lit 0, (.ofNat (nat_lit 0)))]), (nat_lit 8, nat_lit 0, [(nat_lit 1, (.ofNat (nat_lit 0))), (nat_lit 0, (.ofNat (nat_lit 1))), (nat_lit 0, (.ofNat (nat_lit 60)))])],
  [(nat_lit 11, nat_lit 0, [(nat_lit 0, (.negSucc (nat_lit 0)))]), (nat_lit 6, nat_lit 0, [(nat_lit 5, (.ofNat (nat_lit 0))), (nat_lit 0, (.ofNat (nat_lit 0)))]), (nat_lit 8, nat_lit 1, [(nat_lit 2, (.ofNat (nat_lit 0)))]), (nat_lit 6, nat_lit 1, [(nat_lit 4, (.ofNat (nat_lit 0))), (nat_lit 0, (.ofNat (nat_lit 0)))]), (nat_lit 8, nat_lit 0, [(nat_lit 1, (.ofNat (nat_lit 0))), (nat_lit 0, (.ofNat (nat_lit 1))), (nat_lit 0, (.ofNat (nat_lit 60)))])]]
def zFgs_tape : List (List zK) := []
set_option maxHeartbeats 8000000 in
theorem zgs_tape_o0 {ro : Nat → List Int32} (x1 x2 x3 : Int) (η : zE) (hp : sP wl_gs zTr zPgs_tape [x1, x2, x3] η) (hpp : pPgs_tape [x1, x2, x3] η) : ∀ (x4 : Int) (η1 : zE), ((gC2 wl_gs [(nat_lit 0, zPgs_within, zOgs_within, zMgs_within), (nat_lit 1, zPgs_isGroove, zOgs_isGroove, zMgs_isGroove), (nat_lit 2, zPgs_t_add, zOgs_t_add, zMgs_t_add)] pCgs_tape qCgs_tape) 0).2 [x1, 1, 60] η x4 η1 → (x4 = 0) → (fun (_ : Nat) (y : Int) (η' : zE) => pQgs_tape [x1, x2, x3] η y η') 0 (-1) η1 := by
  intro x4 η1 h4 c1
  have y4 : fQgs_within [x1, 1, 60] η x4 η1 := h4.2.2
  have k4 : sQ wl_gs zTr zOgs_within zMgs_within [x1, 1, 60] η x4 η1 ∧ oQgs_within [x1, 1, 60] η x4 η1 := ⟨h4.1, h4.2.1⟩
  refine yj_a ?_ ?_
  · have y4 : fQgs_within [x1, 1, 60] η x4 η1 := h4.2.2
    have k4 : sQ wl_gs zTr zOgs_within zMgs_within [x1, 1, 60] η x4 η1 ∧ oQgs_within [x1, 1, 60] η x4 η1 := ⟨h4.1, h4.2.1⟩
    exact trivial
  · obtain ⟨a4, b4⟩ : x4 = (yq_in x1 1 60) ∧ η = η1 := ⟨y4.1, y4.2.symm⟩
    subst b4
    show (-1) = (yv_tp x1 x2 x3 η).1 ∧ η = (yv_tp x1 x2 x3 η).2
    simp only [yv_tp, ← a4]
    all_goals ((repeat' split) <;> first | (exfalso; omega) | exact ⟨rfl, rfl⟩ | exact ⟨rfl, trivial⟩ | rfl)
set_option maxHeartbeats 8000000 in
theorem zgs_tape_o1 {ro : Nat → List Int32} (x1 x2 x3 : Int) (η : zE) (hp : sP wl_gs zTr zPgs_tape [x1, x2, x3] η) (hpp : pPgs_tape [x1, x2, x3] η) : ∀ (x4 : Int) (η1 : zE), ((gC2 wl_gs [(nat_lit 0, zPgs_within, zOgs_within, zMgs_within), (nat_lit 1, zPgs_isGroove, zOgs_isGroove, zMgs_isGroove), (nat_lit 2, zPgs_t_add, zOgs_t_add, zMgs_t_add)] pCgs_tape qCgs_tape) 0).2 [x1, 1, 60] η x4 η1 → (¬ x4 = 0) → ((gC2 wl_gs [(nat_lit 0, zPgs_within, zOgs_within, zMgs_within), (nat_lit 1, zPgs_isGroove, zOgs_isGroove, zMgs_isGroove), (nat_lit 2, zPgs_t_add, zOgs_t_add, zMgs_t_add)] pCgs_tape qCgs_tape) 1).1 [x2] η1 := by
  intro x4 η1 h4 c1
  have y4 : fQgs_within [x1, 1, 60] η x4 η1 := h4.2.2
  have k4 : sQ wl_gs zTr zOgs_within zMgs_within [x1, 1, 60] η x4 η1 ∧ oQgs_within [x1, 1, 60] η x4 η1 := ⟨h4.1, h4.2.1⟩
  exact trivial
set_option maxHeartbeats 8000000 in
theorem zgs_tape_o2 {ro : Nat → List Int32} (x1 x2 x3 : Int) (η : zE) (hp : sP wl_gs zTr zPgs_tape [x1, x2, x3] η) (hpp : pPgs_tape [x1, x2, x3] η) : ∀ (x4 : Int) (η1 : zE), ((gC2 wl_gs [(nat_lit 0, zPgs_within, zOgs_within, zMgs_within), (nat_lit 1, zPgs_isGroove, zOgs_isGroove, zMgs_isGroove), (nat_lit 2, zPgs_t_add, zOgs_t_add, zMgs_t_add)] pCgs_tape qCgs_tape) 0).2 [x1, 1, 60] η x4 η1 → (¬ x4 = 0) → ∀ (x5 : Int) (η2 : zE), ((gC2 wl_gs [(nat_lit 0, zPgs_within, zOgs_within, zMgs_within), (nat_lit 1, zPgs_isGroove, zOgs_isGroove, zMgs_isGroove), (nat_lit 2, zPgs_t_add, zOgs_t_add, zMgs_t_add)] pCgs_tape qCgs_tape) 1).2 [x2] η1 x5 η2 → (¬ x5 = 0) → ((gC2 wl_gs [(nat_lit 0, zPgs_within, zOgs_within, zMgs_within), (nat_lit 1, zPgs_isGroove, zOgs_isGroove, zMgs_isGroove), (nat_lit 2, zPgs_t_add, zOgs_t_add, zMgs_t_add)] pCgs_tape qCgs_tape) 2).1 [x1, x2, x3, (-1)] η2 := by
  intro x4 η1 h4 c1 x5 η2 h5 c2
  have y4 : fQgs_within [x1, 1, 60] η x4 η1 := h4.2.2
  have k4 : sQ wl_gs zTr zOgs_within zMgs_within [x1, 1, 60] η x4 η1 ∧ oQgs_within [x1, 1, 60] η x4 η1 := ⟨h4.1, h4.2.1⟩
  have y5 : fQgs_isGroove [x2] η1 x5 η2 := h5.2.2
  have k5 : sQ wl_gs zTr zOgs_isGroove zMgs_isGroove [x2] η1 x5 η2 ∧ oQgs_isGroove [x2] η1 x5 η2 := ⟨h5.1, h5.2.1⟩
  exact trivial
set_option maxHeartbeats 8000000 in
theorem zgs_tape_o3 {ro : Nat → List Int32} (x1 x2 x3 : Int) (η : zE) (hp : sP wl_gs zTr zPgs_tape [x1, x2, x3] η) (hpp : pPgs_tape [x1, x2, x3] η) : ∀ (x4 : Int) (η1 : zE), ((gC2 wl_gs [(nat_lit 0, zPgs_within, zOgs_within, zMgs_within), (nat_lit 1, zPgs_isGroove, zOgs_isGroove, zMgs_isGroove), (nat_lit 2, zPgs_t_add, zOgs_t_add, zMgs_t_add)] pCgs_tape qCgs_tape) 0).2 [x1, 1, 60] η x4 η1 → (¬ x4 = 0) → ∀ (x5 : Int) (η2 : zE), ((gC2 wl_gs [(nat_lit 0, zPgs_within, zOgs_within, zMgs_within), (nat_lit 1, zPgs_isGroove, zOgs_isGroove, zMgs_isGroove), (nat_lit 2, zPgs_t_add, zOgs_t_add, zMgs_t_add)] pCgs_tape qCgs_tape) 1).2 [x2] η1 x5 η2 → (¬ x5 = 0) → ∀ (x6 : Int) (η3 : zE), ((gC2 wl_gs [(nat_lit 0, zPgs_within, zOgs_within, zMgs_within), (nat_lit 1, zPgs_isGroove, zOgs_isGroove, zMgs_isGroove), (nat_lit 2, zPgs_t_add, zOgs_t_add, zMgs_t_add)] pCgs_tape qCgs_tape) 2).2 [x1, x2, x3, (-1)] η2 x6 η3 → (fun (_ : Nat) (y : Int) (η' : zE) => pQgs_tape [x1, x2, x3] η y η') 0 x6 η3 := by
  intro x4 η1 h4 c1 x5 η2 h5 c2 x6 η3 h6
  have y4 : fQgs_within [x1, 1, 60] η x4 η1 := h4.2.2
  have k4 : sQ wl_gs zTr zOgs_within zMgs_within [x1, 1, 60] η x4 η1 ∧ oQgs_within [x1, 1, 60] η x4 η1 := ⟨h4.1, h4.2.1⟩
  have y5 : fQgs_isGroove [x2] η1 x5 η2 := h5.2.2
  have k5 : sQ wl_gs zTr zOgs_isGroove zMgs_isGroove [x2] η1 x5 η2 ∧ oQgs_isGroove [x2] η1 x5 η2 := ⟨h5.1, h5.2.1⟩
  have y6 : fQgs_t_add [x1, x2, x3, (-1)] η2 x6 η3 := h6.2.2
  have k6 : sQ wl_gs zTr zOgs_t_add zMgs_t_add [x1, x2, x3, (-1)] η2 x6 η3 ∧ oQgs_t_add [x1, x2, x3, (-1)] η2 x6 η3 := ⟨h6.1, h6.2.1⟩
  refine yj_a ?_ ?_
  · have y4 : fQgs_within [x1, 1, 60] η x4 η1 := h4.2.2
    have k4 : sQ wl_gs zTr zOgs_within zMgs_within [x1, 1, 60] η x4 η1 ∧ oQgs_within [x1, 1, 60] η x4 η1 := ⟨h4.1, h4.2.1⟩
    have y5 : fQgs_isGroove [x2] η1 x5 η2 := h5.2.2
    have k5 : sQ wl_gs zTr zOgs_isGroove zMgs_isGroove [x2] η1 x5 η2 ∧ oQgs_isGroove [x2] η1 x5 η2 := ⟨h5.1, h5.2.1⟩
    have y6 : fQgs_t_add [x1, x2, x3, (-1)] η2 x6 η3 := h6.2.2
    have k6 : sQ wl_gs zTr zOgs_t_add zMgs_t_add [x1, x2, x3, (-1)] η2 x6 η3 ∧ oQgs_t_add [x1, x2, x3, (-1)] η2 x6 η3 := ⟨h6.1, h6.2.1⟩
    exact trivial
  · obtain ⟨a4, b4⟩ : x4 = (yq_in x1 1 60) ∧ η = η1 := ⟨y4.1, y4.2.symm⟩
    subst b4
    obtain ⟨a5, b5⟩ : x5 = (yv_ig x2 η) ∧ η = η2 := ⟨y5.1, y5.2.symm⟩
    subst b5
    obtain ⟨a6, b6⟩ : x6 = (yv_ay η) ∧ η3 = (yv_ad x1 x2 x3 (-1) η) := y6
    show x6 = (yv_tp x1 x2 x3 η).1 ∧ η3 = (yv_tp x1 x2 x3 η).2
    simp only [yv_tp, ← a4, ← a5, ← a6, ← b6]
    all_goals ((repeat' split) <;> first | (exfalso; omega) | exact ⟨rfl, rfl⟩ | exact ⟨rfl, trivial⟩ | rfl)
set_option maxHeartbeats 8000000 in
theorem zgs_tape_o4 {ro : Nat → List Int32} (x1 x2 x3 : Int) (η : zE) (hp : sP wl_gs zTr zPgs_tape [x1, x2, x3] η) (hpp : pPgs_tape [x1, x2, x3] η) : ∀ (x4 : Int) (η1 : zE), ((gC2 wl_gs [(nat_lit 0, zPgs_within, zOgs_within, zMgs_within), (nat_lit 1, zPgs_isGroove, zOgs_isGroove, zMgs_isGroove), (nat_lit 2, zPgs_t_add, zOgs_t_add, zMgs_t_add)] pCgs_tape qCgs_tape) 0).2 [x1, 1, 60] η x4 η1 → (¬ x4 = 0) → ∀ (x5 : Int) (η2 : zE), ((gC2 wl_gs [(nat_lit 0, zPgs_within, zOgs_within, zMgs_within), (nat_lit 1, zPgs_isGroove, zOgs_isGroove, zMgs_isGroove), (nat_lit 2, zPgs_t_add, zOgs_t_add, zMgs_t_add)] pCgs_tape qCgs_tape) 1).2 [x2] η1 x5 η2 → (x5 = 0) → (fun (_ : Nat) (y : Int) (η' : zE) => pQgs_tape [x1, x2, x3] η y η') 0 (-1) η2 := by
  intro x4 η1 h4 c1 x5 η2 h5 c2
  have y4 : fQgs_within [x1, 1, 60] η x4 η1 := h4.2.2
  have k4 : sQ wl_gs zTr zOgs_within zMgs_within [x1, 1, 60] η x4 η1 ∧ oQgs_within [x1, 1, 60] η x4 η1 := ⟨h4.1, h4.2.1⟩
  have y5 : fQgs_isGroove [x2] η1 x5 η2 := h5.2.2
  have k5 : sQ wl_gs zTr zOgs_isGroove zMgs_isGroove [x2] η1 x5 η2 ∧ oQgs_isGroove [x2] η1 x5 η2 := ⟨h5.1, h5.2.1⟩
  refine yj_a ?_ ?_
  · have y4 : fQgs_within [x1, 1, 60] η x4 η1 := h4.2.2
    have k4 : sQ wl_gs zTr zOgs_within zMgs_within [x1, 1, 60] η x4 η1 ∧ oQgs_within [x1, 1, 60] η x4 η1 := ⟨h4.1, h4.2.1⟩
    have y5 : fQgs_isGroove [x2] η1 x5 η2 := h5.2.2
    have k5 : sQ wl_gs zTr zOgs_isGroove zMgs_isGroove [x2] η1 x5 η2 ∧ oQgs_isGroove [x2] η1 x5 η2 := ⟨h5.1, h5.2.1⟩
    exact trivial
  · obtain ⟨a4, b4⟩ : x4 = (yq_in x1 1 60) ∧ η = η1 := ⟨y4.1, y4.2.symm⟩
    subst b4
    obtain ⟨a5, b5⟩ : x5 = (yv_ig x2 η) ∧ η = η2 := ⟨y5.1, y5.2.symm⟩
    subst b5
    show (-1) = (yv_tp x1 x2 x3 η).1 ∧ η = (yv_tp x1 x2 x3 η).2
    simp only [yv_tp, ← a4, ← a5]
    all_goals ((repeat' split) <;> first | (exfalso; omega) | exact ⟨rfl, rfl⟩ | exact ⟨rfl, trivial⟩ | rfl)
set_option maxHeartbeats 8000000 in
theorem zgs_tape {ro : Nat → List Int32} : zMet pr_P pr_K pr_df ro (sm_X0 1 6) 1 104 tm_gs [(.inr (.inr (.inl (nat_lit 0)))), (.inl (nat_lit 1, (.ofNat (nat_lit 0)))), (.inl (nat_lit 2, (.ofNat (nat_lit 0)))), (.inl (nat_lit 3, (.ofNat (nat_lit 0))))] 1 [(nat_lit 0, nat_lit 0, nat_lit 1), (nat_lit 0, nat_lit 4, nat_lit 2), (nat_lit 0, nat_lit 5, nat_lit 32), (nat_lit 0, nat_lit 6, nat_lit 60), (nat_lit 0, nat_lit 7, nat_lit 70), (nat_lit 0, nat_lit 8, nat_lit 74), (nat_lit 0, nat_lit 11, nat_lit 78), (nat_lit 0, nat_lit 12, nat_lit 82), (nat_lit 0, nat_lit 13, nat_lit 90), (nat_lit 0, nat_lit 14, nat_lit 91), (nat_lit 0, nat_lit 15, nat_lit 95), (nat_lit 0, nat_lit 16, nat_lit 101), (nat_lit 2, nat_lit 8, nat_lit 3), (nat_lit 2, nat_lit 9, nat_lit 4), (nat_lit 2, nat_lit 10, nat_lit 5), (nat_lit 2, nat_lit 11, nat_lit 6), (nat_lit 2, nat_lit 12, nat_lit 11), (nat_lit 2, nat_lit 13, nat_lit 16), (nat_lit 2, nat_lit 14, nat_lit 17), (nat_lit 6, nat_lit 0, nat_lit 7), (nat_lit 11, nat_lit 0, nat_lit 12), (nat_lit 6, nat_lit 1, nat_lit 8), (nat_lit 11, nat_lit 1, nat_lit 13), (nat_lit 6, nat_lit 2, nat_lit 9), (nat_lit 11, nat_lit 2, nat_lit 14), (nat_lit 6, nat_lit 3, nat_lit 10), (nat_lit 11, nat_lit 3, nat_lit 15), (nat_lit 17, nat_lit 2, nat_lit 18), (nat_lit 17, nat_lit 3, nat_lit 19), (nat_lit 17, nat_lit 4, nat_lit 20), (nat_lit 17, nat_lit 5, nat_lit 21), (nat_lit 17, nat_lit 6, nat_lit 22), (nat_lit 32, nat_lit 8, nat_lit 33), (nat_lit 32, nat_lit 9, nat_lit 34), (nat_lit 32, nat_lit 10, nat_lit 35), (nat_lit 32, nat_lit 11, nat_lit 36), (nat_lit 32, nat_lit 12, nat_lit 41), (nat_lit 32, nat_lit 13, nat_lit 46), (nat_lit 32, nat_lit 14, nat_lit 47), (nat_lit 36, nat_lit 0, nat_lit 37), (nat_lit 41, nat_lit 0, nat_lit 42), (nat_lit 36, nat_lit 1, nat_lit 38), (nat_lit 41, nat_lit 1, nat_lit 43), (nat_lit 36, nat_lit 2, nat_lit 39), (nat_lit 41, nat_lit 2, nat_lit 44), (nat_lit 36, nat_lit 3, nat_lit 40), (nat_lit 41, nat_lit 3, nat_lit 45), (nat_lit 47, nat_lit 2, nat_lit 48), (nat_lit 47, nat_lit 3, nat_lit 49), (nat_lit 47, nat_lit 4, nat_lit 50), (nat_lit 47, nat_lit 5, nat_lit 51), (nat_lit 47, nat_lit 6, nat_lit 52), (nat_lit 60, nat_lit 3, nat_lit 1), (nat_lit 60, nat_lit 9, nat_lit 61), (nat_lit 60, nat_lit 10, nat_lit 62), (nat_lit 60, nat_lit 11, nat_lit 63), (nat_lit 70, nat_lit 8, nat_lit 71), (nat_lit 70, nat_lit 9, nat_lit 72), (nat_lit 70, nat_lit 10, nat_lit 73), (nat_lit 74, nat_lit 8, nat_lit 75), (nat_lit 74, nat_lit 9, nat_lit 76), (nat_lit 74, nat_lit 10, nat_lit 77), (nat_lit 78, nat_lit 8, nat_lit 79), (nat_lit 78, nat_lit 9, nat_lit 80), (nat_lit 78, nat_lit 10, nat_lit 81), (nat_lit 82, nat_lit 8, nat_lit 83), (nat_lit 82, nat_lit 9, nat_lit 84), (nat_lit 82, nat_lit 10, nat_lit 85), (nat_lit 91, nat_lit 1, nat_lit 92), (nat_lit 91, nat_lit 2, nat_lit 93), (nat_lit 91, nat_lit 3, nat_lit 94), (nat_lit 95, nat_lit 2, nat_lit 96), (nat_lit 95, nat_lit 3, nat_lit 97), (nat_lit 95, nat_lit 4, nat_lit 98), (nat_lit 95, nat_lit 5, nat_lit 99), (nat_lit 95, nat_lit 6, nat_lit 100)] [] (fun xs η => sP wl_gs zTr zPgs_tape xs η ∧ pPgs_tape xs η) (fun xs η y η' => sQ wl_gs zTr zOgs_tape zMgs_tape xs η y η' ∧ pQgs_tape xs η y η') :=
  zmet_alt (zmea_gen (mi := (nat_lit 3, nat_lit 1, nat_lit 7, nat_lit 4, nat_lit 1, tX7_tape)) (cd := [(nat_lit 75, nat_lit 0, nat_lit 0, [(.inl (nat_lit 1, (.ofNat (nat_lit 0)))), (.inl (nat_lit 2, (.ofNat (nat_lit 0)))), (.inl (nat_lit 3, (.ofNat (nat_lit 0))))], nat_lit 2, [], []), (nat_lit 72, nat_lit 1, nat_lit 0, [(.inr (.inr (.inl (nat_lit 0)))), (.inl (nat_lit 1, (.ofNat (nat_lit 0))))], nat_lit 2, [(nat_lit 0, nat_lit 0, nat_lit 1), (nat_lit 0, nat_lit 4, nat_lit 2), (nat_lit 0, nat_lit 5, nat_lit 32), (nat_lit 0, nat_lit 6, nat_lit 60), (nat_lit 0, nat_lit 7, nat_lit 70), (nat_lit 0, nat_lit 8, nat_lit 74), (nat_lit 0, nat_lit 11, nat_lit 78), (nat_lit 0, nat_lit 12, nat_lit 82), (nat_lit 0, nat_lit 13, nat_lit 90), (nat_lit 0, nat_lit 14, nat_lit 91), (nat_lit 0, nat_lit 15, nat_lit 95), (nat_lit 0, nat_lit 16, nat_lit 101), (nat_lit 2, nat_lit 8, nat_lit 3), (nat_lit 2, nat_lit 9, nat_lit 4), (nat_lit 2, nat_lit 10, nat_lit 5), (nat_lit 2, nat_lit 11, nat_lit 6), (nat_lit 2, nat_lit 12, nat_lit 11), (nat_lit 2, nat_lit 13, nat_lit 16), (nat_lit 2, nat_lit 14, nat_lit 17), (nat_lit 6, nat_lit 0, nat_lit 7), (nat_lit 11, nat_lit 0, nat_lit 12), (nat_lit 6, nat_lit 1, nat_lit 8), (nat_lit 11, nat_lit 1, nat_lit 13), (nat_lit 6, nat_lit 2, nat_lit 9), (nat_lit 11, nat_lit 2, nat_lit 14), (nat_lit 6, nat_lit 3, nat_lit 10), (nat_lit 11, nat_lit 3, nat_lit 15), (nat_lit 17, nat_lit 2, nat_lit 18), (nat_lit 17, nat_lit 3, nat_lit 19), (nat_lit 17, nat_lit 4, nat_lit 20), (nat_lit 17, nat_lit 5, nat_lit 21), (nat_lit 17, nat_lit 6, nat_lit 22), (nat_lit 32, nat_lit 8, nat_lit 33), (nat_lit 32, nat_lit 9, nat_lit 34), (nat_lit 32, nat_lit 10, nat_lit 35), (nat_lit 32, nat_lit 11, nat_lit 36), (nat_lit 32, nat_lit 12, nat_lit 41), (nat_lit 32, nat_lit 13, nat_lit 46), (nat_lit 32, nat_lit 14, nat_lit 47), (nat_lit 36, nat_lit 0, nat_lit 37), (nat_lit 41, nat_lit 0, nat_lit 42), (nat_lit 36, nat_lit 1, nat_lit 38), (nat_lit 41, nat_lit 1, nat_lit 43), (nat_lit 36, nat_lit 2, nat_lit 39), (nat_lit 41, nat_lit 2, nat_lit 44), (nat_lit 36, nat_lit 3, nat_lit 40), (nat_lit 41, nat_lit 3, nat_lit 45), (nat_lit 47, nat_lit 2, nat_lit 48), (nat_lit 47, nat_lit 3, nat_lit 49), (nat_lit 47, nat_lit 4, nat_lit 50), (nat_lit 47, nat_lit 5, nat_lit 51), (nat_lit 47, nat_lit 6, nat_lit 52), (nat_lit 60, nat_lit 3, nat_lit 1), (nat_lit 60, nat_lit 9, nat_lit 61), (nat_lit 60, nat_lit 10, nat_lit 62), (nat_lit 60, nat_lit 11, nat_lit 63), (nat_lit 70, nat_lit 8, nat_lit 71), (nat_lit 70, nat_lit 9, nat_lit 72), (nat_lit 70, nat_lit 10, nat_lit 73), (nat_lit 74, nat_lit 8, nat_lit 75), (nat_lit 74, nat_lit 9, nat_lit 76), (nat_lit 74, nat_lit 10, nat_lit 77), (nat_lit 78, nat_lit 8, nat_lit 79), (nat_lit 78, nat_lit 9, nat_lit 80), (nat_lit 78, nat_lit 10, nat_lit 81), (nat_lit 82, nat_lit 8, nat_lit 83), (nat_lit 82, nat_lit 9, nat_lit 84), (nat_lit 82, nat_lit 10, nat_lit 85), (nat_lit 91, nat_lit 1, nat_lit 92), (nat_lit 91, nat_lit 2, nat_lit 93), (nat_lit 91, nat_lit 3, nat_lit 94), (nat_lit 95, nat_lit 2, nat_lit 96), (nat_lit 95, nat_lit 3, nat_lit 97), (nat_lit 95, nat_lit 4, nat_lit 98), (nat_lit 95, nat_lit 5, nat_lit 99), (nat_lit 95, nat_lit 6, nat_lit 100)], []), (nat_lit 59, nat_lit 2, nat_lit 0, [(.inr (.inr (.inl (nat_lit 95)))), (.inl (nat_lit 1, (.ofNat (nat_lit 0)))), (.inl (nat_lit 2, (.ofNat (nat_lit 0)))), (.inl (nat_lit 3, (.ofNat (nat_lit 0)))), (.inl (nat_lit 4, (.ofNat (nat_lit 0))))], nat_lit 1, [(nat_lit 95, nat_lit 2, nat_lit 96), (nat_lit 95, nat_lit 3, nat_lit 97), (nat_lit 95, nat_lit 4, nat_lit 98), (nat_lit 95, nat_lit 5, nat_lit 99), (nat_lit 95, nat_lit 6, nat_lit 100)], [])]) (cu := []) (cs := [(nat_lit 0, zPgs_within, zOgs_within, zMgs_within), (nat_lit 1, zPgs_isGroove, zOgs_isGroove, zMgs_isGroove), (nat_lit 2, zPgs_t_add, zOgs_t_add, zMgs_t_add)]) (iv := zVgs_tape) (po := [zOgs_tape]) (pr := zPgs_tape) (mods := zMgs_tape) (D7 := zDgs_tape) (D0 := zEgs_tape) (Dm := zFgs_tape) (f0 := 21) pCgs_tape qCgs_tape iCgs_tape pPgs_tape (fun xs η _ y η' => pQgs_tape xs η y η') zX_low pr_mtR rfl (List.forall_mem_cons.mpr ⟨zgs_within, List.forall_mem_cons.mpr ⟨zgs_isGroove, List.forall_mem_cons.mpr ⟨zgs_t_add, fun _ h => nomatch h⟩⟩⟩) (by decide +kernel) (by decide +kernel) (by decide +kernel)
    (by
      intro xs η hr hl hp hpp
      match xs, hl, hp, hpp with
      | [x1, x2, x3], _, hp, hpp =>
        refine List.forall_mem_cons.mpr ⟨?_, List.forall_mem_cons.mpr ⟨?_, List.forall_mem_cons.mpr ⟨?_, List.forall_mem_cons.mpr ⟨?_, List.forall_mem_cons.mpr ⟨?_, List.forall_mem_cons.mpr ⟨?_, fun _ h => nomatch h⟩⟩⟩⟩⟩⟩
        · refine zden_L (n := 4) (ρ := [x3, x2, x1, 0]) rfl ?_
          show ((gC2 wl_gs [(nat_lit 0, zPgs_within, zOgs_within, zMgs_within), (nat_lit 1, zPgs_isGroove, zOgs_isGroove, zMgs_isGroove), (nat_lit 2, zPgs_t_add, zOgs_t_add, zMgs_t_add)] pCgs_tape qCgs_tape) 0).1 [x1, 1, 60] η
          
          exact trivial
        · refine zden_L (n := 4) (ρ := [x3, x2, x1, 0]) rfl ?_
          exact zgs_tape_o0 (ro := ro) x1 x2 x3 η hp hpp
        · refine zden_L (n := 4) (ρ := [x3, x2, x1, 0]) rfl ?_
          exact zgs_tape_o1 (ro := ro) x1 x2 x3 η hp hpp
        · refine zden_L (n := 4) (ρ := [x3, x2, x1, 0]) rfl ?_
          exact zgs_tape_o2 (ro := ro) x1 x2 x3 η hp hpp
        · refine zden_L (n := 4) (ρ := [x3, x2, x1, 0]) rfl ?_
          exact zgs_tape_o3 (ro := ro) x1 x2 x3 η hp hpp
        · refine zden_L (n := 4) (ρ := [x3, x2, x1, 0]) rfl ?_
          exact zgs_tape_o4 (ro := ro) x1 x2 x3 η hp hpp
      )
    (fun _ _ _ _ _ _ _ h => nomatch h)
    (fun _ h => nomatch h))
def zPgs_strike : zPq := ([((.negSucc (nat_lit 2147483647)), (.ofNat (nat_lit 2147483647)))], [])
def zOgs_strike : zPo := (((.negSucc (nat_lit 2147483647)), (.ofNat (nat_lit 2147483647))), [], [])
def zMgs_strike : List zCe := [(nat_lit 95, nat_lit 0), (nat_lit 96, nat_lit 0), (nat_lit 97, nat_lit 0), (nat_lit 98, nat_lit 0), (nat_lit 99, nat_lit 0)]
def pPgs_strike : List Int → zE → Prop := fun _ _ => True
def oQgs_strike : List Int → zE → Int → zE → Prop := fun _ _ _ _ => True
def fQgs_strike : List Int → zE → Int → zE → Prop := fun xs η y η' => y = (yv_sk (xs.getD 0 0) η).1 ∧ η' = (yv_sk (xs.getD 0 0) η).2
def pQgs_strike : List Int → zE → Int → zE → Prop := fun xs η y η' => oQgs_strike xs η y η' ∧ fQgs_strike xs η y η'
def pCgs_strike : Nat → List Int → zE → Prop := fun c => match c with
  | 0 => pPgs_t_add
  | _ => fun _ _ => True
def qCgs_strike : Nat → List Int → zE → Int → zE → Prop := fun c => match c with
  | 0 => pQgs_t_add
  | _ => fun _ _ _ _ => True
def iCgs_strike : List Int → zE → Nat → List Int → zE → Prop := fun xs η0 c => match c with
  | _ => fun _ _ => True
def zVgs_strike : List zIv := []
def zDgs_strike : List (List zK) := []
def zEgs_strike : List (List zK) := [[(nat_lit 11, nat_lit 0, [(nat_lit 0, (.negSucc (nat_lit 0)))]), (nat_lit 6, nat_lit 2, [(nat_lit 1, (.ofNat (nat_lit 0))), (nat_lit 0, (.ofNat (nat_lit 0)))])],
  [(nat_lit 13, nat_lit 0, [(nat_lit 0, (.ofNat (nat_lit 0))), (nat_lit 0, (.negSucc (nat_lit 0))), (nat_lit 0, (.ofNat (nat_lit 0))), (nat_lit 1, (.ofNat (nat_lit 0)))]), (nat_lit 6, nat_lit 2, [(nat_lit 1, (.ofNat (nat_lit 0))), (nat_lit 2, (.ofNat (nat_lit 0)))]), (nat_lit 4, nat_lit 0, [(nat_lit 95, (.ofNat (nat_lit 0))), (nat_lit 0, (.ofNat (nat_lit 0)))]), (nat_lit 6, nat_lit 3, [(nat_lit 1, (.ofNat (nat_lit 0))), (nat_lit 0, (.ofNat (nat_lit 0)))])],
  [(nat_lit 11, nat_lit 0, [(nat_lit 3, (.ofNat (nat_lit 0)))]), (nat_lit 8, nat_lit 0, [(nat_lit 0, (.ofNat (nat_lit 0))), (nat_lit 0, (.negSucc (nat_lit 0))), (nat_lit 0, (.ofNat (nat_lit 0))), (nat_lit 1, (.ofNat (nat_lit 0)))]), (nat_lit 6, nat_lit 2, [(nat_lit 1, (.ofNat (nat_lit 0))), (nat_lit 2, (.ofNat (nat_lit 0)))]), (nat_lit 4, nat_lit 0, [(nat_lit 95, (.ofNat (nat_lit 0))), (nat_lit 0, (.ofNat (nat_lit 0)))]), (nat_lit 6, nat_lit 3, [(nat_lit 1, (.ofNat (nat_lit 0))), (nat_lit 0, (.ofNat (nat_lit 0)))])],
  [(nat_lit 11, nat_lit 0, [(nat_lit 0, (.negSucc (nat_lit 0)))]), (nat_lit 6, nat_lit 3, [(nat_lit 1, (.ofNat (nat_lit 0))), (nat_lit 2, (.ofNat (nat_lit 0)))]), (nat_lit 4, nat_lit 0, [(nat_lit 95, (.ofNat (nat_lit 0))), (nat_lit 0, (.ofNat (nat_lit 0)))]), (nat_lit 6, nat_lit 3, [(nat_lit 1, (.ofNat (nat_lit 0))), (nat_lit 0, (.ofNat (nat_lit 0)))])]]
def zFgs_strike : List (List zK) := []
set_option maxHeartbeats 8000000 in
theorem zgs_strike_o0 {ro : Nat → List Int32} (x1 : Int) (η : zE) (hp : sP wl_gs zTr zPgs_strike [x1] η) (hpp : pPgs_strike [x1] η) : (x1 < 0) → (fun (_ : Nat) (y : Int) (η' : zE) => pQgs_strike [x1] η y η') 0 (-1) η := by
  intro c1
  refine yj_a ?_ ?_
  · exact trivial
  · show (-1) = (yv_sk x1 η).1 ∧ η = (yv_sk x1 η).2
    simp only [yv_sk]
    all_goals ((repeat' split) <;> first | (exfalso; omega) | exact ⟨rfl, rfl⟩ | exact ⟨rfl, trivial⟩ | rfl)
set_option maxHeartbeats 8000000 in
theorem zgs_strike_o1 {ro : Nat → List Int32} (x1 : Int) (η : zE) (hp : sP wl_gs zTr zPgs_strike [x1] η) (hpp : pPgs_strike [x1] η) : (0 ≤ x1) → ∀ x2 : Int, x2 = η 95 (Int.toNat 0) → zok 0 x2 → (x1 < x2) → ∀ (x3 : Int) (η1 : zE), ((gC2 wl_gs [(nat_lit 0, zPgs_t_add, zOgs_t_add, zMgs_t_add)] pCgs_strike qCgs_strike) 0).2 [0, (-1), 0, x1] η x3 η1 → (fun (_ : Nat) (y : Int) (η' : zE) => pQgs_strike [x1] η y η') 0 x3 η1 := by
  intro c1 x2 e2 r2 c2 x3 η1 h3
  have y3 : fQgs_t_add [0, (-1), 0, x1] η x3 η1 := h3.2.2
  have k3 : sQ wl_gs zTr zOgs_t_add zMgs_t_add [0, (-1), 0, x1] η x3 η1 ∧ oQgs_t_add [0, (-1), 0, x1] η x3 η1 := ⟨h3.1, h3.2.1⟩
  refine yj_a ?_ ?_
  · have y3 : fQgs_t_add [0, (-1), 0, x1] η x3 η1 := h3.2.2
    have k3 : sQ wl_gs zTr zOgs_t_add zMgs_t_add [0, (-1), 0, x1] η x3 η1 ∧ oQgs_t_add [0, (-1), 0, x1] η x3 η1 := ⟨h3.1, h3.2.1⟩
    exact trivial
  · have e2 : x2 = η 95 0 := e2
    obtain ⟨a3, b3⟩ : x3 = (yv_ay η) ∧ η1 = (yv_ad 0 (-1) 0 x1 η) := y3
    show x3 = (yv_sk x1 η).1 ∧ η1 = (yv_sk x1 η).2
    simp only [yv_sk, ← e2, ← a3, ← b3]
    all_goals ((repeat' split) <;> first | (exfalso; omega) | exact ⟨rfl, rfl⟩ | exact ⟨rfl, trivial⟩ | rfl)
set_option maxHeartbeats 8000000 in
theorem zgs_strike_o2 {ro : Nat → List Int32} (x1 : Int) (η : zE) (hp : sP wl_gs zTr zPgs_strike [x1] η) (hpp : pPgs_strike [x1] η) : (0 ≤ x1) → ∀ x2 : Int, x2 = η 95 (Int.toNat 0) → zok 0 x2 → (x2 ≤ x1) → (fun (_ : Nat) (y : Int) (η' : zE) => pQgs_strike [x1] η y η') 0 (-1) η := by
  intro c1 x2 e2 r2 c2
  refine yj_a ?_ ?_
  · exact trivial
  · have e2 : x2 = η 95 0 := e2
    show (-1) = (yv_sk x1 η).1 ∧ η = (yv_sk x1 η).2
    simp only [yv_sk, ← e2]
    all_goals ((repeat' split) <;> first | (exfalso; omega) | exact ⟨rfl, rfl⟩ | exact ⟨rfl, trivial⟩ | rfl)
set_option maxHeartbeats 8000000 in
theorem zgs_strike {ro : Nat → List Int32} : zMet pr_P pr_K pr_df ro (sm_X0 1 6) 1 105 tm_gs [(.inr (.inr (.inl (nat_lit 0)))), (.inl (nat_lit 1, (.ofNat (nat_lit 0))))] 1 [(nat_lit 0, nat_lit 0, nat_lit 1), (nat_lit 0, nat_lit 4, nat_lit 2), (nat_lit 0, nat_lit 5, nat_lit 32), (nat_lit 0, nat_lit 6, nat_lit 60), (nat_lit 0, nat_lit 7, nat_lit 70), (nat_lit 0, nat_lit 8, nat_lit 74), (nat_lit 0, nat_lit 11, nat_lit 78), (nat_lit 0, nat_lit 12, nat_lit 82), (nat_lit 0, nat_lit 13, nat_lit 90), (nat_lit 0, nat_lit 14, nat_lit 91), (nat_lit 0, nat_lit 15, nat_lit 95), (nat_lit 0, nat_lit 16, nat_lit 101), (nat_lit 2, nat_lit 8, nat_lit 3), (nat_lit 2, nat_lit 9, nat_lit 4), (nat_lit 2, nat_lit 10, nat_lit 5), (nat_lit 2, nat_lit 11, nat_lit 6), (nat_lit 2, nat_lit 12, nat_lit 11), (nat_lit 2, nat_lit 13, nat_lit 16), (nat_lit 2, nat_lit 14, nat_lit 17), (nat_lit 6, nat_lit 0, nat_lit 7), (nat_lit 11, nat_lit 0, nat_lit 12), (nat_lit 6, nat_lit 1, nat_lit 8), (nat_lit 11, nat_lit 1, nat_lit 13), (nat_lit 6, nat_lit 2, nat_lit 9), (nat_lit 11, nat_lit 2, nat_lit 14), (nat_lit 6, nat_lit 3, nat_lit 10), (nat_lit 11, nat_lit 3, nat_lit 15), (nat_lit 17, nat_lit 2, nat_lit 18), (nat_lit 17, nat_lit 3, nat_lit 19), (nat_lit 17, nat_lit 4, nat_lit 20), (nat_lit 17, nat_lit 5, nat_lit 21), (nat_lit 17, nat_lit 6, nat_lit 22), (nat_lit 32, nat_lit 8, nat_lit 33), (nat_lit 32, nat_lit 9, nat_lit 34), (nat_lit 32, nat_lit 10, nat_lit 35), (nat_lit 32, nat_lit 11, nat_lit 36), (nat_lit 32, nat_lit 12, nat_lit 41), (nat_lit 32, nat_lit 13, nat_lit 46), (nat_lit 32, nat_lit 14, nat_lit 47), (nat_lit 36, nat_lit 0, nat_lit 37), (nat_lit 41, nat_lit 0, nat_lit 42), (nat_lit 36, nat_lit 1, nat_lit 38), (nat_lit 41, nat_lit 1, nat_lit 43), (nat_lit 36, nat_lit 2, nat_lit 39), (nat_lit 41, nat_lit 2, nat_lit 44), (nat_lit 36, nat_lit 3, nat_lit 40), (nat_lit 41, nat_lit 3, nat_lit 45), (nat_lit 47, nat_lit 2, nat_lit 48), (nat_lit 47, nat_lit 3, nat_lit 49), (nat_lit 47, nat_lit 4, nat_lit 50), (nat_lit 47, nat_lit 5, nat_lit 51), (nat_lit 47, nat_lit 6, nat_lit 52), (nat_lit 60, nat_lit 3, nat_lit 1), (nat_lit 60, nat_lit 9, nat_lit 61), (nat_lit 60, nat_lit 10, nat_lit 62), (nat_lit 60, nat_lit 11, nat_lit 63), (nat_lit 70, nat_lit 8, nat_lit 71), (nat_lit 70, nat_lit 9, nat_lit 72), (nat_lit 70, nat_lit 10, nat_lit 73), (nat_lit 74, nat_lit 8, nat_lit 75), (nat_lit 74, nat_lit 9, nat_lit 76), (nat_lit 74, nat_lit 10, nat_lit 77), (nat_lit 78, nat_lit 8, nat_lit 79), (nat_lit 78, nat_lit 9, nat_lit 80), (nat_lit 78, nat_lit 10, nat_lit 81), (nat_lit 82, nat_lit 8, nat_lit 83), (nat_lit 82, nat_lit 9, nat_lit 84), (nat_lit 82, nat_lit 10, nat_lit 85), (nat_lit 91, nat_lit 1, nat_lit 92), (nat_lit 91, nat_lit 2, nat_lit 93), (nat_lit 91, nat_lit 3, nat_lit 94), (nat_lit 95, nat_lit 2, nat_lit 96), (nat_lit 95, nat_lit 3, nat_lit 97), (nat_lit 95, nat_lit 4, nat_lit 98), (nat_lit 95, nat_lit 5, nat_lit 99), (nat_lit 95, nat_lit 6, nat_lit 100)] [] (fun xs η => sP wl_gs zTr zPgs_strike xs η ∧ pPgs_strike xs η) (fun xs η y η' => sQ wl_gs zTr zOgs_strike zMgs_strike xs η y η' ∧ pQgs_strike xs η y η') :=
  zmet_alt (zmea_gen (mi := (nat_lit 1, nat_lit 1, nat_lit 7, nat_lit 2, nat_lit 1, tX7_strike)) (cd := [(nat_lit 59, nat_lit 0, nat_lit 0, [(.inr (.inr (.inl (nat_lit 95)))), (.inl (nat_lit 1, (.ofNat (nat_lit 0)))), (.inl (nat_lit 2, (.ofNat (nat_lit 0)))), (.inl (nat_lit 3, (.ofNat (nat_lit 0)))), (.inl (nat_lit 4, (.ofNat (nat_lit 0))))], nat_lit 1, [(nat_lit 95, nat_lit 2, nat_lit 96), (nat_lit 95, nat_lit 3, nat_lit 97), (nat_lit 95, nat_lit 4, nat_lit 98), (nat_lit 95, nat_lit 5, nat_lit 99), (nat_lit 95, nat_lit 6, nat_lit 100)], [])]) (cu := []) (cs := [(nat_lit 0, zPgs_t_add, zOgs_t_add, zMgs_t_add)]) (iv := zVgs_strike) (po := [zOgs_strike]) (pr := zPgs_strike) (mods := zMgs_strike) (D7 := zDgs_strike) (D0 := zEgs_strike) (Dm := zFgs_strike) (f0 := 19) pCgs_strike qCgs_strike iCgs_strike pPgs_strike (fun xs η _ y η' => pQgs_strike xs η y η') zX_low pr_mtR rfl (List.forall_mem_cons.mpr ⟨zgs_t_add, fun _ h => nomatch h⟩) (by decide +kernel) (by decide +kernel) (by decide +kernel)
    (by
      intro xs η hr hl hp hpp
      match xs, hl, hp, hpp with
      | [x1], _, hp, hpp =>
        refine List.forall_mem_cons.mpr ⟨?_, List.forall_mem_cons.mpr ⟨?_, List.forall_mem_cons.mpr ⟨?_, List.forall_mem_cons.mpr ⟨?_, fun _ h => nomatch h⟩⟩⟩⟩
        · refine zden_L (n := 2) (ρ := [x1, 0]) rfl ?_
          exact zgs_strike_o0 (ro := ro) x1 η hp hpp
        · refine zden_L (n := 2) (ρ := [x1, 0]) rfl ?_
          show (0 ≤ x1) → ∀ x2 : Int, x2 = η 95 (Int.toNat 0) → zok 0 x2 → (x1 < x2) → ((gC2 wl_gs [(nat_lit 0, zPgs_t_add, zOgs_t_add, zMgs_t_add)] pCgs_strike qCgs_strike) 0).1 [0, (-1), 0, x1] η
          intro c1 x2 e2 r2 c2
          exact trivial
        · refine zden_L (n := 2) (ρ := [x1, 0]) rfl ?_
          exact zgs_strike_o1 (ro := ro) x1 η hp hpp
        · refine zden_L (n := 2) (ρ := [x1, 0]) rfl ?_
          exact zgs_strike_o2 (ro := ro) x1 η hp hpp
      )
    (fun _ _ _ _ _ _ _ h => nomatch h)
    (fun _ h => nomatch h))
def zPgs_known : zPq := ([((.negSucc (nat_lit 2147483647)), (.ofNat (nat_lit 2147483647)))], [])
def zOgs_known : zPo := (((.ofNat (nat_lit 0)), (.ofNat (nat_lit 1))), [], [])
def zMgs_known : List zCe := [(nat_lit 95, nat_lit 2)]
def pPgs_known : List Int → zE → Prop := fun _ _ => True
def oQgs_known : List Int → zE → Int → zE → Prop := fun _ _ _ _ => True
def fQgs_known : List Int → zE → Int → zE → Prop := fun xs η y η' => y = (yv_kn (xs.getD 0 0) η).1 ∧ η' = (yv_kn (xs.getD 0 0) η).2
def pQgs_known : List Int → zE → Int → zE → Prop := fun xs η y η' => oQgs_known xs η y η' ∧ fQgs_known xs η y η'
def pCgs_known : Nat → List Int → zE → Prop := fun c => match c with
  | 0 => pPgs_within
  | _ => fun _ _ => True
def qCgs_known : Nat → List Int → zE → Int → zE → Prop := fun c => match c with
  | 0 => pQgs_within
  | _ => fun _ _ _ _ => True
def iCgs_known : List Int → zE → Nat → List Int → zE → Prop := fun xs η0 c => match c with
  | _ => fun _ _ => True
def zVgs_known : List zIv := []
def zDgs_known : List (List zK) := [[(nat_lit 7, nat_lit 2, [(nat_lit 0, (.ofNat (nat_lit 1)))]), (nat_lit 5, nat_lit 0, [(nat_lit 95, (.ofNat (nat_lit 0))), (nat_lit 0, (.ofNat (nat_lit 1))), (nat_lit 1, (.ofNat (nat_lit 0)))]), (nat_lit 6, nat_lit 1, [(nat_lit 3, (.ofNat (nat_lit 0))), (nat_lit 0, (.ofNat (nat_lit 0)))]), (nat_lit 8, nat_lit 0, [(nat_lit 1, (.ofNat (nat_lit 0))), (nat_lit 0, (.negSucc (nat_lit 0))), (nat_lit 2, (.ofNat (nat_lit 0)))]), (nat_lit 4, nat_lit 0, [(nat_lit 95, (.ofNat (nat_lit 0))), (nat_lit 0, (.ofNat (nat_lit 0)))])],
  [(nat_lit 7, nat_lit 2, [(nat_lit 0, (.ofNat (nat_lit 0)))]), (nat_lit 6, nat_lit 0, [(nat_lit 3, (.ofNat (nat_lit 0))), (nat_lit 0, (.ofNat (nat_lit 0)))]), (nat_lit 8, nat_lit 0, [(nat_lit 1, (.ofNat (nat_lit 0))), (nat_lit 0, (.negSucc (nat_lit 0))), (nat_lit 2, (.ofNat (nat_lit 0)))]), (nat_lit 4, nat_lit 0, [(nat_lit 95, (.ofNat (nat_lit 0))), (nat_lit 0, (.ofNat (nat_lit 0)))])]]
def zEgs_known : List (List zK) := [[(nat_lit 13, nat_lit 0, [(nat_lit 1, (.ofNat (nat_lit 0))), (nat_lit 0, (.negSucc (nat_lit 0))), (nat_lit 2, (.ofNat (nat_lit 0)))]), (nat_lit 4, nat_lit 0, [(nat_lit 95, (.ofNat (nat_lit 0))), (nat_lit 0, (.ofNat (nat_lit 0)))])],
  [(nat_lit 11, nat_lit 0, [(nat_lit 0, (.ofNat (nat_lit 1)))]), (nat_lit 5, nat_lit 0, [(nat_lit 95, (.ofNat (nat_lit 0))), (nat_lit 0, (.ofNat (nat_lit 1))), (nat_lit 1, (.ofNat (nat_lit 0)))]), (nat_lit 6, nat_lit 1, [(nat_lit 3, (.ofNat (nat_lit 0))), (nat_lit 0, (.ofNat (nat_lit 0)))]), (nat_lit 8, nat_lit 0, [(nat_lit 1, (.ofNat (nat_lit 0))), (nat_lit 0, (.negSucc (nat_lit 0))), (nat_lit 2, (.ofNat (nat_lit 0)))]), (nat_lit 4, nat_lit 0, [(nat_lit 95, (.ofNat (nat_lit 0))), (nat_lit 0, (.ofNat (nat_lit 0)))])],
  [(nat_lit 11, nat_lit 0, [(nat_lit 0, (.ofNat (nat_lit 0)))]), (nat_lit 6, nat_lit 0, [(nat_lit 3, (.ofNat (nat_lit 0))), (nat_lit 0, (.ofNat (nat_lit 0)))]), (nat_lit 8, nat_lit 0, [(nat_lit 1, (.ofNat (nat_lit 0))), (nat_lit 0, (.negSucc (nat_lit 0))), (nat_lit 2, (.ofNat (nat_lit 0)))]), (nat_lit 4, nat_lit 0, [(nat_lit 95, (.ofNat (nat_lit 0))), (nat_lit 0, (.ofNat (nat_lit 0)))])]]
def zFgs_known : List (List zK) := []
set_option maxHeartbeats 8000000 in
theorem zgs_known_o0 {ro : Nat → List Int32} (x1 : Int) (η : zE) (hp : sP wl_gs zTr zPgs_known [x1] η) (hpp : pPgs_known [x1] η) : ∀ x2 : Int, x2 = η 95 (Int.toNat 0) → zok 0 x2 → ∀ (x3 : Int) (η1 : zE), ((gC2 wl_gs [(nat_lit 0, zPgs_within, zOgs_within, zMgs_within)] pCgs_known qCgs_known) 0).2 [x1, (-1), x2] η x3 η1 → (¬ x3 = 0) → ∀ η2 : zE, η2 = zup η1 95 (Int.toNat 1) x1 → (fun (_ : Nat) (y : Int) (η' : zE) => pQgs_known [x1] η y η') 0 1 η2 := by
  intro x2 e2 r2 x3 η1 h3 c1 η2 eη2
  have y3 : fQgs_within [x1, (-1), x2] η x3 η1 := h3.2.2
  have k3 : sQ wl_gs zTr zOgs_within zMgs_within [x1, (-1), x2] η x3 η1 ∧ oQgs_within [x1, (-1), x2] η x3 η1 := ⟨h3.1, h3.2.1⟩
  refine yj_a ?_ ?_
  · have y3 : fQgs_within [x1, (-1), x2] η x3 η1 := h3.2.2
    have k3 : sQ wl_gs zTr zOgs_within zMgs_within [x1, (-1), x2] η x3 η1 ∧ oQgs_within [x1, (-1), x2] η x3 η1 := ⟨h3.1, h3.2.1⟩
    exact trivial
  · have e2 : x2 = η 95 0 := e2
    obtain ⟨a3, b3⟩ : x3 = (yq_in x1 (-1) x2) ∧ η = η1 := ⟨y3.1, y3.2.symm⟩
    subst b3
    have eη2 : η2 = zup η 95 1 x1 := eη2
    show 1 = (yv_kn x1 η).1 ∧ η2 = (yv_kn x1 η).2
    simp only [yv_kn, ← e2, ← a3, ← eη2]
    all_goals ((repeat' split) <;> first | (exfalso; omega) | exact ⟨rfl, rfl⟩ | exact ⟨rfl, trivial⟩ | rfl)
set_option maxHeartbeats 8000000 in
theorem zgs_known_o1 {ro : Nat → List Int32} (x1 : Int) (η : zE) (hp : sP wl_gs zTr zPgs_known [x1] η) (hpp : pPgs_known [x1] η) : ∀ x2 : Int, x2 = η 95 (Int.toNat 0) → zok 0 x2 → ∀ (x3 : Int) (η1 : zE), ((gC2 wl_gs [(nat_lit 0, zPgs_within, zOgs_within, zMgs_within)] pCgs_known qCgs_known) 0).2 [x1, (-1), x2] η x3 η1 → (x3 = 0) → (fun (_ : Nat) (y : Int) (η' : zE) => pQgs_known [x1] η y η') 0 0 η1 := by
  intro x2 e2 r2 x3 η1 h3 c1
  have y3 : fQgs_within [x1, (-1), x2] η x3 η1 := h3.2.2
  have k3 : sQ wl_gs zTr zOgs_within zMgs_within [x1, (-1), x2] η x3 η1 ∧ oQgs_within [x1, (-1), x2] η x3 η1 := ⟨h3.1, h3.2.1⟩
  refine yj_a ?_ ?_
  · have y3 : fQgs_within [x1, (-1), x2] η x3 η1 := h3.2.2
    have k3 : sQ wl_gs zTr zOgs_within zMgs_within [x1, (-1), x2] η x3 η1 ∧ oQgs_within [x1, (-1), x2] η x3 η1 := ⟨h3.1, h3.2.1⟩
    exact trivial
  · have e2 : x2 = η 95 0 := e2
    obtain ⟨a3, b3⟩ : x3 = (yq_in x1 (-1) x2) ∧ η = η1 := ⟨y3.1, y3.2.symm⟩
    subst b3
    show 0 = (yv_kn x1 η).1 ∧ η = (yv_kn x1 η).2
    simp only [yv_kn, ← e2, ← a3]
    all_goals ((repeat' split) <;> first | (exfalso; omega) | exact ⟨rfl, rfl⟩ | exact ⟨rfl, trivial⟩ | rfl)
set_option maxHeartbeats 8000000 in
theorem zgs_known {ro : Nat → List Int32} : zMet pr_P pr_K pr_df ro (sm_X0 1 6) 1 106 tm_gs [(.inr (.inr (.inl (nat_lit 0)))), (.inl (nat_lit 1, (.ofNat (nat_lit 0))))] 2 [(nat_lit 0, nat_lit 0, nat_lit 1), (nat_lit 0, nat_lit 4, nat_lit 2), (nat_lit 0, nat_lit 5, nat_lit 32), (nat_lit 0, nat_lit 6, nat_lit 60), (nat_lit 0, nat_lit 7, nat_lit 70), (nat_lit 0, nat_lit 8, nat_lit 74), (nat_lit 0, nat_lit 11, nat_lit 78), (nat_lit 0, nat_lit 12, nat_lit 82), (nat_lit 0, nat_lit 13, nat_lit 90), (nat_lit 0, nat_lit 14, nat_lit 91), (nat_lit 0, nat_lit 15, nat_lit 95), (nat_lit 0, nat_lit 16, nat_lit 101), (nat_lit 2, nat_lit 8, nat_lit 3), (nat_lit 2, nat_lit 9, nat_lit 4), (nat_lit 2, nat_lit 10, nat_lit 5), (nat_lit 2, nat_lit 11, nat_lit 6), (nat_lit 2, nat_lit 12, nat_lit 11), (nat_lit 2, nat_lit 13, nat_lit 16), (nat_lit 2, nat_lit 14, nat_lit 17), (nat_lit 6, nat_lit 0, nat_lit 7), (nat_lit 11, nat_lit 0, nat_lit 12), (nat_lit 6, nat_lit 1, nat_lit 8), (nat_lit 11, nat_lit 1, nat_lit 13), (nat_lit 6, nat_lit 2, nat_lit 9), (nat_lit 11, nat_lit 2, nat_lit 14), (nat_lit 6, nat_lit 3, nat_lit 10), (nat_lit 11, nat_lit 3, nat_lit 15), (nat_lit 17, nat_lit 2, nat_lit 18), (nat_lit 17, nat_lit 3, nat_lit 19), (nat_lit 17, nat_lit 4, nat_lit 20), (nat_lit 17, nat_lit 5, nat_lit 21), (nat_lit 17, nat_lit 6, nat_lit 22), (nat_lit 32, nat_lit 8, nat_lit 33), (nat_lit 32, nat_lit 9, nat_lit 34), (nat_lit 32, nat_lit 10, nat_lit 35), (nat_lit 32, nat_lit 11, nat_lit 36), (nat_lit 32, nat_lit 12, nat_lit 41), (nat_lit 32, nat_lit 13, nat_lit 46), (nat_lit 32, nat_lit 14, nat_lit 47), (nat_lit 36, nat_lit 0, nat_lit 37), (nat_lit 41, nat_lit 0, nat_lit 42), (nat_lit 36, nat_lit 1, nat_lit 38), (nat_lit 41, nat_lit 1, nat_lit 43), (nat_lit 36, nat_lit 2, nat_lit 39), (nat_lit 41, nat_lit 2, nat_lit 44), (nat_lit 36, nat_lit 3, nat_lit 40), (nat_lit 41, nat_lit 3, nat_lit 45), (nat_lit 47, nat_lit 2, nat_lit 48), (nat_lit 47, nat_lit 3, nat_lit 49), (nat_lit 47, nat_lit 4, nat_lit 50), (nat_lit 47, nat_lit 5, nat_lit 51), (nat_lit 47, nat_lit 6, nat_lit 52), (nat_lit 60, nat_lit 3, nat_lit 1), (nat_lit 60, nat_lit 9, nat_lit 61), (nat_lit 60, nat_lit 10, nat_lit 62), (nat_lit 60, nat_lit 11, nat_lit 63), (nat_lit 70, nat_lit 8, nat_lit 71), (nat_lit 70, nat_lit 9, nat_lit 72), (nat_lit 70, nat_lit 10, nat_lit 73), (nat_lit 74, nat_lit 8, nat_lit 75), (nat_lit 74, nat_lit 9, nat_lit 76), (nat_lit 74, nat_lit 10, nat_lit 77), (nat_lit 78, nat_lit 8, nat_lit 79), (nat_lit 78, nat_lit 9, nat_lit 80), (nat_lit 78, nat_lit 10, nat_lit 81), (nat_lit 82, nat_lit 8, nat_lit 83), (nat_lit 82, nat_lit 9, nat_lit 84), (nat_lit 82, nat_lit 10, nat_lit 85), (nat_lit 91, nat_lit 1, nat_lit 92), (nat_lit 91, nat_lit 2, nat_lit 93), (nat_lit 91, nat_lit 3, nat_lit 94), (nat_lit 95, nat_lit 2, nat_lit 96), (nat_lit 95, nat_lit 3, nat_lit 97), (nat_lit 95, nat_lit 4, nat_lit 98), (nat_lit 95, nat_lit 5, nat_lit 99), (nat_lit 95, nat_lit 6, nat_lit 100)] [] (fun xs η => sP wl_gs zTr zPgs_known xs η ∧ pPgs_known xs η) (fun xs η y η' => sQ wl_gs zTr zOgs_known zMgs_known xs η y η' ∧ pQgs_known xs η y η') :=
  zmet_alt (zmea_gen (mi := (nat_lit 1, nat_lit 1, nat_lit 7, nat_lit 2, nat_lit 2, tX7_known)) (cd := [(nat_lit 75, nat_lit 0, nat_lit 0, [(.inl (nat_lit 1, (.ofNat (nat_lit 0)))), (.inl (nat_lit 2, (.ofNat (nat_lit 0)))), (.inl (nat_lit 3, (.ofNat (nat_lit 0))))], nat_lit 2, [], [])]) (cu := []) (cs := [(nat_lit 0, zPgs_within, zOgs_within, zMgs_within)]) (iv := zVgs_known) (po := [zOgs_known]) (pr := zPgs_known) (mods := zMgs_known) (D7 := zDgs_known) (D0 := zEgs_known) (Dm := zFgs_known) (f0 := 17) pCgs_known qCgs_known iCgs_known pPgs_known (fun xs η _ y η' => pQgs_known xs η y η') zX_low pr_mtR rfl (List.forall_mem_cons.mpr ⟨zgs_within, fun _ h => nomatch h⟩) (by decide +kernel) (by decide +kernel) (by decide +kernel)
    (by
      intro xs η hr hl hp hpp
      match xs, hl, hp, hpp with
      | [x1], _, hp, hpp =>
        refine List.forall_mem_cons.mpr ⟨?_, List.forall_mem_cons.mpr ⟨?_, List.forall_mem_cons.mpr ⟨?_, fun _ h => nomatch h⟩⟩⟩
        · refine zden_L (n := 2) (ρ := [x1, 0]) rfl ?_
          show ∀ x2 : Int, x2 = η 95 (Int.toNat 0) → zok 0 x2 → ((gC2 wl_gs [(nat_lit 0, zPgs_within, zOgs_within, zMgs_within)] pCgs_known qCgs_known) 0).1 [x1, (-1), x2] η
          intro x2 e2 r2
          exact trivial
        · refine zden_L (n := 2) (ρ := [x1, 0]) rfl ?_
          exact zgs_known_o0 (ro := ro) x1 η hp hpp
        · refine zden_L (n := 2) (ρ := [x1, 0]) rfl ?_
          exact zgs_known_o1 (ro := ro) x1 η hp hpp
      )
    (fun _ _ _ _ _ _ _ h => nomatch h)
    (fun _ h => nomatch h))
def zPgs_guestNamed : zPq := ([((.negSucc (nat_lit 2147483647)), (.ofNat (nat_lit 2147483647)))], [])
def zOgs_guestNamed : zPo := (((.negSucc (nat_lit 0)), (.ofNat (nat_lit 3))), [], [])
def zMgs_guestNamed : List zCe := []
def pPgs_guestNamed : List Int → zE → Prop := fun _ _ => True
def oQgs_guestNamed : List Int → zE → Int → zE → Prop := fun _ _ _ _ => True
def fQgs_guestNamed : List Int → zE → Int → zE → Prop := fun xs η y η' => y = (yv_nm (xs.getD 0 0) η) ∧ η' = η
def pQgs_guestNamed : List Int → zE → Int → zE → Prop := fun xs η y η' => oQgs_guestNamed xs η y η' ∧ fQgs_guestNamed xs η y η'
def pCgs_guestNamed : Nat → List Int → zE → Prop := fun c => match c with
  | _ => fun _ _ => True
def qCgs_guestNamed : Nat → List Int → zE → Int → zE → Prop := fun c => match c with
  | _ => fun _ _ _ _ => True
def iCgs_guestNamed : List Int → zE → Nat → List Int → zE → Prop := fun xs η0 c => match c with
  | 0 => fun ys η => (True) ∧ (yv_gI η0 (xs.getD 0 0) (ys.getD 0 0) (ys.getD 1 0) η)
  | _ => fun _ _ => True
def zVgs_guestNamed : List zIv := [(nat_lit 0, ([((.negSucc (nat_lit 2147483647)), (.ofNat (nat_lit 2147483647))), ((.ofNat (nat_lit 0)), (.ofNat (nat_lit 4)))], []), ((.ofNat (nat_lit 4)), [((.negSucc (nat_lit 0)), nat_lit 0, nat_lit 1, nat_lit 0)]))]
def zUgs_guestNamed : List zCu := [(nat_lit 2, nat_lit 0, [(nat_lit 0, (.inr (.inr (.inl (nat_lit 2))))), (nat_lit 1, (.inl (nat_lit 1, (.ofNat (nat_lit 0))))), (nat_lit 2, (.inl (nat_lit 2, (.ofNat (nat_lit 0)))))], [])]
def zDgs_guestNamed : List (List zK) := []
def zEgs_guestNamed : List (List zK) := [[(nat_lit 12, nat_lit 0, [(nat_lit 1, (.ofNat (nat_lit 0))), (nat_lit 0, (.ofNat (nat_lit 0)))])]]
def zFgs_guestNamed : List (List zK) := []
def zDgs_guestNamed_0 : List (List zK) := [[(nat_lit 7, nat_lit 0, [(nat_lit 2, (.ofNat (nat_lit 0))), (nat_lit 0, (.ofNat (nat_lit 4)))]), (nat_lit 6, nat_lit 2, [(nat_lit 2, (.ofNat (nat_lit 0))), (nat_lit 3, (.ofNat (nat_lit 0)))]), (nat_lit 4, nat_lit 0, [(nat_lit 2, (.ofNat (nat_lit 0))), (nat_lit 0, (.ofNat (nat_lit 3)))])]]
def zEgs_guestNamed_0 : List (List zK) := [[(nat_lit 11, nat_lit 0, [(nat_lit 0, (.negSucc (nat_lit 0)))]), (nat_lit 6, nat_lit 3, [(nat_lit 2, (.ofNat (nat_lit 0))), (nat_lit 3, (.ofNat (nat_lit 0)))]), (nat_lit 4, nat_lit 0, [(nat_lit 2, (.ofNat (nat_lit 0))), (nat_lit 0, (.ofNat (nat_lit 3)))])],
  [(nat_lit 10, nat_lit 0, [(nat_lit 1, (.ofNat (nat_lit 0))), (nat_lit 5, (.ofNat (nat_lit 0)))]), (nat_lit 0, nat_lit 1, [(nat_lit 2, (.ofNat (nat_lit 0))), (nat_lit 0, (.ofNat (nat_lit 1)))]), (nat_lit 6, nat_lit 1, [(nat_lit 4, (.ofNat (nat_lit 0))), (nat_lit 1, (.ofNat (nat_lit 0)))]), (nat_lit 4, nat_lit 0, [(nat_lit 16, (.ofNat (nat_lit 0))), (nat_lit 2, (.ofNat (nat_lit 0)))]), (nat_lit 6, nat_lit 2, [(nat_lit 2, (.ofNat (nat_lit 0))), (nat_lit 3, (.ofNat (nat_lit 0)))]), (nat_lit 4, nat_lit 0, [(nat_lit 2, (.ofNat (nat_lit 0))), (nat_lit 0, (.ofNat (nat_lit 3)))])],
  [(nat_lit 11, nat_lit 0, [(nat_lit 2, (.ofNat (nat_lit 0)))]), (nat_lit 6, nat_lit 0, [(nat_lit 4, (.ofNat (nat_lit 0))), (nat_lit 1, (.ofNat (nat_lit 0)))]), (nat_lit 4, nat_lit 0, [(nat_lit 16, (.ofNat (nat_lit 0))), (nat_lit 2, (.ofNat (nat_lit 0)))]), (nat_lit 6, nat_lit 2, [(nat_lit 2, (.ofNat (nat_lit 0))), (nat_lit 3, (.ofNat (nat_lit 0)))]), (nat_lit 4, nat_lit 0, [(nat_lit 2, (.ofNat (nat_lit 0))), (nat_lit 0, (.ofNat (nat_lit 3)))])]]
def zFgs_guestNamed_0 : List (List zK) := []
set_option maxHeartbeats 8000000 in
theorem zgs_guestNamed_o0 {ro : Nat → List Int32} (xs : List Int) (η0 : zE) (hp : sP wl_gs zTr zPgs_guestNamed xs η0) (hpp : pPgs_guestNamed xs η0) (x1 x2 : Int) (η : zE) (hI : zsI wl_gs zTr zVgs_guestNamed zMgs_guestNamed η0 0 [x1, x2] η) (hig : iCgs_guestNamed xs η0 0 [x1, x2] η) : ∀ x3 : Int, x3 = η 2 (Int.toNat 3) → zok 0 x3 → (x3 ≤ x2) → (fun (_ : Nat) (y : Int) (η' : zE) => pQgs_guestNamed xs η0 y η') 0 (-1) η := by
  have fig := hig.2
  have hig := hig.1
  intro x3 e3 r3 c1
  refine yj_a ?_ ?_
  · exact trivial
  · obtain ⟨g1, g2, g3, g4⟩ : yv_gI η0 (xs.getD 0 0) x1 x2 η := fig
    have b2 : (0 : Int) ≤ x2 ∧ x2 ≤ 4 := hI.1.2.1.2.1
    have e3 : x3 = η 2 3 := e3
    show -1 = yp_fd (η0 16) (xs.getD 0 0) (η0 2 3).toNat (η0 2 3).toNat ∧ η = η0
    exact ⟨by rw [g4, ← g1, yfd_e (by omega)], g1⟩
set_option maxHeartbeats 8000000 in
theorem zgs_guestNamed_o1 {ro : Nat → List Int32} (xs : List Int) (η0 : zE) (hp : sP wl_gs zTr zPgs_guestNamed xs η0) (hpp : pPgs_guestNamed xs η0) (x1 x2 : Int) (η : zE) (hI : zsI wl_gs zTr zVgs_guestNamed zMgs_guestNamed η0 0 [x1, x2] η) (hig : iCgs_guestNamed xs η0 0 [x1, x2] η) : ∀ x3 : Int, x3 = η 2 (Int.toNat 3) → zok 0 x3 → (x2 < x3) → ∀ x4 : Int, x4 = η 16 (Int.toNat x2) → zok 0 x4 → (¬ x4 = x1) → ∀ x5 : Int, x5 = zd 0 1 x2 1 → (iCgs_guestNamed xs η0) 0 [x1, x5] η ∧ (fun (_ : Nat) (_ : List Int) (_ : zE) => (0 : Nat)) 0 [x1, x5] η < 1 := by
  have fig := hig.2
  have hig := hig.1
  intro x3 e3 r3 c1 x4 e4 r4 c2 x5 e5
  refine yj_c ?_ ?_
  · exact ⟨trivial, Nat.zero_lt_one⟩
  · obtain ⟨g1, g2, g3, g4⟩ : yv_gI η0 (xs.getD 0 0) x1 x2 η := fig
    have b2 : (0 : Int) ≤ x2 ∧ x2 ≤ 4 := hI.1.2.1.2.1
    have e3 : x3 = η 2 3 := e3
    have e4 : x4 = η 16 x2.toNat := e4
    have e5 : x5 = zd 0 1 x2 1 := e5
    rw [zd_a ⟨by omega, by omega⟩] at e5
    show yv_gI η0 (xs.getD 0 0) x1 x5 η
    refine ⟨g1, g2, by omega, ?_⟩
    rw [g4, ← g1, yfd_0 (i := x2.toNat) (by omega), if_neg (by rw [← e4, ← g2]; assumption)]
    show _ = yp_fd _ _ _ (_ - x5.toNat)
    rw [show x5.toNat = x2.toNat + 1 by omega]
set_option maxHeartbeats 8000000 in
theorem zgs_guestNamed_o2 {ro : Nat → List Int32} (xs : List Int) (η0 : zE) (hp : sP wl_gs zTr zPgs_guestNamed xs η0) (hpp : pPgs_guestNamed xs η0) (x1 x2 : Int) (η : zE) (hI : zsI wl_gs zTr zVgs_guestNamed zMgs_guestNamed η0 0 [x1, x2] η) (hig : iCgs_guestNamed xs η0 0 [x1, x2] η) : ∀ x3 : Int, x3 = η 2 (Int.toNat 3) → zok 0 x3 → (x2 < x3) → ∀ x4 : Int, x4 = η 16 (Int.toNat x2) → zok 0 x4 → (x4 = x1) → (fun (_ : Nat) (y : Int) (η' : zE) => pQgs_guestNamed xs η0 y η') 0 x2 η := by
  have fig := hig.2
  have hig := hig.1
  intro x3 e3 r3 c1 x4 e4 r4 c2
  refine yj_a ?_ ?_
  · exact trivial
  · obtain ⟨g1, g2, g3, g4⟩ : yv_gI η0 (xs.getD 0 0) x1 x2 η := fig
    have b2 : (0 : Int) ≤ x2 ∧ x2 ≤ 4 := hI.1.2.1.2.1
    have e3 : x3 = η 2 3 := e3
    have e4 : x4 = η 16 x2.toNat := e4
    show x2 = yp_fd (η0 16) (xs.getD 0 0) (η0 2 3).toNat (η0 2 3).toNat ∧ η = η0
    refine ⟨?_, g1⟩
    rw [g4, ← g1, yfd_0 (i := x2.toNat) (by omega), if_pos (by rw [← e4, ← g2]; assumption)]
    omega
set_option maxHeartbeats 8000000 in
theorem zgs_guestNamed {ro : Nat → List Int32} : zMet pr_P pr_K pr_df ro (sm_X0 1 6) 0 53 tm_gs [(.inr (.inr (.inl (nat_lit 2)))), (.inl (nat_lit 1, (.ofNat (nat_lit 0))))] 1 [(nat_lit 2, nat_lit 8, nat_lit 3), (nat_lit 2, nat_lit 9, nat_lit 4), (nat_lit 2, nat_lit 10, nat_lit 5), (nat_lit 2, nat_lit 11, nat_lit 6), (nat_lit 2, nat_lit 12, nat_lit 11), (nat_lit 2, nat_lit 13, nat_lit 16), (nat_lit 2, nat_lit 14, nat_lit 17)] [] (fun xs η => sP wl_gs zTr zPgs_guestNamed xs η ∧ pPgs_guestNamed xs η) (fun xs η y η' => sQ wl_gs zTr zOgs_guestNamed zMgs_guestNamed xs η y η' ∧ pQgs_guestNamed xs η y η') :=
  zmet_alt (zmea_gen (mi := (nat_lit 1, nat_lit 1, nat_lit 4, nat_lit 3, nat_lit 1, tX4_guestNamed)) (cd := []) (cu := zUgs_guestNamed) (cs := []) (iv := zVgs_guestNamed) (po := [zOgs_guestNamed]) (pr := zPgs_guestNamed) (mods := zMgs_guestNamed) (D7 := zDgs_guestNamed) (D0 := zEgs_guestNamed) (Dm := zFgs_guestNamed) (f0 := 7) pCgs_guestNamed qCgs_guestNamed iCgs_guestNamed pPgs_guestNamed (fun xs η _ y η' => pQgs_guestNamed xs η y η') zX_low pr_mtR rfl (fun _ h => nomatch h) (by decide +kernel) (by decide +kernel) (by decide +kernel)
    (by
      intro xs η hr hl hp hpp
      match xs, hl, hp, hpp with
      | [x1], _, hp, hpp =>
        refine List.forall_mem_cons.mpr ⟨?_, fun _ h => nomatch h⟩
        · refine zden_L (n := 2) (ρ := [x1, 0]) rfl ?_
          show (iCgs_guestNamed [x1] η) 0 [x1, 0] η
          refine yj_a ?_ ?_
          · exact trivial
          · exact ⟨rfl, rfl, Int.le_refl _, rfl⟩
      )
    (fun _ _ _ _ _ _ _ h => nomatch h)
    (List.forall_mem_cons.mpr ⟨⟨zDgs_guestNamed_0, zEgs_guestNamed_0, zFgs_guestNamed_0, 17, by decide +kernel, (by
      intro xs η0 hlx hp hpp ys η hr hl hI hig
      match ys, hl, hI, hig with
      | [x1, x2], _, hI, hig =>
        refine ⟨?_, ?_⟩
        · refine List.forall_mem_cons.mpr ⟨?_, List.forall_mem_cons.mpr ⟨?_, List.forall_mem_cons.mpr ⟨?_, fun _ h => nomatch h⟩⟩⟩
          · refine zden_L (n := 3) (ρ := [x2, x1, 0]) rfl ?_
            exact zgs_guestNamed_o0 (ro := ro) xs η0 hp hpp x1 x2 η hI hig
          · refine zden_L (n := 3) (ρ := [x2, x1, 0]) rfl ?_
            exact zgs_guestNamed_o1 (ro := ro) xs η0 hp hpp x1 x2 η hI hig
          · refine zden_L (n := 3) (ρ := [x2, x1, 0]) rfl ?_
            exact zgs_guestNamed_o2 (ro := ro) xs η0 hp hpp x1 x2 η hI hig
        · exact fun _ h => nomatch h
      )⟩, (fun _ h => nomatch h)⟩))
def zPgs_named : zPq := ([((.negSucc (nat_lit 2147483647)), (.ofNat (nat_lit 2147483647)))], [])
def zOgs_named : zPo := (((.negSucc (nat_lit 2147483647)), (.ofNat (nat_lit 2147483647))), [], [])
def zMgs_named : List zCe := []
def pPgs_named : List Int → zE → Prop := fun _ _ => True
def oQgs_named : List Int → zE → Int → zE → Prop := fun _ _ _ _ => True
def fQgs_named : List Int → zE → Int → zE → Prop := fun xs η y η' => y = (yv_nm (xs.getD 0 0) η) ∧ η' = η
def pQgs_named : List Int → zE → Int → zE → Prop := fun xs η y η' => oQgs_named xs η y η' ∧ fQgs_named xs η y η'
def pCgs_named : Nat → List Int → zE → Prop := fun c => match c with
  | 0 => pPgs_guestNamed
  | _ => fun _ _ => True
def qCgs_named : Nat → List Int → zE → Int → zE → Prop := fun c => match c with
  | 0 => pQgs_guestNamed
  | _ => fun _ _ _ _ => True
def iCgs_named : List Int → zE → Nat → List Int → zE → Prop := fun xs η0 c => match c with
  | _ => fun _ _ => True
def zVgs_named : List zIv := []
def zDgs_named : List (List zK) := []
def zEgs_named : List (List zK) := [[(nat_lit 13, nat_lit 0, [(nat_lit 1, (.ofNat (nat_lit 0)))])],
  [(nat_lit 11, nat_lit 0, [(nat_lit 2, (.ofNat (nat_lit 0)))]), (nat_lit 8, nat_lit 0, [(nat_lit 1, (.ofNat (nat_lit 0)))])]]
def zFgs_named : List (List zK) := []
set_option maxHeartbeats 8000000 in
theorem zgs_named_o0 {ro : Nat → List Int32} (x1 : Int) (η : zE) (hp : sP wl_gs zTr zPgs_named [x1] η) (hpp : pPgs_named [x1] η) : ∀ (x2 : Int) (η1 : zE), ((gC2 wl_gs [(nat_lit 0, zPgs_guestNamed, zOgs_guestNamed, zMgs_guestNamed)] pCgs_named qCgs_named) 0).2 [x1] η x2 η1 → (fun (_ : Nat) (y : Int) (η' : zE) => pQgs_named [x1] η y η') 0 x2 η1 := by
  intro x2 η1 h2
  have y2 : fQgs_guestNamed [x1] η x2 η1 := h2.2.2
  have k2 : sQ wl_gs zTr zOgs_guestNamed zMgs_guestNamed [x1] η x2 η1 ∧ oQgs_guestNamed [x1] η x2 η1 := ⟨h2.1, h2.2.1⟩
  refine yj_a ?_ ?_
  · have y2 : fQgs_guestNamed [x1] η x2 η1 := h2.2.2
    have k2 : sQ wl_gs zTr zOgs_guestNamed zMgs_guestNamed [x1] η x2 η1 ∧ oQgs_guestNamed [x1] η x2 η1 := ⟨h2.1, h2.2.1⟩
    exact trivial
  · exact y2
set_option maxHeartbeats 8000000 in
theorem zgs_named {ro : Nat → List Int32} : zMet pr_P pr_K pr_df ro (sm_X0 1 6) 1 68 tm_gs [(.inr (.inr (.inl (nat_lit 0)))), (.inl (nat_lit 1, (.ofNat (nat_lit 0))))] 1 [(nat_lit 0, nat_lit 0, nat_lit 1), (nat_lit 0, nat_lit 4, nat_lit 2), (nat_lit 0, nat_lit 5, nat_lit 32), (nat_lit 0, nat_lit 6, nat_lit 60), (nat_lit 0, nat_lit 7, nat_lit 70), (nat_lit 0, nat_lit 8, nat_lit 74), (nat_lit 0, nat_lit 11, nat_lit 78), (nat_lit 0, nat_lit 12, nat_lit 82), (nat_lit 0, nat_lit 13, nat_lit 90), (nat_lit 0, nat_lit 14, nat_lit 91), (nat_lit 0, nat_lit 15, nat_lit 95), (nat_lit 0, nat_lit 16, nat_lit 101), (nat_lit 2, nat_lit 8, nat_lit 3), (nat_lit 2, nat_lit 9, nat_lit 4), (nat_lit 2, nat_lit 10, nat_lit 5), (nat_lit 2, nat_lit 11, nat_lit 6), (nat_lit 2, nat_lit 12, nat_lit 11), (nat_lit 2, nat_lit 13, nat_lit 16), (nat_lit 2, nat_lit 14, nat_lit 17), (nat_lit 6, nat_lit 0, nat_lit 7), (nat_lit 11, nat_lit 0, nat_lit 12), (nat_lit 6, nat_lit 1, nat_lit 8), (nat_lit 11, nat_lit 1, nat_lit 13), (nat_lit 6, nat_lit 2, nat_lit 9), (nat_lit 11, nat_lit 2, nat_lit 14), (nat_lit 6, nat_lit 3, nat_lit 10), (nat_lit 11, nat_lit 3, nat_lit 15), (nat_lit 17, nat_lit 2, nat_lit 18), (nat_lit 17, nat_lit 3, nat_lit 19), (nat_lit 17, nat_lit 4, nat_lit 20), (nat_lit 17, nat_lit 5, nat_lit 21), (nat_lit 17, nat_lit 6, nat_lit 22), (nat_lit 32, nat_lit 8, nat_lit 33), (nat_lit 32, nat_lit 9, nat_lit 34), (nat_lit 32, nat_lit 10, nat_lit 35), (nat_lit 32, nat_lit 11, nat_lit 36), (nat_lit 32, nat_lit 12, nat_lit 41), (nat_lit 32, nat_lit 13, nat_lit 46), (nat_lit 32, nat_lit 14, nat_lit 47), (nat_lit 36, nat_lit 0, nat_lit 37), (nat_lit 41, nat_lit 0, nat_lit 42), (nat_lit 36, nat_lit 1, nat_lit 38), (nat_lit 41, nat_lit 1, nat_lit 43), (nat_lit 36, nat_lit 2, nat_lit 39), (nat_lit 41, nat_lit 2, nat_lit 44), (nat_lit 36, nat_lit 3, nat_lit 40), (nat_lit 41, nat_lit 3, nat_lit 45), (nat_lit 47, nat_lit 2, nat_lit 48), (nat_lit 47, nat_lit 3, nat_lit 49), (nat_lit 47, nat_lit 4, nat_lit 50), (nat_lit 47, nat_lit 5, nat_lit 51), (nat_lit 47, nat_lit 6, nat_lit 52), (nat_lit 60, nat_lit 3, nat_lit 1), (nat_lit 60, nat_lit 9, nat_lit 61), (nat_lit 60, nat_lit 10, nat_lit 62), (nat_lit 60, nat_lit 11, nat_lit 63), (nat_lit 70, nat_lit 8, nat_lit 71), (nat_lit 70, nat_lit 9, nat_lit 72), (nat_lit 70, nat_lit 10, nat_lit 73), (nat_lit 74, nat_lit 8, nat_lit 75), (nat_lit 74, nat_lit 9, nat_lit 76), (nat_lit 74, nat_lit 10, nat_lit 77), (nat_lit 78, nat_lit 8, nat_lit 79), (nat_lit 78, nat_lit 9, nat_lit 80), (nat_lit 78, nat_lit 10, nat_lit 81), (nat_lit 82, nat_lit 8, nat_lit 83), (nat_lit 82, nat_lit 9, nat_lit 84), (nat_lit 82, nat_lit 10, nat_lit 85), (nat_lit 91, nat_lit 1, nat_lit 92), (nat_lit 91, nat_lit 2, nat_lit 93), (nat_lit 91, nat_lit 3, nat_lit 94), (nat_lit 95, nat_lit 2, nat_lit 96), (nat_lit 95, nat_lit 3, nat_lit 97), (nat_lit 95, nat_lit 4, nat_lit 98), (nat_lit 95, nat_lit 5, nat_lit 99), (nat_lit 95, nat_lit 6, nat_lit 100)] [] (fun xs η => sP wl_gs zTr zPgs_named xs η ∧ pPgs_named xs η) (fun xs η y η' => sQ wl_gs zTr zOgs_named zMgs_named xs η y η' ∧ pQgs_named xs η y η') :=
  zmet_alt (zmea_gen (mi := (nat_lit 1, nat_lit 1, nat_lit 7, nat_lit 2, nat_lit 1, tX7_named)) (cd := [(nat_lit 53, nat_lit 0, nat_lit 0, [(.inr (.inr (.inl (nat_lit 2)))), (.inl (nat_lit 1, (.ofNat (nat_lit 0))))], nat_lit 1, [(nat_lit 2, nat_lit 8, nat_lit 3), (nat_lit 2, nat_lit 9, nat_lit 4), (nat_lit 2, nat_lit 10, nat_lit 5), (nat_lit 2, nat_lit 11, nat_lit 6), (nat_lit 2, nat_lit 12, nat_lit 11), (nat_lit 2, nat_lit 13, nat_lit 16), (nat_lit 2, nat_lit 14, nat_lit 17)], [])]) (cu := []) (cs := [(nat_lit 0, zPgs_guestNamed, zOgs_guestNamed, zMgs_guestNamed)]) (iv := zVgs_named) (po := [zOgs_named]) (pr := zPgs_named) (mods := zMgs_named) (D7 := zDgs_named) (D0 := zEgs_named) (Dm := zFgs_named) (f0 := 9) pCgs_named qCgs_named iCgs_named pPgs_named (fun xs η _ y η' => pQgs_named xs η y η') zX_low pr_mtR rfl (List.forall_mem_cons.mpr ⟨zgs_guestNamed, fun _ h => nomatch h⟩) (by decide +kernel) (by decide +kernel) (by decide +kernel)
    (by
      intro xs η hr hl hp hpp
      match xs, hl, hp, hpp with
      | [x1], _, hp, hpp =>
        refine List.forall_mem_cons.mpr ⟨?_, List.forall_mem_cons.mpr ⟨?_, fun _ h => nomatch h⟩⟩
        · refine zden_L (n := 2) (ρ := [x1, 0]) rfl ?_
          show ((gC2 wl_gs [(nat_lit 0, zPgs_guestNamed, zOgs_guestNamed, zMgs_guestNamed)] pCgs_named qCgs_named) 0).1 [x1] η
          
          exact trivial
        · refine zden_L (n := 2) (ρ := [x1, 0]) rfl ?_
          exact zgs_named_o0 (ro := ro) x1 η hp hpp
      )
    (fun _ _ _ _ _ _ _ h => nomatch h)
    (fun _ h => nomatch h))
def zPgs_needle : zPq := ([((.negSucc (nat_lit 2147483647)), (.ofNat (nat_lit 2147483647)))], [])
def zOgs_needle : zPo := (((.negSucc (nat_lit 2147483647)), (.ofNat (nat_lit 2147483647))), [], [])
def zMgs_needle : List zCe := []
def pPgs_needle : List Int → zE → Prop := fun _ _ => True
def oQgs_needle : List Int → zE → Int → zE → Prop := fun _ _ _ _ => True
def fQgs_needle : List Int → zE → Int → zE → Prop := fun xs η y η' => y = (yv_ne (xs.getD 0 0) η) ∧ η' = η
def pQgs_needle : List Int → zE → Int → zE → Prop := fun xs η y η' => oQgs_needle xs η y η' ∧ fQgs_needle xs η y η'
def pCgs_needle : Nat → List Int → zE → Prop := fun c => match c with
  | 0 => pPgs_within
  | _ => fun _ _ => True
def qCgs_needle : Nat → List Int → zE → Int → zE → Prop := fun c => match c with
  | 0 => pQgs_within
  | _ => fun _ _ _ _ => True
def iCgs_needle : List Int → zE → Nat → List Int → zE → Prop := fun xs η0 c => match c with
  | 0 => fun ys η => (True) ∧ (yv_nI η0 (xs.getD 0 0) (ys.getD 0 0) (ys.getD 1 0) (ys.getD 2 0) (ys.getD 3 0) η)
  | _ => fun _ _ => True
def zVgs_needle : List zIv := [(nat_lit 0, ([((.ofNat (nat_lit 1)), (.ofNat (nat_lit 99))), ((.negSucc (nat_lit 2147483647)), (.ofNat (nat_lit 2147483647))), ((.negSucc (nat_lit 2147483647)), (.ofNat (nat_lit 2147483647))), ((.ofNat (nat_lit 2)), (.ofNat (nat_lit 100)))], []), ((.ofNat (nat_lit 100)), [((.negSucc (nat_lit 0)), nat_lit 0, nat_lit 3, nat_lit 0)]))]
def zUgs_needle : List zCu := [(nat_lit 25, nat_lit 0, [(nat_lit 0, (.inr (.inr (.inl (nat_lit 0))))), (nat_lit 1, (.inl (nat_lit 1, (.ofNat (nat_lit 0))))), (nat_lit 2, (.inl (nat_lit 2, (.ofNat (nat_lit 0))))), (nat_lit 3, (.inl (nat_lit 3, (.ofNat (nat_lit 0))))), (nat_lit 4, (.inl (nat_lit 4, (.ofNat (nat_lit 0)))))], [])]
def zDgs_needle : List (List zK) := []
def zEgs_needle : List (List zK) := [[(nat_lit 13, nat_lit 0, [(nat_lit 1, (.ofNat (nat_lit 0))), (nat_lit 0, (.ofNat (nat_lit 1))), (nat_lit 0, (.ofNat (nat_lit 99)))])],
  [(nat_lit 12, nat_lit 0, [(nat_lit 1, (.ofNat (nat_lit 0))), (nat_lit 0, (.ofNat (nat_lit 1))), (nat_lit 3, (.ofNat (nat_lit 0))), (nat_lit 0, (.ofNat (nat_lit 2)))]), (nat_lit 4, nat_lit 0, [(nat_lit 2, (.ofNat (nat_lit 0))), (nat_lit 0, (.ofNat (nat_lit 5)))]), (nat_lit 6, nat_lit 1, [(nat_lit 2, (.ofNat (nat_lit 0))), (nat_lit 0, (.ofNat (nat_lit 0)))]), (nat_lit 8, nat_lit 0, [(nat_lit 1, (.ofNat (nat_lit 0))), (nat_lit 0, (.ofNat (nat_lit 1))), (nat_lit 0, (.ofNat (nat_lit 99)))])],
  [(nat_lit 11, nat_lit 0, [(nat_lit 0, (.negSucc (nat_lit 0)))]), (nat_lit 6, nat_lit 0, [(nat_lit 2, (.ofNat (nat_lit 0))), (nat_lit 0, (.ofNat (nat_lit 0)))]), (nat_lit 8, nat_lit 0, [(nat_lit 1, (.ofNat (nat_lit 0))), (nat_lit 0, (.ofNat (nat_lit 1))), (nat_lit 0, (.ofNat (nat_lit 99)))])]]
def zFgs_needle : List (List zK) := []
def zDgs_needle_0 : List (List zK) := [[(nat_lit 7, nat_lit 1, [(nat_lit 0, (.ofNat (nat_lit 2)))]), (nat_lit 0, nat_lit 3, [(nat_lit 4, (.ofNat (nat_lit 0))), (nat_lit 7, (.ofNat (nat_lit 0)))]), (nat_lit 0, nat_lit 2, [(nat_lit 4, (.ofNat (nat_lit 0))), (nat_lit 0, (.ofNat (nat_lit 1)))]), (nat_lit 4, nat_lit 0, [(nat_lit 2, (.ofNat (nat_lit 0))), (nat_lit 0, (.ofNat (nat_lit 6)))]), (nat_lit 4, nat_lit 0, [(nat_lit 2, (.ofNat (nat_lit 0))), (nat_lit 0, (.ofNat (nat_lit 5)))]), (nat_lit 6, nat_lit 5, [(nat_lit 4, (.ofNat (nat_lit 0))), (nat_lit 1, (.ofNat (nat_lit 0)))])]]
def zEgs_needle_0 : List (List zK) := [[(nat_lit 11, nat_lit 0, [(nat_lit 2, (.ofNat (nat_lit 0)))]), (nat_lit 6, nat_lit 4, [(nat_lit 4, (.ofNat (nat_lit 0))), (nat_lit 1, (.ofNat (nat_lit 0)))])],
  [(nat_lit 10, nat_lit 0, [(nat_lit 1, (.ofNat (nat_lit 0))), (nat_lit 2, (.ofNat (nat_lit 0))), (nat_lit 3, (.ofNat (nat_lit 0))), (nat_lit 14, (.ofNat (nat_lit 0)))]), (nat_lit 0, nat_lit 1, [(nat_lit 4, (.ofNat (nat_lit 0))), (nat_lit 0, (.ofNat (nat_lit 1)))]), (nat_lit 6, nat_lit 3, [(nat_lit 12, (.ofNat (nat_lit 0))), (nat_lit 13, (.ofNat (nat_lit 0)))]), (nat_lit 0, nat_lit 3, [(nat_lit 3, (.ofNat (nat_lit 0))), (nat_lit 4, (.ofNat (nat_lit 0)))]), (nat_lit 0, nat_lit 3, [(nat_lit 11, (.ofNat (nat_lit 0))), (nat_lit 2, (.ofNat (nat_lit 0)))]), (nat_lit 0, nat_lit 1, [(nat_lit 5, (.ofNat (nat_lit 0))), (nat_lit 10, (.ofNat (nat_lit 0)))]), (nat_lit 0, nat_lit 3, [(nat_lit 6, (.ofNat (nat_lit 0))), (nat_lit 9, (.ofNat (nat_lit 0)))]), (nat_lit 0, nat_lit 9, [(nat_lit 8, (.ofNat (nat_lit 0))), (nat_lit 0, (.ofNat (nat_lit 2)))]), (nat_lit 0, nat_lit 3, [(nat_lit 4, (.ofNat (nat_lit 0))), (nat_lit 7, (.ofNat (nat_lit 0)))]), (nat_lit 0, nat_lit 2, [(nat_lit 4, (.ofNat (nat_lit 0))), (nat_lit 0, (.ofNat (nat_lit 1)))]), (nat_lit 4, nat_lit 0, [(nat_lit 2, (.ofNat (nat_lit 0))), (nat_lit 0, (.ofNat (nat_lit 6)))]), (nat_lit 4, nat_lit 0, [(nat_lit 2, (.ofNat (nat_lit 0))), (nat_lit 0, (.ofNat (nat_lit 5)))]), (nat_lit 6, nat_lit 5, [(nat_lit 4, (.ofNat (nat_lit 0))), (nat_lit 1, (.ofNat (nat_lit 0)))])],
  [(nat_lit 10, nat_lit 0, [(nat_lit 1, (.ofNat (nat_lit 0))), (nat_lit 4, (.ofNat (nat_lit 0))), (nat_lit 11, (.ofNat (nat_lit 0))), (nat_lit 14, (.ofNat (nat_lit 0)))]), (nat_lit 0, nat_lit 1, [(nat_lit 4, (.ofNat (nat_lit 0))), (nat_lit 0, (.ofNat (nat_lit 1)))]), (nat_lit 6, nat_lit 2, [(nat_lit 12, (.ofNat (nat_lit 0))), (nat_lit 13, (.ofNat (nat_lit 0)))]), (nat_lit 0, nat_lit 3, [(nat_lit 3, (.ofNat (nat_lit 0))), (nat_lit 4, (.ofNat (nat_lit 0)))]), (nat_lit 0, nat_lit 3, [(nat_lit 11, (.ofNat (nat_lit 0))), (nat_lit 2, (.ofNat (nat_lit 0)))]), (nat_lit 0, nat_lit 1, [(nat_lit 5, (.ofNat (nat_lit 0))), (nat_lit 10, (.ofNat (nat_lit 0)))]), (nat_lit 0, nat_lit 3, [(nat_lit 6, (.ofNat (nat_lit 0))), (nat_lit 9, (.ofNat (nat_lit 0)))]), (nat_lit 0, nat_lit 9, [(nat_lit 8, (.ofNat (nat_lit 0))), (nat_lit 0, (.ofNat (nat_lit 2)))]), (nat_lit 0, nat_lit 3, [(nat_lit 4, (.ofNat (nat_lit 0))), (nat_lit 7, (.ofNat (nat_lit 0)))]), (nat_lit 0, nat_lit 2, [(nat_lit 4, (.ofNat (nat_lit 0))), (nat_lit 0, (.ofNat (nat_lit 1)))]), (nat_lit 4, nat_lit 0, [(nat_lit 2, (.ofNat (nat_lit 0))), (nat_lit 0, (.ofNat (nat_lit 6)))]), (nat_lit 4, nat_lit 0, [(nat_lit 2, (.ofNat (nat_lit 0))), (nat_lit 0, (.ofNat (nat_lit 5)))]), (nat_lit 6, nat_lit 5, [(nat_lit 4, (.ofNat (nat_lit 0))), (nat_lit 1, (.ofNat (nat_lit 0)))])]]
def zFgs_needle_0 : List (List zK) := []
set_option maxHeartbeats 8000000 in
theorem zgs_needle_o0 {ro : Nat → List Int32} (x1 : Int) (η : zE) (hp : sP wl_gs zTr zPgs_needle [x1] η) (hpp : pPgs_needle [x1] η) : ∀ (x2 : Int) (η1 : zE), ((gC2 wl_gs [(nat_lit 0, zPgs_within, zOgs_within, zMgs_within)] pCgs_needle qCgs_needle) 0).2 [x1, 1, 99] η x2 η1 → (¬ x2 = 0) → ∀ x3 : Int, x3 = η1 2 (Int.toNat 5) → zok 0 x3 → (iCgs_needle [x1] η) 0 [x1, 1, x3, 2] η1 := by
  intro x2 η1 h2 c1 x3 e3 r3
  have y2 : fQgs_within [x1, 1, 99] η x2 η1 := h2.2.2
  have k2 : sQ wl_gs zTr zOgs_within zMgs_within [x1, 1, 99] η x2 η1 ∧ oQgs_within [x1, 1, 99] η x2 η1 := ⟨h2.1, h2.2.1⟩
  refine yj_a ?_ ?_
  · have y2 : fQgs_within [x1, 1, 99] η x2 η1 := h2.2.2
    have k2 : sQ wl_gs zTr zOgs_within zMgs_within [x1, 1, 99] η x2 η1 ∧ oQgs_within [x1, 1, 99] η x2 η1 := ⟨h2.1, h2.2.1⟩
    exact trivial
  · obtain ⟨a2, b2⟩ : x2 = yq_in x1 1 99 ∧ η1 = η := y2
    have e3 : x3 = η1 2 5 := e3
    show yv_nI η x1 x1 1 x3 2 η1
    exact vnI_0 b2 (by omega) (by rw [e3, b2])
set_option maxHeartbeats 8000000 in
theorem zgs_needle_o1 {ro : Nat → List Int32} (x1 : Int) (η : zE) (hp : sP wl_gs zTr zPgs_needle [x1] η) (hpp : pPgs_needle [x1] η) : ∀ (x2 : Int) (η1 : zE), ((gC2 wl_gs [(nat_lit 0, zPgs_within, zOgs_within, zMgs_within)] pCgs_needle qCgs_needle) 0).2 [x1, 1, 99] η x2 η1 → (x2 = 0) → (fun (_ : Nat) (y : Int) (η' : zE) => pQgs_needle [x1] η y η') 0 (-1) η1 := by
  intro x2 η1 h2 c1
  have y2 : fQgs_within [x1, 1, 99] η x2 η1 := h2.2.2
  have k2 : sQ wl_gs zTr zOgs_within zMgs_within [x1, 1, 99] η x2 η1 ∧ oQgs_within [x1, 1, 99] η x2 η1 := ⟨h2.1, h2.2.1⟩
  refine yj_a ?_ ?_
  · have y2 : fQgs_within [x1, 1, 99] η x2 η1 := h2.2.2
    have k2 : sQ wl_gs zTr zOgs_within zMgs_within [x1, 1, 99] η x2 η1 ∧ oQgs_within [x1, 1, 99] η x2 η1 := ⟨h2.1, h2.2.1⟩
    exact trivial
  · obtain ⟨a2, b2⟩ : x2 = yq_in x1 1 99 ∧ η1 = η := y2
    show -1 = yv_ne x1 η ∧ η1 = η
    exact ⟨by unfold yv_ne; rw [if_pos (by omega)], b2⟩
set_option maxHeartbeats 8000000 in
theorem zgs_needle_o2 {ro : Nat → List Int32} (xs : List Int) (η0 : zE) (hp : sP wl_gs zTr zPgs_needle xs η0) (hpp : pPgs_needle xs η0) (x1 x2 x3 x4 : Int) (η : zE) (hI : zsI wl_gs zTr zVgs_needle zMgs_needle η0 0 [x1, x2, x3, x4] η) (hig : iCgs_needle xs η0 0 [x1, x2, x3, x4] η) : (x1 < x4) → (fun (_ : Nat) (y : Int) (η' : zE) => pQgs_needle xs η0 y η') 0 x2 η := by
  have fig := hig.2
  have hig := hig.1
  intro c1
  refine yj_a ?_ ?_
  · exact trivial
  · exact vnI_e (x := x1) (k := x4) fig (by omega)
set_option maxHeartbeats 8000000 in
theorem zgs_needle_o3 {ro : Nat → List Int32} (xs : List Int) (η0 : zE) (hp : sP wl_gs zTr zPgs_needle xs η0) (hpp : pPgs_needle xs η0) (x1 x2 x3 x4 : Int) (η : zE) (hI : zsI wl_gs zTr zVgs_needle zMgs_needle η0 0 [x1, x2, x3, x4] η) (hig : iCgs_needle xs η0 0 [x1, x2, x3, x4] η) : (x4 ≤ x1) → ∀ x5 : Int, x5 = η 2 (Int.toNat 5) → zok 0 x5 → ∀ x6 : Int, x6 = η 2 (Int.toNat 6) → zok 0 x6 → ∀ x7 : Int, x7 = zd 0 2 x4 1 → ∀ x8 : Int, x8 = zd 0 3 x4 x7 → ∀ x9 : Int, x9 = zd 0 9 x8 2 → ∀ x10 : Int, x10 = zd 0 3 x6 x9 → ∀ x11 : Int, x11 = zd 0 1 x5 x10 → ∀ x12 : Int, x12 = zd 0 3 x11 x2 → ∀ x13 : Int, x13 = zd 0 3 x3 x4 → (x13 ≤ x12) → ∀ x14 : Int, x14 = zd 0 1 x4 1 → (iCgs_needle xs η0) 0 [x1, x2, x3, x14] η ∧ (fun (_ : Nat) (_ : List Int) (_ : zE) => (0 : Nat)) 0 [x1, x2, x3, x14] η < 1 := by
  have fig := hig.2
  have hig := hig.1
  intro c1 x5 e5 r5 x6 e6 r6 x7 e7 x8 e8 x9 e9 x10 e10 x11 e11 x12 e12 x13 e13 c2 x14 e14
  refine yj_c ?_ ?_
  · exact ⟨trivial, Nat.zero_lt_one⟩
  · have e5 : x5 = η 2 5 := e5
    have e6 : x6 = η 2 6 := e6
    have e7 : x7 = zd 0 2 x4 1 := e7
    have e8 : x8 = zd 0 3 x4 x7 := e8
    have e9 : x9 = zd 0 9 x8 2 := e9
    have e10 : x10 = zd 0 3 x6 x9 := e10
    have e11 : x11 = zd 0 1 x5 x10 := e11
    have e12 : x12 = zd 0 3 x11 x2 := e12
    have e13 : x13 = zd 0 3 x3 x4 := e13
    have e14 : x14 = zd 0 1 x4 1 := e14
    show yv_nI η0 (xs.getD 0 0) x1 x2 x3 x14 η
    refine vnI_s (x := x1) (b := x2) (c := x3) (k := x4) fig (by omega) ?_ e14
    unfold yv_n1 yv_nc
    dsimp only
    rw [← e5, ← e6, ← e7, ← e8, ← e9, ← e10, ← e11, ← e12, ← e13, if_neg (by omega)]
set_option maxHeartbeats 8000000 in
theorem zgs_needle_o4 {ro : Nat → List Int32} (xs : List Int) (η0 : zE) (hp : sP wl_gs zTr zPgs_needle xs η0) (hpp : pPgs_needle xs η0) (x1 x2 x3 x4 : Int) (η : zE) (hI : zsI wl_gs zTr zVgs_needle zMgs_needle η0 0 [x1, x2, x3, x4] η) (hig : iCgs_needle xs η0 0 [x1, x2, x3, x4] η) : (x4 ≤ x1) → ∀ x5 : Int, x5 = η 2 (Int.toNat 5) → zok 0 x5 → ∀ x6 : Int, x6 = η 2 (Int.toNat 6) → zok 0 x6 → ∀ x7 : Int, x7 = zd 0 2 x4 1 → ∀ x8 : Int, x8 = zd 0 3 x4 x7 → ∀ x9 : Int, x9 = zd 0 9 x8 2 → ∀ x10 : Int, x10 = zd 0 3 x6 x9 → ∀ x11 : Int, x11 = zd 0 1 x5 x10 → ∀ x12 : Int, x12 = zd 0 3 x11 x2 → ∀ x13 : Int, x13 = zd 0 3 x3 x4 → (x12 < x13) → ∀ x14 : Int, x14 = zd 0 1 x4 1 → (iCgs_needle xs η0) 0 [x1, x4, x11, x14] η ∧ (fun (_ : Nat) (_ : List Int) (_ : zE) => (0 : Nat)) 0 [x1, x4, x11, x14] η < 1 := by
  have fig := hig.2
  have hig := hig.1
  intro c1 x5 e5 r5 x6 e6 r6 x7 e7 x8 e8 x9 e9 x10 e10 x11 e11 x12 e12 x13 e13 c2 x14 e14
  refine yj_c ?_ ?_
  · exact ⟨trivial, Nat.zero_lt_one⟩
  · have e5 : x5 = η 2 5 := e5
    have e6 : x6 = η 2 6 := e6
    have e7 : x7 = zd 0 2 x4 1 := e7
    have e8 : x8 = zd 0 3 x4 x7 := e8
    have e9 : x9 = zd 0 9 x8 2 := e9
    have e10 : x10 = zd 0 3 x6 x9 := e10
    have e11 : x11 = zd 0 1 x5 x10 := e11
    have e12 : x12 = zd 0 3 x11 x2 := e12
    have e13 : x13 = zd 0 3 x3 x4 := e13
    have e14 : x14 = zd 0 1 x4 1 := e14
    show yv_nI η0 (xs.getD 0 0) x1 x4 x11 x14 η
    refine vnI_s (x := x1) (b := x2) (c := x3) (k := x4) fig (by omega) ?_ e14
    unfold yv_n1 yv_nc
    dsimp only
    rw [← e5, ← e6, ← e7, ← e8, ← e9, ← e10, ← e11, ← e12, ← e13, if_pos (by omega)]
set_option maxHeartbeats 8000000 in
theorem zgs_needle {ro : Nat → List Int32} : zMet pr_P pr_K pr_df ro (sm_X0 1 6) 1 95 tm_gs [(.inr (.inr (.inl (nat_lit 0)))), (.inl (nat_lit 1, (.ofNat (nat_lit 0))))] 1 [(nat_lit 0, nat_lit 0, nat_lit 1), (nat_lit 0, nat_lit 4, nat_lit 2), (nat_lit 0, nat_lit 5, nat_lit 32), (nat_lit 0, nat_lit 6, nat_lit 60), (nat_lit 0, nat_lit 7, nat_lit 70), (nat_lit 0, nat_lit 8, nat_lit 74), (nat_lit 0, nat_lit 11, nat_lit 78), (nat_lit 0, nat_lit 12, nat_lit 82), (nat_lit 0, nat_lit 13, nat_lit 90), (nat_lit 0, nat_lit 14, nat_lit 91), (nat_lit 0, nat_lit 15, nat_lit 95), (nat_lit 0, nat_lit 16, nat_lit 101), (nat_lit 2, nat_lit 8, nat_lit 3), (nat_lit 2, nat_lit 9, nat_lit 4), (nat_lit 2, nat_lit 10, nat_lit 5), (nat_lit 2, nat_lit 11, nat_lit 6), (nat_lit 2, nat_lit 12, nat_lit 11), (nat_lit 2, nat_lit 13, nat_lit 16), (nat_lit 2, nat_lit 14, nat_lit 17), (nat_lit 6, nat_lit 0, nat_lit 7), (nat_lit 11, nat_lit 0, nat_lit 12), (nat_lit 6, nat_lit 1, nat_lit 8), (nat_lit 11, nat_lit 1, nat_lit 13), (nat_lit 6, nat_lit 2, nat_lit 9), (nat_lit 11, nat_lit 2, nat_lit 14), (nat_lit 6, nat_lit 3, nat_lit 10), (nat_lit 11, nat_lit 3, nat_lit 15), (nat_lit 17, nat_lit 2, nat_lit 18), (nat_lit 17, nat_lit 3, nat_lit 19), (nat_lit 17, nat_lit 4, nat_lit 20), (nat_lit 17, nat_lit 5, nat_lit 21), (nat_lit 17, nat_lit 6, nat_lit 22), (nat_lit 32, nat_lit 8, nat_lit 33), (nat_lit 32, nat_lit 9, nat_lit 34), (nat_lit 32, nat_lit 10, nat_lit 35), (nat_lit 32, nat_lit 11, nat_lit 36), (nat_lit 32, nat_lit 12, nat_lit 41), (nat_lit 32, nat_lit 13, nat_lit 46), (nat_lit 32, nat_lit 14, nat_lit 47), (nat_lit 36, nat_lit 0, nat_lit 37), (nat_lit 41, nat_lit 0, nat_lit 42), (nat_lit 36, nat_lit 1, nat_lit 38), (nat_lit 41, nat_lit 1, nat_lit 43), (nat_lit 36, nat_lit 2, nat_lit 39), (nat_lit 41, nat_lit 2, nat_lit 44), (nat_lit 36, nat_lit 3, nat_lit 40), (nat_lit 41, nat_lit 3, nat_lit 45), (nat_lit 47, nat_lit 2, nat_lit 48), (nat_lit 47, nat_lit 3, nat_lit 49), (nat_lit 47, nat_lit 4, nat_lit 50), (nat_lit 47, nat_lit 5, nat_lit 51), (nat_lit 47, nat_lit 6, nat_lit 52), (nat_lit 60, nat_lit 3, nat_lit 1), (nat_lit 60, nat_lit 9, nat_lit 61), (nat_lit 60, nat_lit 10, nat_lit 62), (nat_lit 60, nat_lit 11, nat_lit 63), (nat_lit 70, nat_lit 8, nat_lit 71), (nat_lit 70, nat_lit 9, nat_lit 72), (nat_lit 70, nat_lit 10, nat_lit 73), (nat_lit 74, nat_lit 8, nat_lit 75), (nat_lit 74, nat_lit 9, nat_lit 76), (nat_lit 74, nat_lit 10, nat_lit 77), (nat_lit 78, nat_lit 8, nat_lit 79), (nat_lit 78, nat_lit 9, nat_lit 80), (nat_lit 78, nat_lit 10, nat_lit 81), (nat_lit 82, nat_lit 8, nat_lit 83), (nat_lit 82, nat_lit 9, nat_lit 84), (nat_lit 82, nat_lit 10, nat_lit 85), (nat_lit 91, nat_lit 1, nat_lit 92), (nat_lit 91, nat_lit 2, nat_lit 93), (nat_lit 91, nat_lit 3, nat_lit 94), (nat_lit 95, nat_lit 2, nat_lit 96), (nat_lit 95, nat_lit 3, nat_lit 97), (nat_lit 95, nat_lit 4, nat_lit 98), (nat_lit 95, nat_lit 5, nat_lit 99), (nat_lit 95, nat_lit 6, nat_lit 100)] [] (fun xs η => sP wl_gs zTr zPgs_needle xs η ∧ pPgs_needle xs η) (fun xs η y η' => sQ wl_gs zTr zOgs_needle zMgs_needle xs η y η' ∧ pQgs_needle xs η y η') :=
  zmet_alt (zmea_gen (mi := (nat_lit 1, nat_lit 1, nat_lit 7, nat_lit 6, nat_lit 1, tX7_needle)) (cd := [(nat_lit 75, nat_lit 0, nat_lit 0, [(.inl (nat_lit 1, (.ofNat (nat_lit 0)))), (.inl (nat_lit 2, (.ofNat (nat_lit 0)))), (.inl (nat_lit 3, (.ofNat (nat_lit 0))))], nat_lit 2, [], [])]) (cu := zUgs_needle) (cs := [(nat_lit 0, zPgs_within, zOgs_within, zMgs_within)]) (iv := zVgs_needle) (po := [zOgs_needle]) (pr := zPgs_needle) (mods := zMgs_needle) (D7 := zDgs_needle) (D0 := zEgs_needle) (Dm := zFgs_needle) (f0 := 18) pCgs_needle qCgs_needle iCgs_needle pPgs_needle (fun xs η _ y η' => pQgs_needle xs η y η') zX_low pr_mtR rfl (List.forall_mem_cons.mpr ⟨zgs_within, fun _ h => nomatch h⟩) (by decide +kernel) (by decide +kernel) (by decide +kernel)
    (by
      intro xs η hr hl hp hpp
      match xs, hl, hp, hpp with
      | [x1], _, hp, hpp =>
        refine List.forall_mem_cons.mpr ⟨?_, List.forall_mem_cons.mpr ⟨?_, List.forall_mem_cons.mpr ⟨?_, fun _ h => nomatch h⟩⟩⟩
        · refine zden_L (n := 2) (ρ := [x1, 0]) rfl ?_
          show ((gC2 wl_gs [(nat_lit 0, zPgs_within, zOgs_within, zMgs_within)] pCgs_needle qCgs_needle) 0).1 [x1, 1, 99] η
          
          exact trivial
        · refine zden_L (n := 2) (ρ := [x1, 0]) rfl ?_
          exact zgs_needle_o0 (ro := ro) x1 η hp hpp
        · refine zden_L (n := 2) (ρ := [x1, 0]) rfl ?_
          exact zgs_needle_o1 (ro := ro) x1 η hp hpp
      )
    (fun _ _ _ _ _ _ _ h => nomatch h)
    (List.forall_mem_cons.mpr ⟨⟨zDgs_needle_0, zEgs_needle_0, zFgs_needle_0, 37, by decide +kernel, (by
      intro xs η0 hlx hp hpp ys η hr hl hI hig
      match ys, hl, hI, hig with
      | [x1, x2, x3, x4], _, hI, hig =>
        refine ⟨?_, ?_⟩
        · refine List.forall_mem_cons.mpr ⟨?_, List.forall_mem_cons.mpr ⟨?_, List.forall_mem_cons.mpr ⟨?_, fun _ h => nomatch h⟩⟩⟩
          · refine zden_L (n := 5) (ρ := [x4, x3, x2, x1, 0]) rfl ?_
            exact zgs_needle_o2 (ro := ro) xs η0 hp hpp x1 x2 x3 x4 η hI hig
          · refine zden_L (n := 5) (ρ := [x4, x3, x2, x1, 0]) rfl ?_
            exact zgs_needle_o3 (ro := ro) xs η0 hp hpp x1 x2 x3 x4 η hI hig
          · refine zden_L (n := 5) (ρ := [x4, x3, x2, x1, 0]) rfl ?_
            exact zgs_needle_o4 (ro := ro) xs η0 hp hpp x1 x2 x3 x4 η hI hig
        · exact fun _ h => nomatch h
      )⟩, (fun _ h => nomatch h)⟩))
def zPgs_bestBit0 : zPq := ([((.negSucc (nat_lit 2147483647)), (.ofNat (nat_lit 0)))], [])
def zOgs_bestBit0 : zPo := (((.negSucc (nat_lit 2147483647)), (.ofNat (nat_lit 2147483647))), [], [])
def zMgs_bestBit0 : List zCe := []
def pPgs_bestBit0 : List Int → zE → Prop := fun _ _ => True
def oQgs_bestBit0 : List Int → zE → Int → zE → Prop := fun _ _ _ _ => True
def fQgs_bestBit0 : List Int → zE → Int → zE → Prop := fun xs η y η' => y = (yv_bb (xs.getD 0 0) η) ∧ η' = η
def pQgs_bestBit0 : List Int → zE → Int → zE → Prop := fun xs η y η' => oQgs_bestBit0 xs η y η' ∧ fQgs_bestBit0 xs η y η'
def pCgs_bestBit0 : Nat → List Int → zE → Prop := fun c => match c with
  | 0 => pPgs_within
  | _ => fun _ _ => True
def qCgs_bestBit0 : Nat → List Int → zE → Int → zE → Prop := fun c => match c with
  | 0 => pQgs_within
  | _ => fun _ _ _ _ => True
def iCgs_bestBit0 : List Int → zE → Nat → List Int → zE → Prop := fun xs η0 c => match c with
  | 0 => fun ys η => (True) ∧ (yv_bI η0 (xs.getD 0 0) (ys.getD 0 0) (ys.getD 1 0) (ys.getD 2 0) (ys.getD 3 0) η)
  | _ => fun _ _ => True
def zVgs_bestBit0 : List zIv := [(nat_lit 0, ([((.ofNat (nat_lit 1)), (.ofNat (nat_lit 0))), ((.negSucc (nat_lit 2147483647)), (.ofNat (nat_lit 2147483647))), ((.negSucc (nat_lit 2147483647)), (.ofNat (nat_lit 2147483647))), ((.ofNat (nat_lit 0)), (.ofNat (nat_lit 0)))], []), ((.ofNat (nat_lit 5)), []))]
def zUgs_bestBit0 : List zCu := [(nat_lit 20, nat_lit 0, [(nat_lit 0, (.inr (.inr (.inl (nat_lit 0))))), (nat_lit 1, (.inl (nat_lit 1, (.ofNat (nat_lit 0))))), (nat_lit 2, (.inl (nat_lit 2, (.ofNat (nat_lit 0))))), (nat_lit 3, (.inl (nat_lit 3, (.ofNat (nat_lit 0))))), (nat_lit 4, (.inl (nat_lit 4, (.ofNat (nat_lit 0)))))], [])]
def zDgs_bestBit0 : List (List zK) := []
def zEgs_bestBit0 : List (List zK) := [[(nat_lit 13, nat_lit 0, [(nat_lit 1, (.ofNat (nat_lit 0))), (nat_lit 0, (.ofNat (nat_lit 1))), (nat_lit 0, (.ofNat (nat_lit 12)))])],
  [(nat_lit 12, nat_lit 0, [(nat_lit 1, (.ofNat (nat_lit 0))), (nat_lit 0, (.negSucc (nat_lit 1))), (nat_lit 0, (.ofNat (nat_lit 0))), (nat_lit 0, (.ofNat (nat_lit 0)))]), (nat_lit 6, nat_lit 1, [(nat_lit 2, (.ofNat (nat_lit 0))), (nat_lit 0, (.ofNat (nat_lit 0)))]), (nat_lit 8, nat_lit 0, [(nat_lit 1, (.ofNat (nat_lit 0))), (nat_lit 0, (.ofNat (nat_lit 1))), (nat_lit 0, (.ofNat (nat_lit 12)))])],
  [(nat_lit 11, nat_lit 0, [(nat_lit 0, (.negSucc (nat_lit 0)))]), (nat_lit 6, nat_lit 0, [(nat_lit 2, (.ofNat (nat_lit 0))), (nat_lit 0, (.ofNat (nat_lit 0)))]), (nat_lit 8, nat_lit 0, [(nat_lit 1, (.ofNat (nat_lit 0))), (nat_lit 0, (.ofNat (nat_lit 1))), (nat_lit 0, (.ofNat (nat_lit 12)))])]]
def zFgs_bestBit0 : List (List zK) := []
def zDgs_bestBit0_0 : List (List zK) := [[(nat_lit 7, nat_lit 3, []), (nat_lit 6, nat_lit 4, [(nat_lit 5, (.ofNat (nat_lit 0))), (nat_lit 6, (.ofNat (nat_lit 0)))]), (nat_lit 4, nat_lit 0, [(nat_lit 2, (.ofNat (nat_lit 0))), (nat_lit 0, (.ofNat (nat_lit 1)))]), (nat_lit 0, nat_lit 1, [(nat_lit 4, (.ofNat (nat_lit 0))), (nat_lit 1, (.ofNat (nat_lit 0)))])],
  [(nat_lit 7, nat_lit 3, []), (nat_lit 6, nat_lit 5, [(nat_lit 5, (.ofNat (nat_lit 0))), (nat_lit 6, (.ofNat (nat_lit 0)))]), (nat_lit 4, nat_lit 0, [(nat_lit 2, (.ofNat (nat_lit 0))), (nat_lit 0, (.ofNat (nat_lit 1)))]), (nat_lit 0, nat_lit 1, [(nat_lit 4, (.ofNat (nat_lit 0))), (nat_lit 1, (.ofNat (nat_lit 0)))])]]
def zEgs_bestBit0_0 : List (List zK) := []
def zFgs_bestBit0_0 : List (List zK) := []
set_option maxHeartbeats 8000000 in
theorem zgs_bestBit0_o0 {ro : Nat → List Int32} (x1 : Int) (η : zE) (hp : sP wl_gs zTr zPgs_bestBit0 [x1] η) (hpp : pPgs_bestBit0 [x1] η) : ∀ (x2 : Int) (η1 : zE), ((gC2 wl_gs [(nat_lit 0, zPgs_within, zOgs_within, zMgs_within)] pCgs_bestBit0 qCgs_bestBit0) 0).2 [x1, 1, 12] η x2 η1 → (¬ x2 = 0) → (iCgs_bestBit0 [x1] η) 0 [x1, (-2), 0, 0] η1 := by
  intro x2 η1 h2 c1
  have y2 : fQgs_within [x1, 1, 12] η x2 η1 := h2.2.2
  have k2 : sQ wl_gs zTr zOgs_within zMgs_within [x1, 1, 12] η x2 η1 ∧ oQgs_within [x1, 1, 12] η x2 η1 := ⟨h2.1, h2.2.1⟩
  refine yj_a ?_ ?_
  · have y2 : fQgs_within [x1, 1, 12] η x2 η1 := h2.2.2
    have k2 : sQ wl_gs zTr zOgs_within zMgs_within [x1, 1, 12] η x2 η1 ∧ oQgs_within [x1, 1, 12] η x2 η1 := ⟨h2.1, h2.2.1⟩
    exact trivial
  · obtain ⟨a2, b2⟩ : x2 = yq_in x1 1 12 ∧ η1 = η := y2
    show yv_bI η x1 x1 (-2) 0 0 η1
    exact vbI_0 b2 (by omega)
set_option maxHeartbeats 8000000 in
theorem zgs_bestBit0_o1 {ro : Nat → List Int32} (x1 : Int) (η : zE) (hp : sP wl_gs zTr zPgs_bestBit0 [x1] η) (hpp : pPgs_bestBit0 [x1] η) : ∀ (x2 : Int) (η1 : zE), ((gC2 wl_gs [(nat_lit 0, zPgs_within, zOgs_within, zMgs_within)] pCgs_bestBit0 qCgs_bestBit0) 0).2 [x1, 1, 12] η x2 η1 → (x2 = 0) → (fun (_ : Nat) (y : Int) (η' : zE) => pQgs_bestBit0 [x1] η y η') 0 (-1) η1 := by
  intro x2 η1 h2 c1
  have y2 : fQgs_within [x1, 1, 12] η x2 η1 := h2.2.2
  have k2 : sQ wl_gs zTr zOgs_within zMgs_within [x1, 1, 12] η x2 η1 ∧ oQgs_within [x1, 1, 12] η x2 η1 := ⟨h2.1, h2.2.1⟩
  refine yj_a ?_ ?_
  · have y2 : fQgs_within [x1, 1, 12] η x2 η1 := h2.2.2
    have k2 : sQ wl_gs zTr zOgs_within zMgs_within [x1, 1, 12] η x2 η1 ∧ oQgs_within [x1, 1, 12] η x2 η1 := ⟨h2.1, h2.2.1⟩
    exact trivial
  · obtain ⟨a2, b2⟩ : x2 = yq_in x1 1 12 ∧ η1 = η := y2
    show -1 = yv_bb x1 η ∧ η1 = η
    exact ⟨by unfold yv_bb; rw [if_pos (by omega)], b2⟩
set_option maxHeartbeats 8000000 in
theorem zgs_bestBit0 {ro : Nat → List Int32} : zMet pr_P pr_K pr_df ro (sm_X0 1 6) 1 98 tm_gs [(.inr (.inr (.inl (nat_lit 0)))), (.inl (nat_lit 1, (.ofNat (nat_lit 0))))] 1 [(nat_lit 0, nat_lit 0, nat_lit 1), (nat_lit 0, nat_lit 4, nat_lit 2), (nat_lit 0, nat_lit 5, nat_lit 32), (nat_lit 0, nat_lit 6, nat_lit 60), (nat_lit 0, nat_lit 7, nat_lit 70), (nat_lit 0, nat_lit 8, nat_lit 74), (nat_lit 0, nat_lit 11, nat_lit 78), (nat_lit 0, nat_lit 12, nat_lit 82), (nat_lit 0, nat_lit 13, nat_lit 90), (nat_lit 0, nat_lit 14, nat_lit 91), (nat_lit 0, nat_lit 15, nat_lit 95), (nat_lit 0, nat_lit 16, nat_lit 101), (nat_lit 2, nat_lit 8, nat_lit 3), (nat_lit 2, nat_lit 9, nat_lit 4), (nat_lit 2, nat_lit 10, nat_lit 5), (nat_lit 2, nat_lit 11, nat_lit 6), (nat_lit 2, nat_lit 12, nat_lit 11), (nat_lit 2, nat_lit 13, nat_lit 16), (nat_lit 2, nat_lit 14, nat_lit 17), (nat_lit 6, nat_lit 0, nat_lit 7), (nat_lit 11, nat_lit 0, nat_lit 12), (nat_lit 6, nat_lit 1, nat_lit 8), (nat_lit 11, nat_lit 1, nat_lit 13), (nat_lit 6, nat_lit 2, nat_lit 9), (nat_lit 11, nat_lit 2, nat_lit 14), (nat_lit 6, nat_lit 3, nat_lit 10), (nat_lit 11, nat_lit 3, nat_lit 15), (nat_lit 17, nat_lit 2, nat_lit 18), (nat_lit 17, nat_lit 3, nat_lit 19), (nat_lit 17, nat_lit 4, nat_lit 20), (nat_lit 17, nat_lit 5, nat_lit 21), (nat_lit 17, nat_lit 6, nat_lit 22), (nat_lit 32, nat_lit 8, nat_lit 33), (nat_lit 32, nat_lit 9, nat_lit 34), (nat_lit 32, nat_lit 10, nat_lit 35), (nat_lit 32, nat_lit 11, nat_lit 36), (nat_lit 32, nat_lit 12, nat_lit 41), (nat_lit 32, nat_lit 13, nat_lit 46), (nat_lit 32, nat_lit 14, nat_lit 47), (nat_lit 36, nat_lit 0, nat_lit 37), (nat_lit 41, nat_lit 0, nat_lit 42), (nat_lit 36, nat_lit 1, nat_lit 38), (nat_lit 41, nat_lit 1, nat_lit 43), (nat_lit 36, nat_lit 2, nat_lit 39), (nat_lit 41, nat_lit 2, nat_lit 44), (nat_lit 36, nat_lit 3, nat_lit 40), (nat_lit 41, nat_lit 3, nat_lit 45), (nat_lit 47, nat_lit 2, nat_lit 48), (nat_lit 47, nat_lit 3, nat_lit 49), (nat_lit 47, nat_lit 4, nat_lit 50), (nat_lit 47, nat_lit 5, nat_lit 51), (nat_lit 47, nat_lit 6, nat_lit 52), (nat_lit 60, nat_lit 3, nat_lit 1), (nat_lit 60, nat_lit 9, nat_lit 61), (nat_lit 60, nat_lit 10, nat_lit 62), (nat_lit 60, nat_lit 11, nat_lit 63), (nat_lit 70, nat_lit 8, nat_lit 71), (nat_lit 70, nat_lit 9, nat_lit 72), (nat_lit 70, nat_lit 10, nat_lit 73), (nat_lit 74, nat_lit 8, nat_lit 75), (nat_lit 74, nat_lit 9, nat_lit 76), (nat_lit 74, nat_lit 10, nat_lit 77), (nat_lit 78, nat_lit 8, nat_lit 79), (nat_lit 78, nat_lit 9, nat_lit 80), (nat_lit 78, nat_lit 10, nat_lit 81), (nat_lit 82, nat_lit 8, nat_lit 83), (nat_lit 82, nat_lit 9, nat_lit 84), (nat_lit 82, nat_lit 10, nat_lit 85), (nat_lit 91, nat_lit 1, nat_lit 92), (nat_lit 91, nat_lit 2, nat_lit 93), (nat_lit 91, nat_lit 3, nat_lit 94), (nat_lit 95, nat_lit 2, nat_lit 96), (nat_lit 95, nat_lit 3, nat_lit 97), (nat_lit 95, nat_lit 4, nat_lit 98), (nat_lit 95, nat_lit 5, nat_lit 99), (nat_lit 95, nat_lit 6, nat_lit 100)] [] (fun xs η => sP wl_gs zTr zPgs_bestBit0 xs η ∧ pPgs_bestBit0 xs η) (fun xs η y η' => sQ wl_gs zTr zOgs_bestBit0 zMgs_bestBit0 xs η y η' ∧ pQgs_bestBit0 xs η y η') :=
  zmet_alt (zmea_gen (mi := (nat_lit 1, nat_lit 1, nat_lit 7, nat_lit 7, nat_lit 1, tX7_bestBit)) (cd := [(nat_lit 75, nat_lit 0, nat_lit 0, [(.inl (nat_lit 1, (.ofNat (nat_lit 0)))), (.inl (nat_lit 2, (.ofNat (nat_lit 0)))), (.inl (nat_lit 3, (.ofNat (nat_lit 0))))], nat_lit 2, [], [])]) (cu := zUgs_bestBit0) (cs := [(nat_lit 0, zPgs_within, zOgs_within, zMgs_within)]) (iv := zVgs_bestBit0) (po := [zOgs_bestBit0]) (pr := zPgs_bestBit0) (mods := zMgs_bestBit0) (D7 := zDgs_bestBit0) (D0 := zEgs_bestBit0) (Dm := zFgs_bestBit0) (f0 := 16) pCgs_bestBit0 qCgs_bestBit0 iCgs_bestBit0 pPgs_bestBit0 (fun xs η _ y η' => pQgs_bestBit0 xs η y η') zX_low pr_mtR rfl (List.forall_mem_cons.mpr ⟨zgs_within, fun _ h => nomatch h⟩) (by decide +kernel) (by decide +kernel) (by decide +kernel)
    (by
      intro xs η hr hl hp hpp
      match xs, hl, hp, hpp with
      | [x1], _, hp, hpp =>
        refine List.forall_mem_cons.mpr ⟨?_, List.forall_mem_cons.mpr ⟨?_, List.forall_mem_cons.mpr ⟨?_, fun _ h => nomatch h⟩⟩⟩
        · refine zden_L (n := 2) (ρ := [x1, 0]) rfl ?_
          show ((gC2 wl_gs [(nat_lit 0, zPgs_within, zOgs_within, zMgs_within)] pCgs_bestBit0 qCgs_bestBit0) 0).1 [x1, 1, 12] η
          
          exact trivial
        · refine zden_L (n := 2) (ρ := [x1, 0]) rfl ?_
          exact zgs_bestBit0_o0 (ro := ro) x1 η hp hpp
        · refine zden_L (n := 2) (ρ := [x1, 0]) rfl ?_
          exact zgs_bestBit0_o1 (ro := ro) x1 η hp hpp
      )
    (fun _ _ _ _ _ _ _ h => nomatch h)
    (List.forall_mem_cons.mpr ⟨⟨zDgs_bestBit0_0, zEgs_bestBit0_0, zFgs_bestBit0_0, 11, by decide +kernel, (by
      intro xs η0 hlx hp hpp ys η hr hl hI hig
      match ys, hl, hI, hig with
      | [x1, x2, x3, x4], _, hI, hig =>
        refine ⟨?_, ?_⟩
        · exact fun _ h => nomatch h
        · exact fun _ h => nomatch h
      )⟩, (fun _ h => nomatch h)⟩))
def zPgs_bestBit1 : zPq := ([((.ofNat (nat_lit 1)), (.ofNat (nat_lit 1)))], [])
def zOgs_bestBit1 : zPo := (((.negSucc (nat_lit 2147483647)), (.ofNat (nat_lit 2147483647))), [], [])
def zMgs_bestBit1 : List zCe := []
def pPgs_bestBit1 : List Int → zE → Prop := fun _ _ => True
def oQgs_bestBit1 : List Int → zE → Int → zE → Prop := fun _ _ _ _ => True
def fQgs_bestBit1 : List Int → zE → Int → zE → Prop := fun xs η y η' => y = (yv_bb (xs.getD 0 0) η) ∧ η' = η
def pQgs_bestBit1 : List Int → zE → Int → zE → Prop := fun xs η y η' => oQgs_bestBit1 xs η y η' ∧ fQgs_bestBit1 xs η y η'
def pCgs_bestBit1 : Nat → List Int → zE → Prop := fun c => match c with
  | 0 => pPgs_within
  | _ => fun _ _ => True
def qCgs_bestBit1 : Nat → List Int → zE → Int → zE → Prop := fun c => match c with
  | 0 => pQgs_within
  | _ => fun _ _ _ _ => True
def iCgs_bestBit1 : List Int → zE → Nat → List Int → zE → Prop := fun xs η0 c => match c with
  | 0 => fun ys η => (True) ∧ (yv_bI η0 (xs.getD 0 0) (ys.getD 0 0) (ys.getD 1 0) (ys.getD 2 0) (ys.getD 3 0) η)
  | 1 => fun ys η => (True) ∧ (yv_bJ η0 (xs.getD 0 0) (ys.getD 0 0) (ys.getD 1 0) (ys.getD 2 0) (ys.getD 3 0) (ys.getD 4 0) (ys.getD 5 0) η)
  | _ => fun _ _ => True
def zVgs_bestBit1 : List zIv := [(nat_lit 0, ([((.ofNat (nat_lit 1)), (.ofNat (nat_lit 1))), ((.negSucc (nat_lit 2147483647)), (.ofNat (nat_lit 2147483647))), ((.negSucc (nat_lit 2147483647)), (.ofNat (nat_lit 2147483647))), ((.ofNat (nat_lit 0)), (.ofNat (nat_lit 12)))], []), ((.ofNat (nat_lit 2000)), [((.negSucc (nat_lit 99)), nat_lit 0, nat_lit 3, nat_lit 0)])), (nat_lit 1, ([((.ofNat (nat_lit 1)), (.ofNat (nat_lit 1))), ((.negSucc (nat_lit 2147483647)), (.ofNat (nat_lit 2147483647))), ((.negSucc (nat_lit 2147483647)), (.ofNat (nat_lit 2147483647))), ((.ofNat (nat_lit 0)), (.ofNat (nat_lit 11))), ((.negSucc (nat_lit 2147483647)), (.ofNat (nat_lit 2147483647))), ((.ofNat (nat_lit 0)), (.ofNat (nat_lit 12)))], []), ((.ofNat (nat_lit 1950)), [((.negSucc (nat_lit 99)), nat_lit 0, nat_lit 3, nat_lit 0), ((.negSucc (nat_lit 0)), nat_lit 0, nat_lit 5, nat_lit 0)]))]
def zUgs_bestBit1 : List zCu := [(nat_lit 20, nat_lit 0, [(nat_lit 0, (.inr (.inr (.inl (nat_lit 0))))), (nat_lit 1, (.inl (nat_lit 1, (.ofNat (nat_lit 0))))), (nat_lit 2, (.inl (nat_lit 2, (.ofNat (nat_lit 0))))), (nat_lit 3, (.inl (nat_lit 3, (.ofNat (nat_lit 0))))), (nat_lit 4, (.inl (nat_lit 4, (.ofNat (nat_lit 0)))))], []), (nat_lit 41, nat_lit 1, [(nat_lit 0, (.inr (.inr (.inl (nat_lit 0))))), (nat_lit 1, (.inl (nat_lit 1, (.ofNat (nat_lit 0))))), (nat_lit 2, (.inl (nat_lit 2, (.ofNat (nat_lit 0))))), (nat_lit 3, (.inl (nat_lit 3, (.ofNat (nat_lit 0))))), (nat_lit 4, (.inl (nat_lit 4, (.ofNat (nat_lit 0))))), (nat_lit 5, (.inl (nat_lit 5, (.ofNat (nat_lit 0))))), (nat_lit 6, (.inl (nat_lit 6, (.ofNat (nat_lit 0)))))], [])]
def zDgs_bestBit1 : List (List zK) := []
def zEgs_bestBit1 : List (List zK) := [[(nat_lit 13, nat_lit 0, [(nat_lit 1, (.ofNat (nat_lit 0))), (nat_lit 0, (.ofNat (nat_lit 1))), (nat_lit 0, (.ofNat (nat_lit 12)))])],
  [(nat_lit 12, nat_lit 0, [(nat_lit 1, (.ofNat (nat_lit 0))), (nat_lit 0, (.negSucc (nat_lit 1))), (nat_lit 0, (.ofNat (nat_lit 0))), (nat_lit 0, (.ofNat (nat_lit 0)))]), (nat_lit 6, nat_lit 1, [(nat_lit 2, (.ofNat (nat_lit 0))), (nat_lit 0, (.ofNat (nat_lit 0)))]), (nat_lit 8, nat_lit 0, [(nat_lit 1, (.ofNat (nat_lit 0))), (nat_lit 0, (.ofNat (nat_lit 1))), (nat_lit 0, (.ofNat (nat_lit 12)))])],
  [(nat_lit 11, nat_lit 0, [(nat_lit 0, (.negSucc (nat_lit 0)))]), (nat_lit 6, nat_lit 0, [(nat_lit 2, (.ofNat (nat_lit 0))), (nat_lit 0, (.ofNat (nat_lit 0)))]), (nat_lit 8, nat_lit 0, [(nat_lit 1, (.ofNat (nat_lit 0))), (nat_lit 0, (.ofNat (nat_lit 1))), (nat_lit 0, (.ofNat (nat_lit 12)))])]]
def zFgs_bestBit1 : List (List zK) := []
def zDgs_bestBit1_0 : List (List zK) := []
def zEgs_bestBit1_0 : List (List zK) := [[(nat_lit 11, nat_lit 0, [(nat_lit 2, (.ofNat (nat_lit 0)))]), (nat_lit 6, nat_lit 4, [(nat_lit 5, (.ofNat (nat_lit 0))), (nat_lit 6, (.ofNat (nat_lit 0)))]), (nat_lit 4, nat_lit 0, [(nat_lit 2, (.ofNat (nat_lit 0))), (nat_lit 0, (.ofNat (nat_lit 1)))]), (nat_lit 0, nat_lit 1, [(nat_lit 4, (.ofNat (nat_lit 0))), (nat_lit 1, (.ofNat (nat_lit 0)))])],
  [(nat_lit 10, nat_lit 1, [(nat_lit 1, (.ofNat (nat_lit 0))), (nat_lit 2, (.ofNat (nat_lit 0))), (nat_lit 3, (.ofNat (nat_lit 0))), (nat_lit 4, (.ofNat (nat_lit 0))), (nat_lit 0, (.ofNat (nat_lit 0))), (nat_lit 4, (.ofNat (nat_lit 0)))]), (nat_lit 6, nat_lit 5, [(nat_lit 5, (.ofNat (nat_lit 0))), (nat_lit 6, (.ofNat (nat_lit 0)))]), (nat_lit 4, nat_lit 0, [(nat_lit 2, (.ofNat (nat_lit 0))), (nat_lit 0, (.ofNat (nat_lit 1)))]), (nat_lit 0, nat_lit 1, [(nat_lit 4, (.ofNat (nat_lit 0))), (nat_lit 1, (.ofNat (nat_lit 0)))])]]
def zFgs_bestBit1_0 : List (List zK) := []
def zDgs_bestBit1_1 : List (List zK) := [[(nat_lit 7, nat_lit 0, [(nat_lit 6, (.ofNat (nat_lit 0))), (nat_lit 0, (.ofNat (nat_lit 12)))]), (nat_lit 6, nat_lit 2, [(nat_lit 6, (.ofNat (nat_lit 0))), (nat_lit 7, (.ofNat (nat_lit 0)))]), (nat_lit 0, nat_lit 1, [(nat_lit 4, (.ofNat (nat_lit 0))), (nat_lit 1, (.ofNat (nat_lit 0)))])]]
def zEgs_bestBit1_1 : List (List zK) := [[(nat_lit 10, nat_lit 0, [(nat_lit 1, (.ofNat (nat_lit 0))), (nat_lit 4, (.ofNat (nat_lit 0))), (nat_lit 5, (.ofNat (nat_lit 0))), (nat_lit 8, (.ofNat (nat_lit 0)))]), (nat_lit 0, nat_lit 1, [(nat_lit 4, (.ofNat (nat_lit 0))), (nat_lit 0, (.ofNat (nat_lit 1)))]), (nat_lit 6, nat_lit 2, [(nat_lit 2, (.ofNat (nat_lit 0))), (nat_lit 0, (.ofNat (nat_lit 0)))]), (nat_lit 6, nat_lit 3, [(nat_lit 6, (.ofNat (nat_lit 0))), (nat_lit 7, (.ofNat (nat_lit 0)))]), (nat_lit 0, nat_lit 1, [(nat_lit 4, (.ofNat (nat_lit 0))), (nat_lit 1, (.ofNat (nat_lit 0)))])],
  [(nat_lit 10, nat_lit 0, [(nat_lit 1, (.ofNat (nat_lit 0))), (nat_lit 2, (.ofNat (nat_lit 0))), (nat_lit 3, (.ofNat (nat_lit 0))), (nat_lit 8, (.ofNat (nat_lit 0)))]), (nat_lit 0, nat_lit 1, [(nat_lit 4, (.ofNat (nat_lit 0))), (nat_lit 0, (.ofNat (nat_lit 1)))]), (nat_lit 6, nat_lit 5, [(nat_lit 5, (.ofNat (nat_lit 0))), (nat_lit 3, (.ofNat (nat_lit 0)))]), (nat_lit 6, nat_lit 3, [(nat_lit 2, (.ofNat (nat_lit 0))), (nat_lit 0, (.ofNat (nat_lit 0)))]), (nat_lit 6, nat_lit 3, [(nat_lit 6, (.ofNat (nat_lit 0))), (nat_lit 7, (.ofNat (nat_lit 0)))]), (nat_lit 0, nat_lit 1, [(nat_lit 4, (.ofNat (nat_lit 0))), (nat_lit 1, (.ofNat (nat_lit 0)))])],
  [(nat_lit 10, nat_lit 0, [(nat_lit 1, (.ofNat (nat_lit 0))), (nat_lit 4, (.ofNat (nat_lit 0))), (nat_lit 5, (.ofNat (nat_lit 0))), (nat_lit 8, (.ofNat (nat_lit 0)))]), (nat_lit 0, nat_lit 1, [(nat_lit 4, (.ofNat (nat_lit 0))), (nat_lit 0, (.ofNat (nat_lit 1)))]), (nat_lit 6, nat_lit 4, [(nat_lit 5, (.ofNat (nat_lit 0))), (nat_lit 3, (.ofNat (nat_lit 0)))]), (nat_lit 6, nat_lit 3, [(nat_lit 2, (.ofNat (nat_lit 0))), (nat_lit 0, (.ofNat (nat_lit 0)))]), (nat_lit 6, nat_lit 3, [(nat_lit 6, (.ofNat (nat_lit 0))), (nat_lit 7, (.ofNat (nat_lit 0)))]), (nat_lit 0, nat_lit 1, [(nat_lit 4, (.ofNat (nat_lit 0))), (nat_lit 1, (.ofNat (nat_lit 0)))])],
  [(nat_lit 10, nat_lit 1, [(nat_lit 1, (.ofNat (nat_lit 0))), (nat_lit 2, (.ofNat (nat_lit 0))), (nat_lit 3, (.ofNat (nat_lit 0))), (nat_lit 4, (.ofNat (nat_lit 0))), (nat_lit 9, (.ofNat (nat_lit 0))), (nat_lit 10, (.ofNat (nat_lit 0)))]), (nat_lit 0, nat_lit 1, [(nat_lit 6, (.ofNat (nat_lit 0))), (nat_lit 0, (.ofNat (nat_lit 1)))]), (nat_lit 0, nat_lit 1, [(nat_lit 5, (.ofNat (nat_lit 0))), (nat_lit 8, (.ofNat (nat_lit 0)))]), (nat_lit 4, nat_lit 0, [(nat_lit 4, (.ofNat (nat_lit 0))), (nat_lit 6, (.ofNat (nat_lit 0)))]), (nat_lit 6, nat_lit 2, [(nat_lit 6, (.ofNat (nat_lit 0))), (nat_lit 7, (.ofNat (nat_lit 0)))]), (nat_lit 0, nat_lit 1, [(nat_lit 4, (.ofNat (nat_lit 0))), (nat_lit 1, (.ofNat (nat_lit 0)))])]]
def zFgs_bestBit1_1 : List (List zK) := []
set_option maxHeartbeats 8000000 in
theorem zgs_bestBit1_o0 {ro : Nat → List Int32} (x1 : Int) (η : zE) (hp : sP wl_gs zTr zPgs_bestBit1 [x1] η) (hpp : pPgs_bestBit1 [x1] η) : ∀ (x2 : Int) (η1 : zE), ((gC2 wl_gs [(nat_lit 0, zPgs_within, zOgs_within, zMgs_within)] pCgs_bestBit1 qCgs_bestBit1) 0).2 [x1, 1, 12] η x2 η1 → (¬ x2 = 0) → (iCgs_bestBit1 [x1] η) 0 [x1, (-2), 0, 0] η1 := by
  intro x2 η1 h2 c1
  have y2 : fQgs_within [x1, 1, 12] η x2 η1 := h2.2.2
  have k2 : sQ wl_gs zTr zOgs_within zMgs_within [x1, 1, 12] η x2 η1 ∧ oQgs_within [x1, 1, 12] η x2 η1 := ⟨h2.1, h2.2.1⟩
  refine yj_a ?_ ?_
  · have y2 : fQgs_within [x1, 1, 12] η x2 η1 := h2.2.2
    have k2 : sQ wl_gs zTr zOgs_within zMgs_within [x1, 1, 12] η x2 η1 ∧ oQgs_within [x1, 1, 12] η x2 η1 := ⟨h2.1, h2.2.1⟩
    exact trivial
  · obtain ⟨a2, b2⟩ : x2 = yq_in x1 1 12 ∧ η1 = η := y2
    show yv_bI η x1 x1 (-2) 0 0 η1
    exact vbI_0 b2 (by omega)
set_option maxHeartbeats 8000000 in
theorem zgs_bestBit1_o1 {ro : Nat → List Int32} (x1 : Int) (η : zE) (hp : sP wl_gs zTr zPgs_bestBit1 [x1] η) (hpp : pPgs_bestBit1 [x1] η) : ∀ (x2 : Int) (η1 : zE), ((gC2 wl_gs [(nat_lit 0, zPgs_within, zOgs_within, zMgs_within)] pCgs_bestBit1 qCgs_bestBit1) 0).2 [x1, 1, 12] η x2 η1 → (x2 = 0) → (fun (_ : Nat) (y : Int) (η' : zE) => pQgs_bestBit1 [x1] η y η') 0 (-1) η1 := by
  intro x2 η1 h2 c1
  have y2 : fQgs_within [x1, 1, 12] η x2 η1 := h2.2.2
  have k2 : sQ wl_gs zTr zOgs_within zMgs_within [x1, 1, 12] η x2 η1 ∧ oQgs_within [x1, 1, 12] η x2 η1 := ⟨h2.1, h2.2.1⟩
  refine yj_a ?_ ?_
  · have y2 : fQgs_within [x1, 1, 12] η x2 η1 := h2.2.2
    have k2 : sQ wl_gs zTr zOgs_within zMgs_within [x1, 1, 12] η x2 η1 ∧ oQgs_within [x1, 1, 12] η x2 η1 := ⟨h2.1, h2.2.1⟩
    exact trivial
  · obtain ⟨a2, b2⟩ : x2 = yq_in x1 1 12 ∧ η1 = η := y2
    show -1 = yv_bb x1 η ∧ η1 = η
    exact ⟨by unfold yv_bb; rw [if_pos (by omega)], b2⟩
set_option maxHeartbeats 8000000 in
theorem zgs_bestBit1_o2 {ro : Nat → List Int32} (xs : List Int) (η0 : zE) (hp : sP wl_gs zTr zPgs_bestBit1 xs η0) (hpp : pPgs_bestBit1 xs η0) (x1 x2 x3 x4 : Int) (η : zE) (hI : zsI wl_gs zTr zVgs_bestBit1 zMgs_bestBit1 η0 0 [x1, x2, x3, x4] η) (hig : iCgs_bestBit1 xs η0 0 [x1, x2, x3, x4] η) : ∀ x5 : Int, x5 = zd 0 1 x4 x1 → ∀ x6 : Int, x6 = η 2 (Int.toNat 1) → zok 0 x6 → (x6 < x5) → (fun (_ : Nat) (y : Int) (η' : zE) => pQgs_bestBit1 xs η0 y η') 0 x2 η := by
  have fig := hig.2
  have hig := hig.1
  intro x5 e5 x6 e6 r6 c1
  refine yj_a ?_ ?_
  · exact trivial
  · have e5 : x5 = zd 0 1 x4 x1 := e5
    have e6 : x6 = η 2 1 := e6
    have b4 : (0 : Int) ≤ x4 ∧ x4 ≤ 12 := hI.1.2.1.2.2.2.1
    exact vbI_e (k := x1) (m := x3) (f := x4) fig (by omega) e5 (by rw [← e6]; omega)
set_option maxHeartbeats 8000000 in
theorem zgs_bestBit1_o3 {ro : Nat → List Int32} (xs : List Int) (η0 : zE) (hp : sP wl_gs zTr zPgs_bestBit1 xs η0) (hpp : pPgs_bestBit1 xs η0) (x1 x2 x3 x4 : Int) (η : zE) (hI : zsI wl_gs zTr zVgs_bestBit1 zMgs_bestBit1 η0 0 [x1, x2, x3, x4] η) (hig : iCgs_bestBit1 xs η0 0 [x1, x2, x3, x4] η) : ∀ x5 : Int, x5 = zd 0 1 x4 x1 → ∀ x6 : Int, x6 = η 2 (Int.toNat 1) → zok 0 x6 → (x5 ≤ x6) → (iCgs_bestBit1 xs η0) 1 [x1, x2, x3, x4, 0, x4] η ∧ (fun (_ : Nat) (_ : List Int) (_ : zE) => (0 : Nat)) 1 [x1, x2, x3, x4, 0, x4] η < 1 := by
  have fig := hig.2
  have hig := hig.1
  intro x5 e5 x6 e6 r6 c1
  refine yj_c ?_ ?_
  · exact ⟨trivial, Nat.zero_lt_one⟩
  · have e5 : x5 = zd 0 1 x4 x1 := e5
    have e6 : x6 = η 2 1 := e6
    have b4 : (0 : Int) ≤ x4 ∧ x4 ≤ 12 := hI.1.2.1.2.2.2.1
    show yv_bJ η0 (xs.getD 0 0) x1 x2 x3 x4 0 x4 η
    exact vbJ_0 fig (by omega) e5 (by rw [← e6]; omega)
set_option maxHeartbeats 8000000 in
theorem zgs_bestBit1_o4 {ro : Nat → List Int32} (xs : List Int) (η0 : zE) (hp : sP wl_gs zTr zPgs_bestBit1 xs η0) (hpp : pPgs_bestBit1 xs η0) (x1 x2 x3 x4 x5 x6 : Int) (η : zE) (hI : zsI wl_gs zTr zVgs_bestBit1 zMgs_bestBit1 η0 1 [x1, x2, x3, x4, x5, x6] η) (hig : iCgs_bestBit1 xs η0 1 [x1, x2, x3, x4, x5, x6] η) : ∀ x7 : Int, x7 = zd 0 1 x4 x1 → (x7 ≤ x6) → (x2 < 0) → ∀ x8 : Int, x8 = zd 0 1 x4 1 → (iCgs_bestBit1 xs η0) 0 [x1, x4, x5, x8] η ∧ (fun (_ : Nat) (_ : List Int) (_ : zE) => (0 : Nat)) 0 [x1, x4, x5, x8] η < 1 := by
  have fig := hig.2
  have hig := hig.1
  intro x7 e7 c1 c2 x8 e8
  refine yj_c ?_ ?_
  · exact ⟨trivial, Nat.zero_lt_one⟩
  · have e7 : x7 = zd 0 1 x4 x1 := e7
    have e8 : x8 = zd 0 1 x4 1 := e8
    have b4 : (0 : Int) ≤ x4 ∧ x4 ≤ 11 := hI.1.2.1.2.2.2.1
    show yv_bI η0 (xs.getD 0 0) x1 x4 x5 x8 η
    refine vbJ_e (b := x2) (m := x3) (k := x1) (f := x4) (g := x6) (s := x5) fig (by omega) e7 (by omega) e8 ?_
    rw [if_pos (by omega)]
set_option maxHeartbeats 8000000 in
theorem zgs_bestBit1_o5 {ro : Nat → List Int32} (xs : List Int) (η0 : zE) (hp : sP wl_gs zTr zPgs_bestBit1 xs η0) (hpp : pPgs_bestBit1 xs η0) (x1 x2 x3 x4 x5 x6 : Int) (η : zE) (hI : zsI wl_gs zTr zVgs_bestBit1 zMgs_bestBit1 η0 1 [x1, x2, x3, x4, x5, x6] η) (hig : iCgs_bestBit1 xs η0 1 [x1, x2, x3, x4, x5, x6] η) : ∀ x7 : Int, x7 = zd 0 1 x4 x1 → (x7 ≤ x6) → (0 ≤ x2) → (x5 ≤ x3) → ∀ x8 : Int, x8 = zd 0 1 x4 1 → (iCgs_bestBit1 xs η0) 0 [x1, x2, x3, x8] η ∧ (fun (_ : Nat) (_ : List Int) (_ : zE) => (0 : Nat)) 0 [x1, x2, x3, x8] η < 1 := by
  have fig := hig.2
  have hig := hig.1
  intro x7 e7 c1 c2 c3 x8 e8
  refine yj_c ?_ ?_
  · exact ⟨trivial, Nat.zero_lt_one⟩
  · have e7 : x7 = zd 0 1 x4 x1 := e7
    have e8 : x8 = zd 0 1 x4 1 := e8
    have b4 : (0 : Int) ≤ x4 ∧ x4 ≤ 11 := hI.1.2.1.2.2.2.1
    show yv_bI η0 (xs.getD 0 0) x1 x2 x3 x8 η
    refine vbJ_e (b := x2) (m := x3) (k := x1) (f := x4) (g := x6) (s := x5) fig (by omega) e7 (by omega) e8 ?_
    rw [if_neg (by omega)]
set_option maxHeartbeats 8000000 in
theorem zgs_bestBit1_o6 {ro : Nat → List Int32} (xs : List Int) (η0 : zE) (hp : sP wl_gs zTr zPgs_bestBit1 xs η0) (hpp : pPgs_bestBit1 xs η0) (x1 x2 x3 x4 x5 x6 : Int) (η : zE) (hI : zsI wl_gs zTr zVgs_bestBit1 zMgs_bestBit1 η0 1 [x1, x2, x3, x4, x5, x6] η) (hig : iCgs_bestBit1 xs η0 1 [x1, x2, x3, x4, x5, x6] η) : ∀ x7 : Int, x7 = zd 0 1 x4 x1 → (x7 ≤ x6) → (0 ≤ x2) → (x3 < x5) → ∀ x8 : Int, x8 = zd 0 1 x4 1 → (iCgs_bestBit1 xs η0) 0 [x1, x4, x5, x8] η ∧ (fun (_ : Nat) (_ : List Int) (_ : zE) => (0 : Nat)) 0 [x1, x4, x5, x8] η < 1 := by
  have fig := hig.2
  have hig := hig.1
  intro x7 e7 c1 c2 c3 x8 e8
  refine yj_c ?_ ?_
  · exact ⟨trivial, Nat.zero_lt_one⟩
  · have e7 : x7 = zd 0 1 x4 x1 := e7
    have e8 : x8 = zd 0 1 x4 1 := e8
    have b4 : (0 : Int) ≤ x4 ∧ x4 ≤ 11 := hI.1.2.1.2.2.2.1
    show yv_bI η0 (xs.getD 0 0) x1 x4 x5 x8 η
    refine vbJ_e (b := x2) (m := x3) (k := x1) (f := x4) (g := x6) (s := x5) fig (by omega) e7 (by omega) e8 ?_
    rw [if_pos (by omega)]
set_option maxHeartbeats 8000000 in
theorem zgs_bestBit1_o7 {ro : Nat → List Int32} (xs : List Int) (η0 : zE) (hp : sP wl_gs zTr zPgs_bestBit1 xs η0) (hpp : pPgs_bestBit1 xs η0) (x1 x2 x3 x4 x5 x6 : Int) (η : zE) (hI : zsI wl_gs zTr zVgs_bestBit1 zMgs_bestBit1 η0 1 [x1, x2, x3, x4, x5, x6] η) (hig : iCgs_bestBit1 xs η0 1 [x1, x2, x3, x4, x5, x6] η) : ∀ x7 : Int, x7 = zd 0 1 x4 x1 → (x6 < x7) → ∀ x8 : Int, x8 = η 4 (Int.toNat x6) → zok 0 x8 → ∀ x9 : Int, x9 = zd 0 1 x5 x8 → ∀ x10 : Int, x10 = zd 0 1 x6 1 → (iCgs_bestBit1 xs η0) 1 [x1, x2, x3, x4, x9, x10] η ∧ (fun (_ : Nat) (_ : List Int) (_ : zE) => (0 : Nat)) 1 [x1, x2, x3, x4, x9, x10] η < 1 := by
  have fig := hig.2
  have hig := hig.1
  intro x7 e7 c1 x8 e8 r8 x9 e9 x10 e10
  refine yj_c ?_ ?_
  · exact ⟨trivial, Nat.zero_lt_one⟩
  · have e7 : x7 = zd 0 1 x4 x1 := e7
    have e8 : x8 = η 4 (Int.toNat x6) := e8
    have e9 : x9 = zd 0 1 x5 x8 := e9
    have e10 : x10 = zd 0 1 x6 1 := e10
    have b4 : (0 : Int) ≤ x4 ∧ x4 ≤ 11 := hI.1.2.1.2.2.2.1
    show yv_bJ η0 (xs.getD 0 0) x1 x2 x3 x4 x9 x10 η
    exact vbJ_s (k := x1) (f := x4) (g := x6) fig (by omega) e7 (by omega) e8 e9 e10
set_option maxHeartbeats 8000000 in
theorem zgs_bestBit1 {ro : Nat → List Int32} : zMet pr_P pr_K pr_df ro (sm_X0 1 6) 1 98 tm_gs [(.inr (.inr (.inl (nat_lit 0)))), (.inl (nat_lit 1, (.ofNat (nat_lit 0))))] 1 [(nat_lit 0, nat_lit 0, nat_lit 1), (nat_lit 0, nat_lit 4, nat_lit 2), (nat_lit 0, nat_lit 5, nat_lit 32), (nat_lit 0, nat_lit 6, nat_lit 60), (nat_lit 0, nat_lit 7, nat_lit 70), (nat_lit 0, nat_lit 8, nat_lit 74), (nat_lit 0, nat_lit 11, nat_lit 78), (nat_lit 0, nat_lit 12, nat_lit 82), (nat_lit 0, nat_lit 13, nat_lit 90), (nat_lit 0, nat_lit 14, nat_lit 91), (nat_lit 0, nat_lit 15, nat_lit 95), (nat_lit 0, nat_lit 16, nat_lit 101), (nat_lit 2, nat_lit 8, nat_lit 3), (nat_lit 2, nat_lit 9, nat_lit 4), (nat_lit 2, nat_lit 10, nat_lit 5), (nat_lit 2, nat_lit 11, nat_lit 6), (nat_lit 2, nat_lit 12, nat_lit 11), (nat_lit 2, nat_lit 13, nat_lit 16), (nat_lit 2, nat_lit 14, nat_lit 17), (nat_lit 6, nat_lit 0, nat_lit 7), (nat_lit 11, nat_lit 0, nat_lit 12), (nat_lit 6, nat_lit 1, nat_lit 8), (nat_lit 11, nat_lit 1, nat_lit 13), (nat_lit 6, nat_lit 2, nat_lit 9), (nat_lit 11, nat_lit 2, nat_lit 14), (nat_lit 6, nat_lit 3, nat_lit 10), (nat_lit 11, nat_lit 3, nat_lit 15), (nat_lit 17, nat_lit 2, nat_lit 18), (nat_lit 17, nat_lit 3, nat_lit 19), (nat_lit 17, nat_lit 4, nat_lit 20), (nat_lit 17, nat_lit 5, nat_lit 21), (nat_lit 17, nat_lit 6, nat_lit 22), (nat_lit 32, nat_lit 8, nat_lit 33), (nat_lit 32, nat_lit 9, nat_lit 34), (nat_lit 32, nat_lit 10, nat_lit 35), (nat_lit 32, nat_lit 11, nat_lit 36), (nat_lit 32, nat_lit 12, nat_lit 41), (nat_lit 32, nat_lit 13, nat_lit 46), (nat_lit 32, nat_lit 14, nat_lit 47), (nat_lit 36, nat_lit 0, nat_lit 37), (nat_lit 41, nat_lit 0, nat_lit 42), (nat_lit 36, nat_lit 1, nat_lit 38), (nat_lit 41, nat_lit 1, nat_lit 43), (nat_lit 36, nat_lit 2, nat_lit 39), (nat_lit 41, nat_lit 2, nat_lit 44), (nat_lit 36, nat_lit 3, nat_lit 40), (nat_lit 41, nat_lit 3, nat_lit 45), (nat_lit 47, nat_lit 2, nat_lit 48), (nat_lit 47, nat_lit 3, nat_lit 49), (nat_lit 47, nat_lit 4, nat_lit 50), (nat_lit 47, nat_lit 5, nat_lit 51), (nat_lit 47, nat_lit 6, nat_lit 52), (nat_lit 60, nat_lit 3, nat_lit 1), (nat_lit 60, nat_lit 9, nat_lit 61), (nat_lit 60, nat_lit 10, nat_lit 62), (nat_lit 60, nat_lit 11, nat_lit 63), (nat_lit 70, nat_lit 8, nat_lit 71), (nat_lit 70, nat_lit 9, nat_lit 72), (nat_lit 70, nat_lit 10, nat_lit 73), (nat_lit 74, nat_lit 8, nat_lit 75), (nat_lit 74, nat_lit 9, nat_lit 76), (nat_lit 74, nat_lit 10, nat_lit 77), (nat_lit 78, nat_lit 8, nat_lit 79), (nat_lit 78, nat_lit 9, nat_lit 80), (nat_lit 78, nat_lit 10, nat_lit 81), (nat_lit 82, nat_lit 8, nat_lit 83), (nat_lit 82, nat_lit 9, nat_lit 84), (nat_lit 82, nat_lit 10, nat_lit 85), (nat_lit 91, nat_lit 1, nat_lit 92), (nat_lit 91, nat_lit 2, nat_lit 93), (nat_lit 91, nat_lit 3, nat_lit 94), (nat_lit 95, nat_lit 2, nat_lit 96), (nat_lit 95, nat_lit 3, nat_lit 97), (nat_lit 95, nat_lit 4, nat_lit 98), (nat_lit 95, nat_lit 5, nat_lit 99), (nat_lit 95, nat_lit 6, nat_lit 100)] [] (fun xs η => sP wl_gs zTr zPgs_bestBit1 xs η ∧ pPgs_bestBit1 xs η) (fun xs η y η' => sQ wl_gs zTr zOgs_bestBit1 zMgs_bestBit1 xs η y η' ∧ pQgs_bestBit1 xs η y η') :=
  zmet_alt (zmea_gen (mi := (nat_lit 1, nat_lit 1, nat_lit 7, nat_lit 7, nat_lit 1, tX7_bestBit)) (cd := [(nat_lit 75, nat_lit 0, nat_lit 0, [(.inl (nat_lit 1, (.ofNat (nat_lit 0)))), (.inl (nat_lit 2, (.ofNat (nat_lit 0)))), (.inl (nat_lit 3, (.ofNat (nat_lit 0))))], nat_lit 2, [], [])]) (cu := zUgs_bestBit1) (cs := [(nat_lit 0, zPgs_within, zOgs_within, zMgs_within)]) (iv := zVgs_bestBit1) (po := [zOgs_bestBit1]) (pr := zPgs_bestBit1) (mods := zMgs_bestBit1) (D7 := zDgs_bestBit1) (D0 := zEgs_bestBit1) (Dm := zFgs_bestBit1) (f0 := 16) pCgs_bestBit1 qCgs_bestBit1 iCgs_bestBit1 pPgs_bestBit1 (fun xs η _ y η' => pQgs_bestBit1 xs η y η') zX_low pr_mtR rfl (List.forall_mem_cons.mpr ⟨zgs_within, fun _ h => nomatch h⟩) (by decide +kernel) (by decide +kernel) (by decide +kernel)
    (by
      intro xs η hr hl hp hpp
      match xs, hl, hp, hpp with
      | [x1], _, hp, hpp =>
        refine List.forall_mem_cons.mpr ⟨?_, List.forall_mem_cons.mpr ⟨?_, List.forall_mem_cons.mpr ⟨?_, fun _ h => nomatch h⟩⟩⟩
        · refine zden_L (n := 2) (ρ := [x1, 0]) rfl ?_
          show ((gC2 wl_gs [(nat_lit 0, zPgs_within, zOgs_within, zMgs_within)] pCgs_bestBit1 qCgs_bestBit1) 0).1 [x1, 1, 12] η
          
          exact trivial
        · refine zden_L (n := 2) (ρ := [x1, 0]) rfl ?_
          exact zgs_bestBit1_o0 (ro := ro) x1 η hp hpp
        · refine zden_L (n := 2) (ρ := [x1, 0]) rfl ?_
          exact zgs_bestBit1_o1 (ro := ro) x1 η hp hpp
      )
    (fun _ _ _ _ _ _ _ h => nomatch h)
    (List.forall_mem_cons.mpr ⟨⟨zDgs_bestBit1_0, zEgs_bestBit1_0, zFgs_bestBit1_0, 16, by decide +kernel, (by
      intro xs η0 hlx hp hpp ys η hr hl hI hig
      match ys, hl, hI, hig with
      | [x1, x2, x3, x4], _, hI, hig =>
        refine ⟨?_, ?_⟩
        · refine List.forall_mem_cons.mpr ⟨?_, List.forall_mem_cons.mpr ⟨?_, fun _ h => nomatch h⟩⟩
          · refine zden_L (n := 5) (ρ := [x4, x3, x2, x1, 0]) rfl ?_
            exact zgs_bestBit1_o2 (ro := ro) xs η0 hp hpp x1 x2 x3 x4 η hI hig
          · refine zden_L (n := 5) (ρ := [x4, x3, x2, x1, 0]) rfl ?_
            exact zgs_bestBit1_o3 (ro := ro) xs η0 hp hpp x1 x2 x3 x4 η hI hig
        · exact fun _ h => nomatch h
      )⟩, (List.forall_mem_cons.mpr ⟨⟨zDgs_bestBit1_1, zEgs_bestBit1_1, zFgs_bestBit1_1, 21, by decide +kernel, (by
      intro xs η0 hlx hp hpp ys η hr hl hI hig
      match ys, hl, hI, hig with
      | [x1, x2, x3, x4, x5, x6], _, hI, hig =>
        refine ⟨?_, ?_⟩
        · refine List.forall_mem_cons.mpr ⟨?_, List.forall_mem_cons.mpr ⟨?_, List.forall_mem_cons.mpr ⟨?_, List.forall_mem_cons.mpr ⟨?_, fun _ h => nomatch h⟩⟩⟩⟩
          · refine zden_L (n := 7) (ρ := [x6, x5, x4, x3, x2, x1, 0]) rfl ?_
            exact zgs_bestBit1_o4 (ro := ro) xs η0 hp hpp x1 x2 x3 x4 x5 x6 η hI hig
          · refine zden_L (n := 7) (ρ := [x6, x5, x4, x3, x2, x1, 0]) rfl ?_
            exact zgs_bestBit1_o5 (ro := ro) xs η0 hp hpp x1 x2 x3 x4 x5 x6 η hI hig
          · refine zden_L (n := 7) (ρ := [x6, x5, x4, x3, x2, x1, 0]) rfl ?_
            exact zgs_bestBit1_o6 (ro := ro) xs η0 hp hpp x1 x2 x3 x4 x5 x6 η hI hig
          · refine zden_L (n := 7) (ρ := [x6, x5, x4, x3, x2, x1, 0]) rfl ?_
            exact zgs_bestBit1_o7 (ro := ro) xs η0 hp hpp x1 x2 x3 x4 x5 x6 η hI hig
        · exact fun _ h => nomatch h
      )⟩, (fun _ h => nomatch h)⟩)⟩))
def zPgs_bestBit2 : zPq := ([((.ofNat (nat_lit 2)), (.ofNat (nat_lit 2)))], [])
def zOgs_bestBit2 : zPo := (((.negSucc (nat_lit 2147483647)), (.ofNat (nat_lit 2147483647))), [], [])
def zMgs_bestBit2 : List zCe := []
def pPgs_bestBit2 : List Int → zE → Prop := fun _ _ => True
def oQgs_bestBit2 : List Int → zE → Int → zE → Prop := fun _ _ _ _ => True
def fQgs_bestBit2 : List Int → zE → Int → zE → Prop := fun xs η y η' => y = (yv_bb (xs.getD 0 0) η) ∧ η' = η
def pQgs_bestBit2 : List Int → zE → Int → zE → Prop := fun xs η y η' => oQgs_bestBit2 xs η y η' ∧ fQgs_bestBit2 xs η y η'
def pCgs_bestBit2 : Nat → List Int → zE → Prop := fun c => match c with
  | 0 => pPgs_within
  | _ => fun _ _ => True
def qCgs_bestBit2 : Nat → List Int → zE → Int → zE → Prop := fun c => match c with
  | 0 => pQgs_within
  | _ => fun _ _ _ _ => True
def iCgs_bestBit2 : List Int → zE → Nat → List Int → zE → Prop := fun xs η0 c => match c with
  | 0 => fun ys η => (True) ∧ (yv_bI η0 (xs.getD 0 0) (ys.getD 0 0) (ys.getD 1 0) (ys.getD 2 0) (ys.getD 3 0) η)
  | 1 => fun ys η => (True) ∧ (yv_bJ η0 (xs.getD 0 0) (ys.getD 0 0) (ys.getD 1 0) (ys.getD 2 0) (ys.getD 3 0) (ys.getD 4 0) (ys.getD 5 0) η)
  | _ => fun _ _ => True
def zVgs_bestBit2 : List zIv := [(nat_lit 0, ([((.ofNat (nat_lit 2)), (.ofNat (nat_lit 2))), ((.negSucc (nat_lit 2147483647)), (.ofNat (nat_lit 2147483647))), ((.negSucc (nat_lit 2147483647)), (.ofNat (nat_lit 2147483647))), ((.ofNat (nat_lit 0)), (.ofNat (nat_lit 11)))], []), ((.ofNat (nat_lit 2000)), [((.negSucc (nat_lit 99)), nat_lit 0, nat_lit 3, nat_lit 0)])), (nat_lit 1, ([((.ofNat (nat_lit 2)), (.ofNat (nat_lit 2))), ((.negSucc (nat_lit 2147483647)), (.ofNat (nat_lit 2147483647))), ((.negSucc (nat_lit 2147483647)), (.ofNat (nat_lit 2147483647))), ((.ofNat (nat_lit 0)), (.ofNat (nat_lit 10))), ((.negSucc (nat_lit 2147483647)), (.ofNat (nat_lit 2147483647))), ((.ofNat (nat_lit 0)), (.ofNat (nat_lit 12)))], []), ((.ofNat (nat_lit 1950)), [((.negSucc (nat_lit 99)), nat_lit 0, nat_lit 3, nat_lit 0), ((.negSucc (nat_lit 0)), nat_lit 0, nat_lit 5, nat_lit 0)]))]
def zUgs_bestBit2 : List zCu := [(nat_lit 20, nat_lit 0, [(nat_lit 0, (.inr (.inr (.inl (nat_lit 0))))), (nat_lit 1, (.inl (nat_lit 1, (.ofNat (nat_lit 0))))), (nat_lit 2, (.inl (nat_lit 2, (.ofNat (nat_lit 0))))), (nat_lit 3, (.inl (nat_lit 3, (.ofNat (nat_lit 0))))), (nat_lit 4, (.inl (nat_lit 4, (.ofNat (nat_lit 0)))))], []), (nat_lit 41, nat_lit 1, [(nat_lit 0, (.inr (.inr (.inl (nat_lit 0))))), (nat_lit 1, (.inl (nat_lit 1, (.ofNat (nat_lit 0))))), (nat_lit 2, (.inl (nat_lit 2, (.ofNat (nat_lit 0))))), (nat_lit 3, (.inl (nat_lit 3, (.ofNat (nat_lit 0))))), (nat_lit 4, (.inl (nat_lit 4, (.ofNat (nat_lit 0))))), (nat_lit 5, (.inl (nat_lit 5, (.ofNat (nat_lit 0))))), (nat_lit 6, (.inl (nat_lit 6, (.ofNat (nat_lit 0)))))], [])]
def zDgs_bestBit2 : List (List zK) := []
def zEgs_bestBit2 : List (List zK) := [[(nat_lit 13, nat_lit 0, [(nat_lit 1, (.ofNat (nat_lit 0))), (nat_lit 0, (.ofNat (nat_lit 1))), (nat_lit 0, (.ofNat (nat_lit 12)))])],
  [(nat_lit 12, nat_lit 0, [(nat_lit 1, (.ofNat (nat_lit 0))), (nat_lit 0, (.negSucc (nat_lit 1))), (nat_lit 0, (.ofNat (nat_lit 0))), (nat_lit 0, (.ofNat (nat_lit 0)))]), (nat_lit 6, nat_lit 1, [(nat_lit 2, (.ofNat (nat_lit 0))), (nat_lit 0, (.ofNat (nat_lit 0)))]), (nat_lit 8, nat_lit 0, [(nat_lit 1, (.ofNat (nat_lit 0))), (nat_lit 0, (.ofNat (nat_lit 1))), (nat_lit 0, (.ofNat (nat_lit 12)))])],
  [(nat_lit 11, nat_lit 0, [(nat_lit 0, (.negSucc (nat_lit 0)))]), (nat_lit 6, nat_lit 0, [(nat_lit 2, (.ofNat (nat_lit 0))), (nat_lit 0, (.ofNat (nat_lit 0)))]), (nat_lit 8, nat_lit 0, [(nat_lit 1, (.ofNat (nat_lit 0))), (nat_lit 0, (.ofNat (nat_lit 1))), (nat_lit 0, (.ofNat (nat_lit 12)))])]]
def zFgs_bestBit2 : List (List zK) := []
def zDgs_bestBit2_0 : List (List zK) := []
def zEgs_bestBit2_0 : List (List zK) := [[(nat_lit 11, nat_lit 0, [(nat_lit 2, (.ofNat (nat_lit 0)))]), (nat_lit 6, nat_lit 4, [(nat_lit 5, (.ofNat (nat_lit 0))), (nat_lit 6, (.ofNat (nat_lit 0)))]), (nat_lit 4, nat_lit 0, [(nat_lit 2, (.ofNat (nat_lit 0))), (nat_lit 0, (.ofNat (nat_lit 1)))]), (nat_lit 0, nat_lit 1, [(nat_lit 4, (.ofNat (nat_lit 0))), (nat_lit 1, (.ofNat (nat_lit 0)))])],
  [(nat_lit 10, nat_lit 1, [(nat_lit 1, (.ofNat (nat_lit 0))), (nat_lit 2, (.ofNat (nat_lit 0))), (nat_lit 3, (.ofNat (nat_lit 0))), (nat_lit 4, (.ofNat (nat_lit 0))), (nat_lit 0, (.ofNat (nat_lit 0))), (nat_lit 4, (.ofNat (nat_lit 0)))]), (nat_lit 6, nat_lit 5, [(nat_lit 5, (.ofNat (nat_lit 0))), (nat_lit 6, (.ofNat (nat_lit 0)))]), (nat_lit 4, nat_lit 0, [(nat_lit 2, (.ofNat (nat_lit 0))), (nat_lit 0, (.ofNat (nat_lit 1)))]), (nat_lit 0, nat_lit 1, [(nat_lit 4, (.ofNat (nat_lit 0))), (nat_lit 1, (.ofNat (nat_lit 0)))])]]
def zFgs_bestBit2_0 : List (List zK) := []
def zDgs_bestBit2_1 : List (List zK) := [[(nat_lit 7, nat_lit 0, [(nat_lit 6, (.ofNat (nat_lit 0))), (nat_lit 0, (.ofNat (nat_lit 12)))]), (nat_lit 6, nat_lit 2, [(nat_lit 6, (.ofNat (nat_lit 0))), (nat_lit 7, (.ofNat (nat_lit 0)))]), (nat_lit 0, nat_lit 1, [(nat_lit 4, (.ofNat (nat_lit 0))), (nat_lit 1, (.ofNat (nat_lit 0)))])]]
def zEgs_bestBit2_1 : List (List zK) := [[(nat_lit 10, nat_lit 0, [(nat_lit 1, (.ofNat (nat_lit 0))), (nat_lit 4, (.ofNat (nat_lit 0))), (nat_lit 5, (.ofNat (nat_lit 0))), (nat_lit 8, (.ofNat (nat_lit 0)))]), (nat_lit 0, nat_lit 1, [(nat_lit 4, (.ofNat (nat_lit 0))), (nat_lit 0, (.ofNat (nat_lit 1)))]), (nat_lit 6, nat_lit 2, [(nat_lit 2, (.ofNat (nat_lit 0))), (nat_lit 0, (.ofNat (nat_lit 0)))]), (nat_lit 6, nat_lit 3, [(nat_lit 6, (.ofNat (nat_lit 0))), (nat_lit 7, (.ofNat (nat_lit 0)))]), (nat_lit 0, nat_lit 1, [(nat_lit 4, (.ofNat (nat_lit 0))), (nat_lit 1, (.ofNat (nat_lit 0)))])],
  [(nat_lit 10, nat_lit 0, [(nat_lit 1, (.ofNat (nat_lit 0))), (nat_lit 2, (.ofNat (nat_lit 0))), (nat_lit 3, (.ofNat (nat_lit 0))), (nat_lit 8, (.ofNat (nat_lit 0)))]), (nat_lit 0, nat_lit 1, [(nat_lit 4, (.ofNat (nat_lit 0))), (nat_lit 0, (.ofNat (nat_lit 1)))]), (nat_lit 6, nat_lit 5, [(nat_lit 5, (.ofNat (nat_lit 0))), (nat_lit 3, (.ofNat (nat_lit 0)))]), (nat_lit 6, nat_lit 3, [(nat_lit 2, (.ofNat (nat_lit 0))), (nat_lit 0, (.ofNat (nat_lit 0)))]), (nat_lit 6, nat_lit 3, [(nat_lit 6, (.ofNat (nat_lit 0))), (nat_lit 7, (.ofNat (nat_lit 0)))]), (nat_lit 0, nat_lit 1, [(nat_lit 4, (.ofNat (nat_lit 0))), (nat_lit 1, (.ofNat (nat_lit 0)))])],
  [(nat_lit 10, nat_lit 0, [(nat_lit 1, (.ofNat (nat_lit 0))), (nat_lit 4, (.ofNat (nat_lit 0))), (nat_lit 5, (.ofNat (nat_lit 0))), (nat_lit 8, (.ofNat (nat_lit 0)))]), (nat_lit 0, nat_lit 1, [(nat_lit 4, (.ofNat (nat_lit 0))), (nat_lit 0, (.ofNat (nat_lit 1)))]), (nat_lit 6, nat_lit 4, [(nat_lit 5, (.ofNat (nat_lit 0))), (nat_lit 3, (.ofNat (nat_lit 0)))]), (nat_lit 6, nat_lit 3, [(nat_lit 2, (.ofNat (nat_lit 0))), (nat_lit 0, (.ofNat (nat_lit 0)))]), (nat_lit 6, nat_lit 3, [(nat_lit 6, (.ofNat (nat_lit 0))), (nat_lit 7, (.ofNat (nat_lit 0)))]), (nat_lit 0, nat_lit 1, [(nat_lit 4, (.ofNat (nat_lit 0))), (nat_lit 1, (.ofNat (nat_lit 0)))])],
  [(nat_lit 10, nat_lit 1, [(nat_lit 1, (.ofNat (nat_lit 0))), (nat_lit 2, (.ofNat (nat_lit 0))), (nat_lit 3, (.ofNat (nat_lit 0))), (nat_lit 4, (.ofNat (nat_lit 0))), (nat_lit 9, (.ofNat (nat_lit 0))), (nat_lit 10, (.ofNat (nat_lit 0)))]), (nat_lit 0, nat_lit 1, [(nat_lit 6, (.ofNat (nat_lit 0))), (nat_lit 0, (.ofNat (nat_lit 1)))]), (nat_lit 0, nat_lit 1, [(nat_lit 5, (.ofNat (nat_lit 0))), (nat_lit 8, (.ofNat (nat_lit 0)))]), (nat_lit 4, nat_lit 0, [(nat_lit 4, (.ofNat (nat_lit 0))), (nat_lit 6, (.ofNat (nat_lit 0)))]), (nat_lit 6, nat_lit 2, [(nat_lit 6, (.ofNat (nat_lit 0))), (nat_lit 7, (.ofNat (nat_lit 0)))]), (nat_lit 0, nat_lit 1, [(nat_lit 4, (.ofNat (nat_lit 0))), (nat_lit 1, (.ofNat (nat_lit 0)))])]]
def zFgs_bestBit2_1 : List (List zK) := []
set_option maxHeartbeats 8000000 in
theorem zgs_bestBit2_o0 {ro : Nat → List Int32} (x1 : Int) (η : zE) (hp : sP wl_gs zTr zPgs_bestBit2 [x1] η) (hpp : pPgs_bestBit2 [x1] η) : ∀ (x2 : Int) (η1 : zE), ((gC2 wl_gs [(nat_lit 0, zPgs_within, zOgs_within, zMgs_within)] pCgs_bestBit2 qCgs_bestBit2) 0).2 [x1, 1, 12] η x2 η1 → (¬ x2 = 0) → (iCgs_bestBit2 [x1] η) 0 [x1, (-2), 0, 0] η1 := by
  intro x2 η1 h2 c1
  have y2 : fQgs_within [x1, 1, 12] η x2 η1 := h2.2.2
  have k2 : sQ wl_gs zTr zOgs_within zMgs_within [x1, 1, 12] η x2 η1 ∧ oQgs_within [x1, 1, 12] η x2 η1 := ⟨h2.1, h2.2.1⟩
  refine yj_a ?_ ?_
  · have y2 : fQgs_within [x1, 1, 12] η x2 η1 := h2.2.2
    have k2 : sQ wl_gs zTr zOgs_within zMgs_within [x1, 1, 12] η x2 η1 ∧ oQgs_within [x1, 1, 12] η x2 η1 := ⟨h2.1, h2.2.1⟩
    exact trivial
  · obtain ⟨a2, b2⟩ : x2 = yq_in x1 1 12 ∧ η1 = η := y2
    show yv_bI η x1 x1 (-2) 0 0 η1
    exact vbI_0 b2 (by omega)
set_option maxHeartbeats 8000000 in
theorem zgs_bestBit2_o1 {ro : Nat → List Int32} (x1 : Int) (η : zE) (hp : sP wl_gs zTr zPgs_bestBit2 [x1] η) (hpp : pPgs_bestBit2 [x1] η) : ∀ (x2 : Int) (η1 : zE), ((gC2 wl_gs [(nat_lit 0, zPgs_within, zOgs_within, zMgs_within)] pCgs_bestBit2 qCgs_bestBit2) 0).2 [x1, 1, 12] η x2 η1 → (x2 = 0) → (fun (_ : Nat) (y : Int) (η' : zE) => pQgs_bestBit2 [x1] η y η') 0 (-1) η1 := by
  intro x2 η1 h2 c1
  have y2 : fQgs_within [x1, 1, 12] η x2 η1 := h2.2.2
  have k2 : sQ wl_gs zTr zOgs_within zMgs_within [x1, 1, 12] η x2 η1 ∧ oQgs_within [x1, 1, 12] η x2 η1 := ⟨h2.1, h2.2.1⟩
  refine yj_a ?_ ?_
  · have y2 : fQgs_within [x1, 1, 12] η x2 η1 := h2.2.2
    have k2 : sQ wl_gs zTr zOgs_within zMgs_within [x1, 1, 12] η x2 η1 ∧ oQgs_within [x1, 1, 12] η x2 η1 := ⟨h2.1, h2.2.1⟩
    exact trivial
  · obtain ⟨a2, b2⟩ : x2 = yq_in x1 1 12 ∧ η1 = η := y2
    show -1 = yv_bb x1 η ∧ η1 = η
    exact ⟨by unfold yv_bb; rw [if_pos (by omega)], b2⟩
set_option maxHeartbeats 8000000 in
theorem zgs_bestBit2_o2 {ro : Nat → List Int32} (xs : List Int) (η0 : zE) (hp : sP wl_gs zTr zPgs_bestBit2 xs η0) (hpp : pPgs_bestBit2 xs η0) (x1 x2 x3 x4 : Int) (η : zE) (hI : zsI wl_gs zTr zVgs_bestBit2 zMgs_bestBit2 η0 0 [x1, x2, x3, x4] η) (hig : iCgs_bestBit2 xs η0 0 [x1, x2, x3, x4] η) : ∀ x5 : Int, x5 = zd 0 1 x4 x1 → ∀ x6 : Int, x6 = η 2 (Int.toNat 1) → zok 0 x6 → (x6 < x5) → (fun (_ : Nat) (y : Int) (η' : zE) => pQgs_bestBit2 xs η0 y η') 0 x2 η := by
  have fig := hig.2
  have hig := hig.1
  intro x5 e5 x6 e6 r6 c1
  refine yj_a ?_ ?_
  · exact trivial
  · have e5 : x5 = zd 0 1 x4 x1 := e5
    have e6 : x6 = η 2 1 := e6
    have b4 : (0 : Int) ≤ x4 ∧ x4 ≤ 11 := hI.1.2.1.2.2.2.1
    exact vbI_e (k := x1) (m := x3) (f := x4) fig (by omega) e5 (by rw [← e6]; omega)
set_option maxHeartbeats 8000000 in
theorem zgs_bestBit2_o3 {ro : Nat → List Int32} (xs : List Int) (η0 : zE) (hp : sP wl_gs zTr zPgs_bestBit2 xs η0) (hpp : pPgs_bestBit2 xs η0) (x1 x2 x3 x4 : Int) (η : zE) (hI : zsI wl_gs zTr zVgs_bestBit2 zMgs_bestBit2 η0 0 [x1, x2, x3, x4] η) (hig : iCgs_bestBit2 xs η0 0 [x1, x2, x3, x4] η) : ∀ x5 : Int, x5 = zd 0 1 x4 x1 → ∀ x6 : Int, x6 = η 2 (Int.toNat 1) → zok 0 x6 → (x5 ≤ x6) → (iCgs_bestBit2 xs η0) 1 [x1, x2, x3, x4, 0, x4] η ∧ (fun (_ : Nat) (_ : List Int) (_ : zE) => (0 : Nat)) 1 [x1, x2, x3, x4, 0, x4] η < 1 := by
  have fig := hig.2
  have hig := hig.1
  intro x5 e5 x6 e6 r6 c1
  refine yj_c ?_ ?_
  · exact ⟨trivial, Nat.zero_lt_one⟩
  · have e5 : x5 = zd 0 1 x4 x1 := e5
    have e6 : x6 = η 2 1 := e6
    have b4 : (0 : Int) ≤ x4 ∧ x4 ≤ 11 := hI.1.2.1.2.2.2.1
    show yv_bJ η0 (xs.getD 0 0) x1 x2 x3 x4 0 x4 η
    exact vbJ_0 fig (by omega) e5 (by rw [← e6]; omega)
set_option maxHeartbeats 8000000 in
theorem zgs_bestBit2_o4 {ro : Nat → List Int32} (xs : List Int) (η0 : zE) (hp : sP wl_gs zTr zPgs_bestBit2 xs η0) (hpp : pPgs_bestBit2 xs η0) (x1 x2 x3 x4 x5 x6 : Int) (η : zE) (hI : zsI wl_gs zTr zVgs_bestBit2 zMgs_bestBit2 η0 1 [x1, x2, x3, x4, x5, x6] η) (hig : iCgs_bestBit2 xs η0 1 [x1, x2, x3, x4, x5, x6] η) : ∀ x7 : Int, x7 = zd 0 1 x4 x1 → (x7 ≤ x6) → (x2 < 0) → ∀ x8 : Int, x8 = zd 0 1 x4 1 → (iCgs_bestBit2 xs η0) 0 [x1, x4, x5, x8] η ∧ (fun (_ : Nat) (_ : List Int) (_ : zE) => (0 : Nat)) 0 [x1, x4, x5, x8] η < 1 := by
  have fig := hig.2
  have hig := hig.1
  intro x7 e7 c1 c2 x8 e8
  refine yj_c ?_ ?_
  · exact ⟨trivial, Nat.zero_lt_one⟩
  · have e7 : x7 = zd 0 1 x4 x1 := e7
    have e8 : x8 = zd 0 1 x4 1 := e8
    have b4 : (0 : Int) ≤ x4 ∧ x4 ≤ 10 := hI.1.2.1.2.2.2.1
    show yv_bI η0 (xs.getD 0 0) x1 x4 x5 x8 η
    refine vbJ_e (b := x2) (m := x3) (k := x1) (f := x4) (g := x6) (s := x5) fig (by omega) e7 (by omega) e8 ?_
    rw [if_pos (by omega)]
set_option maxHeartbeats 8000000 in
theorem zgs_bestBit2_o5 {ro : Nat → List Int32} (xs : List Int) (η0 : zE) (hp : sP wl_gs zTr zPgs_bestBit2 xs η0) (hpp : pPgs_bestBit2 xs η0) (x1 x2 x3 x4 x5 x6 : Int) (η : zE) (hI : zsI wl_gs zTr zVgs_bestBit2 zMgs_bestBit2 η0 1 [x1, x2, x3, x4, x5, x6] η) (hig : iCgs_bestBit2 xs η0 1 [x1, x2, x3, x4, x5, x6] η) : ∀ x7 : Int, x7 = zd 0 1 x4 x1 → (x7 ≤ x6) → (0 ≤ x2) → (x5 ≤ x3) → ∀ x8 : Int, x8 = zd 0 1 x4 1 → (iCgs_bestBit2 xs η0) 0 [x1, x2, x3, x8] η ∧ (fun (_ : Nat) (_ : List Int) (_ : zE) => (0 : Nat)) 0 [x1, x2, x3, x8] η < 1 := by
  have fig := hig.2
  have hig := hig.1
  intro x7 e7 c1 c2 c3 x8 e8
  refine yj_c ?_ ?_
  · exact ⟨trivial, Nat.zero_lt_one⟩
  · have e7 : x7 = zd 0 1 x4 x1 := e7
    have e8 : x8 = zd 0 1 x4 1 := e8
    have b4 : (0 : Int) ≤ x4 ∧ x4 ≤ 10 := hI.1.2.1.2.2.2.1
    show yv_bI η0 (xs.getD 0 0) x1 x2 x3 x8 η
    refine vbJ_e (b := x2) (m := x3) (k := x1) (f := x4) (g := x6) (s := x5) fig (by omega) e7 (by omega) e8 ?_
    rw [if_neg (by omega)]
set_option maxHeartbeats 8000000 in
theorem zgs_bestBit2_o6 {ro : Nat → List Int32} (xs : List Int) (η0 : zE) (hp : sP wl_gs zTr zPgs_bestBit2 xs η0) (hpp : pPgs_bestBit2 xs η0) (x1 x2 x3 x4 x5 x6 : Int) (η : zE) (hI : zsI wl_gs zTr zVgs_bestBit2 zMgs_bestBit2 η0 1 [x1, x2, x3, x4, x5, x6] η) (hig : iCgs_bestBit2 xs η0 1 [x1, x2, x3, x4, x5, x6] η) : ∀ x7 : Int, x7 = zd 0 1 x4 x1 → (x7 ≤ x6) → (0 ≤ x2) → (x3 < x5) → ∀ x8 : Int, x8 = zd 0 1 x4 1 → (iCgs_bestBit2 xs η0) 0 [x1, x4, x5, x8] η ∧ (fun (_ : Nat) (_ : List Int) (_ : zE) => (0 : Nat)) 0 [x1, x4, x5, x8] η < 1 := by
  have fig := hig.2
  have hig := hig.1
  intro x7 e7 c1 c2 c3 x8 e8
  refine yj_c ?_ ?_
  · exact ⟨trivial, Nat.zero_lt_one⟩
  · have e7 : x7 = zd 0 1 x4 x1 := e7
    have e8 : x8 = zd 0 1 x4 1 := e8
    have b4 : (0 : Int) ≤ x4 ∧ x4 ≤ 10 := hI.1.2.1.2.2.2.1
    show yv_bI η0 (xs.getD 0 0) x1 x4 x5 x8 η
    refine vbJ_e (b := x2) (m := x3) (k := x1) (f := x4) (g := x6) (s := x5) fig (by omega) e7 (by omega) e8 ?_
    rw [if_pos (by omega)]
set_option maxHeartbeats 8000000 in
theorem zgs_bestBit2_o7 {ro : Nat → List Int32} (xs : List Int) (η0 : zE) (hp : sP wl_gs zTr zPgs_bestBit2 xs η0) (hpp : pPgs_bestBit2 xs η0) (x1 x2 x3 x4 x5 x6 : Int) (η : zE) (hI : zsI wl_gs zTr zVgs_bestBit2 zMgs_bestBit2 η0 1 [x1, x2, x3, x4, x5, x6] η) (hig : iCgs_bestBit2 xs η0 1 [x1, x2, x3, x4, x5, x6] η) : ∀ x7 : Int, x7 = zd 0 1 x4 x1 → (x6 < x7) → ∀ x8 : Int, x8 = η 4 (Int.toNat x6) → zok 0 x8 → ∀ x9 : Int, x9 = zd 0 1 x5 x8 → ∀ x10 : Int, x10 = zd 0 1 x6 1 → (iCgs_bestBit2 xs η0) 1 [x1, x2, x3, x4, x9, x10] η ∧ (fun (_ : Nat) (_ : List Int) (_ : zE) => (0 : Nat)) 1 [x1, x2, x3, x4, x9, x10] η < 1 := by
  have fig := hig.2
  have hig := hig.1
  intro x7 e7 c1 x8 e8 r8 x9 e9 x10 e10
  refine yj_c ?_ ?_
  · exact ⟨trivial, Nat.zero_lt_one⟩
  · have e7 : x7 = zd 0 1 x4 x1 := e7
    have e8 : x8 = η 4 (Int.toNat x6) := e8
    have e9 : x9 = zd 0 1 x5 x8 := e9
    have e10 : x10 = zd 0 1 x6 1 := e10
    have b4 : (0 : Int) ≤ x4 ∧ x4 ≤ 10 := hI.1.2.1.2.2.2.1
    show yv_bJ η0 (xs.getD 0 0) x1 x2 x3 x4 x9 x10 η
    exact vbJ_s (k := x1) (f := x4) (g := x6) fig (by omega) e7 (by omega) e8 e9 e10
set_option maxHeartbeats 8000000 in
theorem zgs_bestBit2 {ro : Nat → List Int32} : zMet pr_P pr_K pr_df ro (sm_X0 1 6) 1 98 tm_gs [(.inr (.inr (.inl (nat_lit 0)))), (.inl (nat_lit 1, (.ofNat (nat_lit 0))))] 1 [(nat_lit 0, nat_lit 0, nat_lit 1), (nat_lit 0, nat_lit 4, nat_lit 2), (nat_lit 0, nat_lit 5, nat_lit 32), (nat_lit 0, nat_lit 6, nat_lit 60), (nat_lit 0, nat_lit 7, nat_lit 70), (nat_lit 0, nat_lit 8, nat_lit 74), (nat_lit 0, nat_lit 11, nat_lit 78), (nat_lit 0, nat_lit 12, nat_lit 82), (nat_lit 0, nat_lit 13, nat_lit 90), (nat_lit 0, nat_lit 14, nat_lit 91), (nat_lit 0, nat_lit 15, nat_lit 95), (nat_lit 0, nat_lit 16, nat_lit 101), (nat_lit 2, nat_lit 8, nat_lit 3), (nat_lit 2, nat_lit 9, nat_lit 4), (nat_lit 2, nat_lit 10, nat_lit 5), (nat_lit 2, nat_lit 11, nat_lit 6), (nat_lit 2, nat_lit 12, nat_lit 11), (nat_lit 2, nat_lit 13, nat_lit 16), (nat_lit 2, nat_lit 14, nat_lit 17), (nat_lit 6, nat_lit 0, nat_lit 7), (nat_lit 11, nat_lit 0, nat_lit 12), (nat_lit 6, nat_lit 1, nat_lit 8), (nat_lit 11, nat_lit 1, nat_lit 13), (nat_lit 6, nat_lit 2, nat_lit 9), (nat_lit 11, nat_lit 2, nat_lit 14), (nat_lit 6, nat_lit 3, nat_lit 10), (nat_lit 11, nat_lit 3, nat_lit 15), (nat_lit 17, nat_lit 2, nat_lit 18), (nat_lit 17, nat_lit 3, nat_lit 19), (nat_lit 17, nat_lit 4, nat_lit 20), (nat_lit 17, nat_lit 5, nat_lit 21), (nat_lit 17, nat_lit 6, nat_lit 22), (nat_lit 32, nat_lit 8, nat_lit 33), (nat_lit 32, nat_lit 9, nat_lit 34), (nat_lit 32, nat_lit 10, nat_lit 35), (nat_lit 32, nat_lit 11, nat_lit 36), (nat_lit 32, nat_lit 12, nat_lit 41), (nat_lit 32, nat_lit 13, nat_lit 46), (nat_lit 32, nat_lit 14, nat_lit 47), (nat_lit 36, nat_lit 0, nat_lit 37), (nat_lit 41, nat_lit 0, nat_lit 42), (nat_lit 36, nat_lit 1, nat_lit 38), (nat_lit 41, nat_lit 1, nat_lit 43), (nat_lit 36, nat_lit 2, nat_lit 39), (nat_lit 41, nat_lit 2, nat_lit 44), (nat_lit 36, nat_lit 3, nat_lit 40), (nat_lit 41, nat_lit 3, nat_lit 45), (nat_lit 47, nat_lit 2, nat_lit 48), (nat_lit 47, nat_lit 3, nat_lit 49), (nat_lit 47, nat_lit 4, nat_lit 50), (nat_lit 47, nat_lit 5, nat_lit 51), (nat_lit 47, nat_lit 6, nat_lit 52), (nat_lit 60, nat_lit 3, nat_lit 1), (nat_lit 60, nat_lit 9, nat_lit 61), (nat_lit 60, nat_lit 10, nat_lit 62), (nat_lit 60, nat_lit 11, nat_lit 63), (nat_lit 70, nat_lit 8, nat_lit 71), (nat_lit 70, nat_lit 9, nat_lit 72), (nat_lit 70, nat_lit 10, nat_lit 73), (nat_lit 74, nat_lit 8, nat_lit 75), (nat_lit 74, nat_lit 9, nat_lit 76), (nat_lit 74, nat_lit 10, nat_lit 77), (nat_lit 78, nat_lit 8, nat_lit 79), (nat_lit 78, nat_lit 9, nat_lit 80), (nat_lit 78, nat_lit 10, nat_lit 81), (nat_lit 82, nat_lit 8, nat_lit 83), (nat_lit 82, nat_lit 9, nat_lit 84), (nat_lit 82, nat_lit 10, nat_lit 85), (nat_lit 91, nat_lit 1, nat_lit 92), (nat_lit 91, nat_lit 2, nat_lit 93), (nat_lit 91, nat_lit 3, nat_lit 94), (nat_lit 95, nat_lit 2, nat_lit 96), (nat_lit 95, nat_lit 3, nat_lit 97), (nat_lit 95, nat_lit 4, nat_lit 98), (nat_lit 95, nat_lit 5, nat_lit 99), (nat_lit 95, nat_lit 6, nat_lit 100)] [] (fun xs η => sP wl_gs zTr zPgs_bestBit2 xs η ∧ pPgs_bestBit2 xs η) (fun xs η y η' => sQ wl_gs zTr zOgs_bestBit2 zMgs_bestBit2 xs η y η' ∧ pQgs_bestBit2 xs η y η') :=
  zmet_alt (zmea_gen (mi := (nat_lit 1, nat_lit 1, nat_lit 7, nat_lit 7, nat_lit 1, tX7_bestBit)) (cd := [(nat_lit 75, nat_lit 0, nat_lit 0, [(.inl (nat_lit 1, (.ofNat (nat_lit 0)))), (.inl (nat_lit 2, (.ofNat (nat_lit 0)))), (.inl (nat_lit 3, (.ofNat (nat_lit 0))))], nat_lit 2, [], [])]) (cu := zUgs_bestBit2) (cs := [(nat_lit 0, zPgs_within, zOgs_within, zMgs_within)]) (iv := zVgs_bestBit2) (po := [zOgs_bestBit2]) (pr := zPgs_bestBit2) (mods := zMgs_bestBit2) (D7 := zDgs_bestBit2) (D0 := zEgs_bestBit2) (Dm := zFgs_bestBit2) (f0 := 16) pCgs_bestBit2 qCgs_bestBit2 iCgs_bestBit2 pPgs_bestBit2 (fun xs η _ y η' => pQgs_bestBit2 xs η y η') zX_low pr_mtR rfl (List.forall_mem_cons.mpr ⟨zgs_within, fun _ h => nomatch h⟩) (by decide +kernel) (by decide +kernel) (by decide +kernel)
    (by
      intro xs η hr hl hp hpp
      match xs, hl, hp, hpp with
      | [x1], _, hp, hpp =>
        refine List.forall_mem_cons.mpr ⟨?_, List.forall_mem_cons.mpr ⟨?_, List.forall_mem_cons.mpr ⟨?_, fun _ h => nomatch h⟩⟩⟩
        · refine zden_L (n := 2) (ρ := [x1, 0]) rfl ?_
          show ((gC2 wl_gs [(nat_lit 0, zPgs_within, zOgs_within, zMgs_within)] pCgs_bestBit2 qCgs_bestBit2) 0).1 [x1, 1, 12] η
          
          exact trivial
        · refine zden_L (n := 2) (ρ := [x1, 0]) rfl ?_
          exact zgs_bestBit2_o0 (ro := ro) x1 η hp hpp
        · refine zden_L (n := 2) (ρ := [x1, 0]) rfl ?_
          exact zgs_bestBit2_o1 (ro := ro) x1 η hp hpp
      )
    (fun _ _ _ _ _ _ _ h => nomatch h)
    (List.forall_mem_cons.mpr ⟨⟨zDgs_bestBit2_0, zEgs_bestBit2_0, zFgs_bestBit2_0, 16, by decide +kernel, (by
      intro xs η0 hlx hp hpp ys η hr hl hI hig
      match ys, hl, hI, hig with
      | [x1, x2, x3, x4], _, hI, hig =>
        refine ⟨?_, ?_⟩
        · refine List.forall_mem_cons.mpr ⟨?_, List.forall_mem_cons.mpr ⟨?_, fun _ h => nomatch h⟩⟩
          · refine zden_L (n := 5) (ρ := [x4, x3, x2, x1, 0]) rfl ?_
            exact zgs_bestBit2_o2 (ro := ro) xs η0 hp hpp x1 x2 x3 x4 η hI hig
          · refine zden_L (n := 5) (ρ := [x4, x3, x2, x1, 0]) rfl ?_
            exact zgs_bestBit2_o3 (ro := ro) xs η0 hp hpp x1 x2 x3 x4 η hI hig
        · exact fun _ h => nomatch h
      )⟩, (List.forall_mem_cons.mpr ⟨⟨zDgs_bestBit2_1, zEgs_bestBit2_1, zFgs_bestBit2_1, 21, by decide +kernel, (by
      intro xs η0 hlx hp hpp ys η hr hl hI hig
      match ys, hl, hI, hig with
      | [x1, x2, x3, x4, x5, x6], _, hI, hig =>
        refine ⟨?_, ?_⟩
        · refine List.forall_mem_cons.mpr ⟨?_, List.forall_mem_cons.mpr ⟨?_, List.forall_mem_cons.mpr ⟨?_, List.forall_mem_cons.mpr ⟨?_, fun _ h => nomatch h⟩⟩⟩⟩
          · refine zden_L (n := 7) (ρ := [x6, x5, x4, x3, x2, x1, 0]) rfl ?_
            exact zgs_bestBit2_o4 (ro := ro) xs η0 hp hpp x1 x2 x3 x4 x5 x6 η hI hig
          · refine zden_L (n := 7) (ρ := [x6, x5, x4, x3, x2, x1, 0]) rfl ?_
            exact zgs_bestBit2_o5 (ro := ro) xs η0 hp hpp x1 x2 x3 x4 x5 x6 η hI hig
          · refine zden_L (n := 7) (ρ := [x6, x5, x4, x3, x2, x1, 0]) rfl ?_
            exact zgs_bestBit2_o6 (ro := ro) xs η0 hp hpp x1 x2 x3 x4 x5 x6 η hI hig
          · refine zden_L (n := 7) (ρ := [x6, x5, x4, x3, x2, x1, 0]) rfl ?_
            exact zgs_bestBit2_o7 (ro := ro) xs η0 hp hpp x1 x2 x3 x4 x5 x6 η hI hig
        · exact fun _ h => nomatch h
      )⟩, (fun _ h => nomatch h)⟩)⟩))
def zPgs_bestBit3 : zPq := ([((.ofNat (nat_lit 3)), (.ofNat (nat_lit 3)))], [])
def zOgs_bestBit3 : zPo := (((.negSucc (nat_lit 2147483647)), (.ofNat (nat_lit 2147483647))), [], [])
def zMgs_bestBit3 : List zCe := []
def pPgs_bestBit3 : List Int → zE → Prop := fun _ _ => True
def oQgs_bestBit3 : List Int → zE → Int → zE → Prop := fun _ _ _ _ => True
def fQgs_bestBit3 : List Int → zE → Int → zE → Prop := fun xs η y η' => y = (yv_bb (xs.getD 0 0) η) ∧ η' = η
def pQgs_bestBit3 : List Int → zE → Int → zE → Prop := fun xs η y η' => oQgs_bestBit3 xs η y η' ∧ fQgs_bestBit3 xs η y η'
def pCgs_bestBit3 : Nat → List Int → zE → Prop := fun c => match c with
  | 0 => pPgs_within
  | _ => fun _ _ => True
def qCgs_bestBit3 : Nat → List Int → zE → Int → zE → Prop := fun c => match c with
  | 0 => pQgs_within
  | _ => fun _ _ _ _ => True
def iCgs_bestBit3 : List Int → zE → Nat → List Int → zE → Prop := fun xs η0 c => match c with
  | 0 => fun ys η => (True) ∧ (yv_bI η0 (xs.getD 0 0) (ys.getD 0 0) (ys.getD 1 0) (ys.getD 2 0) (ys.getD 3 0) η)
  | 1 => fun ys η => (True) ∧ (yv_bJ η0 (xs.getD 0 0) (ys.getD 0 0) (ys.getD 1 0) (ys.getD 2 0) (ys.getD 3 0) (ys.getD 4 0) (ys.getD 5 0) η)
  | _ => fun _ _ => True
def zVgs_bestBit3 : List zIv := [(nat_lit 0, ([((.ofNat (nat_lit 3)), (.ofNat (nat_lit 3))), ((.negSucc (nat_lit 2147483647)), (.ofNat (nat_lit 2147483647))), ((.negSucc (nat_lit 2147483647)), (.ofNat (nat_lit 2147483647))), ((.ofNat (nat_lit 0)), (.ofNat (nat_lit 10)))], []), ((.ofNat (nat_lit 2000)), [((.negSucc (nat_lit 99)), nat_lit 0, nat_lit 3, nat_lit 0)])), (nat_lit 1, ([((.ofNat (nat_lit 3)), (.ofNat (nat_lit 3))), ((.negSucc (nat_lit 2147483647)), (.ofNat (nat_lit 2147483647))), ((.negSucc (nat_lit 2147483647)), (.ofNat (nat_lit 2147483647))), ((.ofNat (nat_lit 0)), (.ofNat (nat_lit 9))), ((.negSucc (nat_lit 2147483647)), (.ofNat (nat_lit 2147483647))), ((.ofNat (nat_lit 0)), (.ofNat (nat_lit 12)))], []), ((.ofNat (nat_lit 1950)), [((.negSucc (nat_lit 99)), nat_lit 0, nat_lit 3, nat_lit 0), ((.negSucc (nat_lit 0)), nat_lit 0, nat_lit 5, nat_lit 0)]))]
def zUgs_bestBit3 : List zCu := [(nat_lit 20, nat_lit 0, [(nat_lit 0, (.inr (.inr (.inl (nat_lit 0))))), (nat_lit 1, (.inl (nat_lit 1, (.ofNat (nat_lit 0))))), (nat_lit 2, (.inl (nat_lit 2, (.ofNat (nat_lit 0))))), (nat_lit 3, (.inl (nat_lit 3, (.ofNat (nat_lit 0))))), (nat_lit 4, (.inl (nat_lit 4, (.ofNat (nat_lit 0)))))], []), (nat_lit 41, nat_lit 1, [(nat_lit 0, (.inr (.inr (.inl (nat_lit 0))))), (nat_lit 1, (.inl (nat_lit 1, (.ofNat (nat_lit 0))))), (nat_lit 2, (.inl (nat_lit 2, (.ofNat (nat_lit 0))))), (nat_lit 3, (.inl (nat_lit 3, (.ofNat (nat_lit 0))))), (nat_lit 4, (.inl (nat_lit 4, (.ofNat (nat_lit 0))))), (nat_lit 5, (.inl (nat_lit 5, (.ofNat (nat_lit 0))))), (nat_lit 6, (.inl (nat_lit 6, (.ofNat (nat_lit 0)))))], [])]
def zDgs_bestBit3 : List (List zK) := []
def zEgs_bestBit3 : List (List zK) := [[(nat_lit 13, nat_lit 0, [(nat_lit 1, (.ofNat (nat_lit 0))), (nat_lit 0, (.ofNat (nat_lit 1))), (nat_lit 0, (.ofNat (nat_lit 12)))])],
  [(nat_lit 12, nat_lit 0, [(nat_lit 1, (.ofNat (nat_lit 0))), (nat_lit 0, (.negSucc (nat_lit 1))), (nat_lit 0, (.ofNat (nat_lit 0))), (nat_lit 0, (.ofNat (nat_lit 0)))]), (nat_lit 6, nat_lit 1, [(nat_lit 2, (.ofNat (nat_lit 0))), (nat_lit 0, (.ofNat (nat_lit 0)))]), (nat_lit 8, nat_lit 0, [(nat_lit 1, (.ofNat (nat_lit 0))), (nat_lit 0, (.ofNat (nat_lit 1))), (nat_lit 0, (.ofNat (nat_lit 12)))])],
  [(nat_lit 11, nat_lit 0, [(nat_lit 0, (.negSucc (nat_lit 0)))]), (nat_lit 6, nat_lit 0, [(nat_lit 2, (.ofNat (nat_lit 0))), (nat_lit 0, (.ofNat (nat_lit 0)))]), (nat_lit 8, nat_lit 0, [(nat_lit 1, (.ofNat (nat_lit 0))), (nat_lit 0, (.ofNat (nat_lit 1))), (nat_lit 0, (.ofNat (nat_lit 12)))])]]
def zFgs_bestBit3 : List (List zK) := []
def zDgs_bestBit3_0 : List (List zK) := []
def zEgs_bestBit3_0 : List (List zK) := [[(nat_lit 11, nat_lit 0, [(nat_lit 2, (.ofNat (nat_lit 0)))]), (nat_lit 6, nat_lit 4, [(nat_lit 5, (.ofNat (nat_lit 0))), (nat_lit 6, (.ofNat (nat_lit 0)))]), (nat_lit 4, nat_lit 0, [(nat_lit 2, (.ofNat (nat_lit 0))), (nat_lit 0, (.ofNat (nat_lit 1)))]), (nat_lit 0, nat_lit 1, [(nat_lit 4, (.ofNat (nat_lit 0))), (nat_lit 1, (.ofNat (nat_lit 0)))])],
  [(nat_lit 10, nat_lit 1, [(nat_lit 1, (.ofNat (nat_lit 0))), (nat_lit 2, (.ofNat (nat_lit 0))), (nat_lit 3, (.ofNat (nat_lit 0))), (nat_lit 4, (.ofNat (nat_lit 0))), (nat_lit 0, (.ofNat (nat_lit 0))), (nat_lit 4, (.ofNat (nat_lit 0)))]), (nat_lit 6, nat_lit 5, [(nat_lit 5, (.ofNat (nat_lit 0))), (nat_lit 6, (.ofNat (nat_lit 0)))]), (nat_lit 4, nat_lit 0, [(nat_lit 2, (.ofNat (nat_lit 0))), (nat_lit 0, (.ofNat (nat_lit 1)))]), (nat_lit 0, nat_lit 1, [(nat_lit 4, (.ofNat (nat_lit 0))), (nat_lit 1, (.ofNat (nat_lit 0)))])]]
def zFgs_bestBit3_0 : List (List zK) := []
def zDgs_bestBit3_1 : List (List zK) := [[(nat_lit 7, nat_lit 0, [(nat_lit 6, (.ofNat (nat_lit 0))), (nat_lit 0, (.ofNat (nat_lit 12)))]), (nat_lit 6, nat_lit 2, [(nat_lit 6, (.ofNat (nat_lit 0))), (nat_lit 7, (.ofNat (nat_lit 0)))]), (nat_lit 0, nat_lit 1, [(nat_lit 4, (.ofNat (nat_lit 0))), (nat_lit 1, (.ofNat (nat_lit 0)))])]]
def zEgs_bestBit3_1 : List (List zK) := [[(nat_lit 10, nat_lit 0, [(nat_lit 1, (.ofNat (nat_lit 0))), (nat_lit 4, (.ofNat (nat_lit 0))), (nat_lit 5, (.ofNat (nat_lit 0))), (nat_lit 8, (.ofNat (nat_lit 0)))]), (nat_lit 0, nat_lit 1, [(nat_lit 4, (.ofNat (nat_lit 0))), (nat_lit 0, (.ofNat (nat_lit 1)))]), (nat_lit 6, nat_lit 2, [(nat_lit 2, (.ofNat (nat_lit 0))), (nat_lit 0, (.ofNat (nat_lit 0)))]), (nat_lit 6, nat_lit 3, [(nat_lit 6, (.ofNat (nat_lit 0))), (nat_lit 7, (.ofNat (nat_lit 0)))]), (nat_lit 0, nat_lit 1, [(nat_lit 4, (.ofNat (nat_lit 0))), (nat_lit 1, (.ofNat (nat_lit 0)))])],
  [(nat_lit 10, nat_lit 0, [(nat_lit 1, (.ofNat (nat_lit 0))), (nat_lit 2, (.ofNat (nat_lit 0))), (nat_lit 3, (.ofNat (nat_lit 0))), (nat_lit 8, (.ofNat (nat_lit 0)))]), (nat_lit 0, nat_lit 1, [(nat_lit 4, (.ofNat (nat_lit 0))), (nat_lit 0, (.ofNat (nat_lit 1)))]), (nat_lit 6, nat_lit 5, [(nat_lit 5, (.ofNat (nat_lit 0))), (nat_lit 3, (.ofNat (nat_lit 0)))]), (nat_lit 6, nat_lit 3, [(nat_lit 2, (.ofNat (nat_lit 0))), (nat_lit 0, (.ofNat (nat_lit 0)))]), (nat_lit 6, nat_lit 3, [(nat_lit 6, (.ofNat (nat_lit 0))), (nat_lit 7, (.ofNat (nat_lit 0)))]), (nat_lit 0, nat_lit 1, [(nat_lit 4, (.ofNat (nat_lit 0))), (nat_lit 1, (.ofNat (nat_lit 0)))])],
  [(nat_lit 10, nat_lit 0, [(nat_lit 1, (.ofNat (nat_lit 0))), (nat_lit 4, (.ofNat (nat_lit 0))), (nat_lit 5, (.ofNat (nat_lit 0))), (nat_lit 8, (.ofNat (nat_lit 0)))]), (nat_lit 0, nat_lit 1, [(nat_lit 4, (.ofNat (nat_lit 0))), (nat_lit 0, (.ofNat (nat_lit 1)))]), (nat_lit 6, nat_lit 4, [(nat_lit 5, (.ofNat (nat_lit 0))), (nat_lit 3, (.ofNat (nat_lit 0)))]), (nat_lit 6, nat_lit 3, [(nat_lit 2, (.ofNat (nat_lit 0))), (nat_lit 0, (.ofNat (nat_lit 0)))]), (nat_lit 6, nat_lit 3, [(nat_lit 6, (.ofNat (nat_lit 0))), (nat_lit 7, (.ofNat (nat_lit 0)))]), (nat_lit 0, nat_lit 1, [(nat_lit 4, (.ofNat (nat_lit 0))), (nat_lit 1, (.ofNat (nat_lit 0)))])],
  [(nat_lit 10, nat_lit 1, [(nat_lit 1, (.ofNat (nat_lit 0))), (nat_lit 2, (.ofNat (nat_lit 0))), (nat_lit 3, (.ofNat (nat_lit 0))), (nat_lit 4, (.ofNat (nat_lit 0))), (nat_lit 9, (.ofNat (nat_lit 0))), (nat_lit 10, (.ofNat (nat_lit 0)))]), (nat_lit 0, nat_lit 1, [(nat_lit 6, (.ofNat (nat_lit 0))), (nat_lit 0, (.ofNat (nat_lit 1)))]), (nat_lit 0, nat_lit 1, [(nat_lit 5, (.ofNat (nat_lit 0))), (nat_lit 8, (.ofNat (nat_lit 0)))]), (nat_lit 4, nat_lit 0, [(nat_lit 4, (.ofNat (nat_lit 0))), (nat_lit 6, (.ofNat (nat_lit 0)))]), (nat_lit 6, nat_lit 2, [(nat_lit 6, (.ofNat (nat_lit 0))), (nat_lit 7, (.ofNat (nat_lit 0)))]), (nat_lit 0, nat_lit 1, [(nat_lit 4, (.ofNat (nat_lit 0))), (nat_lit 1, (.ofNat (nat_lit 0)))])]]
def zFgs_bestBit3_1 : List (List zK) := []
set_option maxHeartbeats 8000000 in
theorem zgs_bestBit3_o0 {ro : Nat → List Int32} (x1 : Int) (η : zE) (hp : sP wl_gs zTr zPgs_bestBit3 [x1] η) (hpp : pPgs_bestBit3 [x1] η) : ∀ (x2 : Int) (η1 : zE), ((gC2 wl_gs [(nat_lit 0, zPgs_within, zOgs_within, zMgs_within)] pCgs_bestBit3 qCgs_bestBit3) 0).2 [x1, 1, 12] η x2 η1 → (¬ x2 = 0) → (iCgs_bestBit3 [x1] η) 0 [x1, (-2), 0, 0] η1 := by
  intro x2 η1 h2 c1
  have y2 : fQgs_within [x1, 1, 12] η x2 η1 := h2.2.2
  have k2 : sQ wl_gs zTr zOgs_within zMgs_within [x1, 1, 12] η x2 η1 ∧ oQgs_within [x1, 1, 12] η x2 η1 := ⟨h2.1, h2.2.1⟩
  refine yj_a ?_ ?_
  · have y2 : fQgs_within [x1, 1, 12] η x2 η1 := h2.2.2
    have k2 : sQ wl_gs zTr zOgs_within zMgs_within [x1, 1, 12] η x2 η1 ∧ oQgs_within [x1, 1, 12] η x2 η1 := ⟨h2.1, h2.2.1⟩
    exact trivial
  · obtain ⟨a2, b2⟩ : x2 = yq_in x1 1 12 ∧ η1 = η := y2
    show yv_bI η x1 x1 (-2) 0 0 η1
    exact vbI_0 b2 (by omega)
set_option maxHeartbeats 8000000 in
theorem zgs_bestBit3_o1 {ro : Nat → List Int32} (x1 : Int) (η : zE) (hp : sP wl_gs zTr zPgs_bestBit3 [x1] η) (hpp : pPgs_bestBit3 [x1] η) : ∀ (x2 : Int) (η1 : zE), ((gC2 wl_gs [(nat_lit 0, zPgs_within, zOgs_within, zMgs_within)] pCgs_bestBit3 qCgs_bestBit3) 0).2 [x1, 1, 12] η x2 η1 → (x2 = 0) → (fun (_ : Nat) (y : Int) (η' : zE) => pQgs_bestBit3 [x1] η y η') 0 (-1) η1 := by
  intro x2 η1 h2 c1
  have y2 : fQgs_within [x1, 1, 12] η x2 η1 := h2.2.2
  have k2 : sQ wl_gs zTr zOgs_within zMgs_within [x1, 1, 12] η x2 η1 ∧ oQgs_within [x1, 1, 12] η x2 η1 := ⟨h2.1, h2.2.1⟩
  refine yj_a ?_ ?_
  · have y2 : fQgs_within [x1, 1, 12] η x2 η1 := h2.2.2
    have k2 : sQ wl_gs zTr zOgs_within zMgs_within [x1, 1, 12] η x2 η1 ∧ oQgs_within [x1, 1, 12] η x2 η1 := ⟨h2.1, h2.2.1⟩
    exact trivial
  · obtain ⟨a2, b2⟩ : x2 = yq_in x1 1 12 ∧ η1 = η := y2
    show -1 = yv_bb x1 η ∧ η1 = η
    exact ⟨by unfold yv_bb; rw [if_pos (by omega)], b2⟩
set_option maxHeartbeats 8000000 in
theorem zgs_bestBit3_o2 {ro : Nat → List Int32} (xs : List Int) (η0 : zE) (hp : sP wl_gs zTr zPgs_bestBit3 xs η0) (hpp : pPgs_bestBit3 xs η0) (x1 x2 x3 x4 : Int) (η : zE) (hI : zsI wl_gs zTr zVgs_bestBit3 zMgs_bestBit3 η0 0 [x1, x2, x3, x4] η) (hig : iCgs_bestBit3 xs η0 0 [x1, x2, x3, x4] η) : ∀ x5 : Int, x5 = zd 0 1 x4 x1 → ∀ x6 : Int, x6 = η 2 (Int.toNat 1) → zok 0 x6 → (x6 < x5) → (fun (_ : Nat) (y : Int) (η' : zE) => pQgs_bestBit3 xs η0 y η') 0 x2 η := by
  have fig := hig.2
  have hig := hig.1
  intro x5 e5 x6 e6 r6 c1
  refine yj_a ?_ ?_
  · exact trivial
  · have e5 : x5 = zd 0 1 x4 x1 := e5
    have e6 : x6 = η 2 1 := e6
    have b4 : (0 : Int) ≤ x4 ∧ x4 ≤ 10 := hI.1.2.1.2.2.2.1
    exact vbI_e (k := x1) (m := x3) (f := x4) fig (by omega) e5 (by rw [← e6]; omega)
set_option maxHeartbeats 8000000 in
theorem zgs_bestBit3_o3 {ro : Nat → List Int32} (xs : List Int) (η0 : zE) (hp : sP wl_gs zTr zPgs_bestBit3 xs η0) (hpp : pPgs_bestBit3 xs η0) (x1 x2 x3 x4 : Int) (η : zE) (hI : zsI wl_gs zTr zVgs_bestBit3 zMgs_bestBit3 η0 0 [x1, x2, x3, x4] η) (hig : iCgs_bestBit3 xs η0 0 [x1, x2, x3, x4] η) : ∀ x5 : Int, x5 = zd 0 1 x4 x1 → ∀ x6 : Int, x6 = η 2 (Int.toNat 1) → zok 0 x6 → (x5 ≤ x6) → (iCgs_bestBit3 xs η0) 1 [x1, x2, x3, x4, 0, x4] η ∧ (fun (_ : Nat) (_ : List Int) (_ : zE) => (0 : Nat)) 1 [x1, x2, x3, x4, 0, x4] η < 1 := by
  have fig := hig.2
  have hig := hig.1
  intro x5 e5 x6 e6 r6 c1
  refine yj_c ?_ ?_
  · exact ⟨trivial, Nat.zero_lt_one⟩
  · have e5 : x5 = zd 0 1 x4 x1 := e5
    have e6 : x6 = η 2 1 := e6
    have b4 : (0 : Int) ≤ x4 ∧ x4 ≤ 10 := hI.1.2.1.2.2.2.1
    show yv_bJ η0 (xs.getD 0 0) x1 x2 x3 x4 0 x4 η
    exact vbJ_0 fig (by omega) e5 (by rw [← e6]; omega)
set_option maxHeartbeats 8000000 in
theorem zgs_bestBit3_o4 {ro : Nat → List Int32} (xs : List Int) (η0 : zE) (hp : sP wl_gs zTr zPgs_bestBit3 xs η0) (hpp : pPgs_bestBit3 xs η0) (x1 x2 x3 x4 x5 x6 : Int) (η : zE) (hI : zsI wl_gs zTr zVgs_bestBit3 zMgs_bestBit3 η0 1 [x1, x2, x3, x4, x5, x6] η) (hig : iCgs_bestBit3 xs η0 1 [x1, x2, x3, x4, x5, x6] η) : ∀ x7 : Int, x7 = zd 0 1 x4 x1 → (x7 ≤ x6) → (x2 < 0) → ∀ x8 : Int, x8 = zd 0 1 x4 1 → (iCgs_bestBit3 xs η0) 0 [x1, x4, x5, x8] η ∧ (fun (_ : Nat) (_ : List Int) (_ : zE) => (0 : Nat)) 0 [x1, x4, x5, x8] η < 1 := by
  have fig := hig.2
  have hig := hig.1
  intro x7 e7 c1 c2 x8 e8
  refine yj_c ?_ ?_
  · exact ⟨trivial, Nat.zero_lt_one⟩
  · have e7 : x7 = zd 0 1 x4 x1 := e7
    have e8 : x8 = zd 0 1 x4 1 := e8
    have b4 : (0 : Int) ≤ x4 ∧ x4 ≤ 9 := hI.1.2.1.2.2.2.1
    show yv_bI η0 (xs.getD 0 0) x1 x4 x5 x8 η
    refine vbJ_e (b := x2) (m := x3) (k := x1) (f := x4) (g := x6) (s := x5) fig (by omega) e7 (by omega) e8 ?_
    rw [if_pos (by omega)]
set_option maxHeartbeats 8000000 in
theorem zgs_bestBit3_o5 {ro : Nat → List Int32} (xs : List Int) (η0 : zE) (hp : sP wl_gs zTr zPgs_bestBit3 xs η0) (hpp : pPgs_bestBit3 xs η0) (x1 x2 x3 x4 x5 x6 : Int) (η : zE) (hI : zsI wl_gs zTr zVgs_bestBit3 zMgs_bestBit3 η0 1 [x1, x2, x3, x4, x5, x6] η) (hig : iCgs_bestBit3 xs η0 1 [x1, x2, x3, x4, x5, x6] η) : ∀ x7 : Int, x7 = zd 0 1 x4 x1 → (x7 ≤ x6) → (0 ≤ x2) → (x5 ≤ x3) → ∀ x8 : Int, x8 = zd 0 1 x4 1 → (iCgs_bestBit3 xs η0) 0 [x1, x2, x3, x8] η ∧ (fun (_ : Nat) (_ : List Int) (_ : zE) => (0 : Nat)) 0 [x1, x2, x3, x8] η < 1 := by
  have fig := hig.2
  have hig := hig.1
  intro x7 e7 c1 c2 c3 x8 e8
  refine yj_c ?_ ?_
  · exact ⟨trivial, Nat.zero_lt_one⟩
  · have e7 : x7 = zd 0 1 x4 x1 := e7
    have e8 : x8 = zd 0 1 x4 1 := e8
    have b4 : (0 : Int) ≤ x4 ∧ x4 ≤ 9 := hI.1.2.1.2.2.2.1
    show yv_bI η0 (xs.getD 0 0) x1 x2 x3 x8 η
    refine vbJ_e (b := x2) (m := x3) (k := x1) (f := x4) (g := x6) (s := x5) fig (by omega) e7 (by omega) e8 ?_
    rw [if_neg (by omega)]
set_option maxHeartbeats 8000000 in
theorem zgs_bestBit3_o6 {ro : Nat → List Int32} (xs : List Int) (η0 : zE) (hp : sP wl_gs zTr zPgs_bestBit3 xs η0) (hpp : pPgs_bestBit3 xs η0) (x1 x2 x3 x4 x5 x6 : Int) (η : zE) (hI : zsI wl_gs zTr zVgs_bestBit3 zMgs_bestBit3 η0 1 [x1, x2, x3, x4, x5, x6] η) (hig : iCgs_bestBit3 xs η0 1 [x1, x2, x3, x4, x5, x6] η) : ∀ x7 : Int, x7 = zd 0 1 x4 x1 → (x7 ≤ x6) → (0 ≤ x2) → (x3 < x5) → ∀ x8 : Int, x8 = zd 0 1 x4 1 → (iCgs_bestBit3 xs η0) 0 [x1, x4, x5, x8] η ∧ (fun (_ : Nat) (_ : List Int) (_ : zE) => (0 : Nat)) 0 [x1, x4, x5, x8] η < 1 := by
  have fig := hig.2
  have hig := hig.1
  intro x7 e7 c1 c2 c3 x8 e8
  refine yj_c ?_ ?_
  · exact ⟨trivial, Nat.zero_lt_one⟩
  · have e7 : x7 = zd 0 1 x4 x1 := e7
    have e8 : x8 = zd 0 1 x4 1 := e8
    have b4 : (0 : Int) ≤ x4 ∧ x4 ≤ 9 := hI.1.2.1.2.2.2.1
    show yv_bI η0 (xs.getD 0 0) x1 x4 x5 x8 η
    refine vbJ_e (b := x2) (m := x3) (k := x1) (f := x4) (g := x6) (s := x5) fig (by omega) e7 (by omega) e8 ?_
    rw [if_pos (by omega)]
set_option maxHeartbeats 8000000 in
theorem zgs_bestBit3_o7 {ro : Nat → List Int32} (xs : List Int) (η0 : zE) (hp : sP wl_gs zTr zPgs_bestBit3 xs η0) (hpp : pPgs_bestBit3 xs η0) (x1 x2 x3 x4 x5 x6 : Int) (η : zE) (hI : zsI wl_gs zTr zVgs_bestBit3 zMgs_bestBit3 η0 1 [x1, x2, x3, x4, x5, x6] η) (hig : iCgs_bestBit3 xs η0 1 [x1, x2, x3, x4, x5, x6] η) : ∀ x7 : Int, x7 = zd 0 1 x4 x1 → (x6 < x7) → ∀ x8 : Int, x8 = η 4 (Int.toNat x6) → zok 0 x8 → ∀ x9 : Int, x9 = zd 0 1 x5 x8 → ∀ x10 : Int, x10 = zd 0 1 x6 1 → (iCgs_bestBit3 xs η0) 1 [x1, x2, x3, x4, x9, x10] η ∧ (fun (_ : Nat) (_ : List Int) (_ : zE) => (0 : Nat)) 1 [x1, x2, x3, x4, x9, x10] η < 1 := by
  have fig := hig.2
  have hig := hig.1
  intro x7 e7 c1 x8 e8 r8 x9 e9 x10 e10
  refine yj_c ?_ ?_
  · exact ⟨trivial, Nat.zero_lt_one⟩
  · have e7 : x7 = zd 0 1 x4 x1 := e7
    have e8 : x8 = η 4 (Int.toNat x6) := e8
    have e9 : x9 = zd 0 1 x5 x8 := e9
    have e10 : x10 = zd 0 1 x6 1 := e10
    have b4 : (0 : Int) ≤ x4 ∧ x4 ≤ 9 := hI.1.2.1.2.2.2.1
    show yv_bJ η0 (xs.getD 0 0) x1 x2 x3 x4 x9 x10 η
    exact vbJ_s (k := x1) (f := x4) (g := x6) fig (by omega) e7 (by omega) e8 e9 e10
set_option maxHeartbeats 8000000 in
theorem zgs_bestBit3 {ro : Nat → List Int32} : zMet pr_P pr_K pr_df ro (sm_X0 1 6) 1 98 tm_gs [(.inr (.inr (.inl (nat_lit 0)))), (.inl (nat_lit 1, (.ofNat (nat_lit 0))))] 1 [(nat_lit 0, nat_lit 0, nat_lit 1), (nat_lit 0, nat_lit 4, nat_lit 2), (nat_lit 0, nat_lit 5, nat_lit 32), (nat_lit 0, nat_lit 6, nat_lit 60), (nat_lit 0, nat_lit 7, nat_lit 70), (nat_lit 0, nat_lit 8, nat_lit 74), (nat_lit 0, nat_lit 11, nat_lit 78), (nat_lit 0, nat_lit 12, nat_lit 82), (nat_lit 0, nat_lit 13, nat_lit 90), (nat_lit 0, nat_lit 14, nat_lit 91), (nat_lit 0, nat_lit 15, nat_lit 95), (nat_lit 0, nat_lit 16, nat_lit 101), (nat_lit 2, nat_lit 8, nat_lit 3), (nat_lit 2, nat_lit 9, nat_lit 4), (nat_lit 2, nat_lit 10, nat_lit 5), (nat_lit 2, nat_lit 11, nat_lit 6), (nat_lit 2, nat_lit 12, nat_lit 11), (nat_lit 2, nat_lit 13, nat_lit 16), (nat_lit 2, nat_lit 14, nat_lit 17), (nat_lit 6, nat_lit 0, nat_lit 7), (nat_lit 11, nat_lit 0, nat_lit 12), (nat_lit 6, nat_lit 1, nat_lit 8), (nat_lit 11, nat_lit 1, nat_lit 13), (nat_lit 6, nat_lit 2, nat_lit 9), (nat_lit 11, nat_lit 2, nat_lit 14), (nat_lit 6, nat_lit 3, nat_lit 10), (nat_lit 11, nat_lit 3, nat_lit 15), (nat_lit 17, nat_lit 2, nat_lit 18), (nat_lit 17, nat_lit 3, nat_lit 19), (nat_lit 17, nat_lit 4, nat_lit 20), (nat_lit 17, nat_lit 5, nat_lit 21), (nat_lit 17, nat_lit 6, nat_lit 22), (nat_lit 32, nat_lit 8, nat_lit 33), (nat_lit 32, nat_lit 9, nat_lit 34), (nat_lit 32, nat_lit 10, nat_lit 35), (nat_lit 32, nat_lit 11, nat_lit 36), (nat_lit 32, nat_lit 12, nat_lit 41), (nat_lit 32, nat_lit 13, nat_lit 46), (nat_lit 32, nat_lit 14, nat_lit 47), (nat_lit 36, nat_lit 0, nat_lit 37), (nat_lit 41, nat_lit 0, nat_lit 42), (nat_lit 36, nat_lit 1, nat_lit 38), (nat_lit 41, nat_lit 1, nat_lit 43), (nat_lit 36, nat_lit 2, nat_lit 39), (nat_lit 41, nat_lit 2, nat_lit 44), (nat_lit 36, nat_lit 3, nat_lit 40), (nat_lit 41, nat_lit 3, nat_lit 45), (nat_lit 47, nat_lit 2, nat_lit 48), (nat_lit 47, nat_lit 3, nat_lit 49), (nat_lit 47, nat_lit 4, nat_lit 50), (nat_lit 47, nat_lit 5, nat_lit 51), (nat_lit 47, nat_lit 6, nat_lit 52), (nat_lit 60, nat_lit 3, nat_lit 1), (nat_lit 60, nat_lit 9, nat_lit 61), (nat_lit 60, nat_lit 10, nat_lit 62), (nat_lit 60, nat_lit 11, nat_lit 63), (nat_lit 70, nat_lit 8, nat_lit 71), (nat_lit 70, nat_lit 9, nat_lit 72), (nat_lit 70, nat_lit 10, nat_lit 73), (nat_lit 74, nat_lit 8, nat_lit 75), (nat_lit 74, nat_lit 9, nat_lit 76), (nat_lit 74, nat_lit 10, nat_lit 77), (nat_lit 78, nat_lit 8, nat_lit 79), (nat_lit 78, nat_lit 9, nat_lit 80), (nat_lit 78, nat_lit 10, nat_lit 81), (nat_lit 82, nat_lit 8, nat_lit 83), (nat_lit 82, nat_lit 9, nat_lit 84), (nat_lit 82, nat_lit 10, nat_lit 85), (nat_lit 91, nat_lit 1, nat_lit 92), (nat_lit 91, nat_lit 2, nat_lit 93), (nat_lit 91, nat_lit 3, nat_lit 94), (nat_lit 95, nat_lit 2, nat_lit 96), (nat_lit 95, nat_lit 3, nat_lit 97), (nat_lit 95, nat_lit 4, nat_lit 98), (nat_lit 95, nat_lit 5, nat_lit 99), (nat_lit 95, nat_lit 6, nat_lit 100)] [] (fun xs η => sP wl_gs zTr zPgs_bestBit3 xs η ∧ pPgs_bestBit3 xs η) (fun xs η y η' => sQ wl_gs zTr zOgs_bestBit3 zMgs_bestBit3 xs η y η' ∧ pQgs_bestBit3 xs η y η') :=
  zmet_alt (zmea_gen (mi := (nat_lit 1, nat_lit 1, nat_lit 7, nat_lit 7, nat_lit 1, tX7_bestBit)) (cd := [(nat_lit 75, nat_lit 0, nat_lit 0, [(.inl (nat_lit 1, (.ofNat (nat_lit 0)))), (.inl (nat_lit 2, (.ofNat (nat_lit 0)))), (.inl (nat_lit 3, (.ofNat (nat_lit 0))))], nat_lit 2, [], [])]) (cu := zUgs_bestBit3) (cs := [(nat_lit 0, zPgs_within, zOgs_within, zMgs_within)]) (iv := zVgs_bestBit3) (po := [zOgs_bestBit3]) (pr := zPgs_bestBit3) (mods := zMgs_bestBit3) (D7 := zDgs_bestBit3) (D0 := zEgs_bestBit3) (Dm := zFgs_bestBit3) (f0 := 16) pCgs_bestBit3 qCgs_bestBit3 iCgs_bestBit3 pPgs_bestBit3 (fun xs η _ y η' => pQgs_bestBit3 xs η y η') zX_low pr_mtR rfl (List.forall_mem_cons.mpr ⟨zgs_within, fun _ h => nomatch h⟩) (by decide +kernel) (by decide +kernel) (by decide +kernel)
    (by
      intro xs η hr hl hp hpp
      match xs, hl, hp, hpp with
      | [x1], _, hp, hpp =>
        refine List.forall_mem_cons.mpr ⟨?_, List.forall_mem_cons.mpr ⟨?_, List.forall_mem_cons.mpr ⟨?_, fun _ h => nomatch h⟩⟩⟩
        · refine zden_L (n := 2) (ρ := [x1, 0]) rfl ?_
          show ((gC2 wl_gs [(nat_lit 0, zPgs_within, zOgs_within, zMgs_within)] pCgs_bestBit3 qCgs_bestBit3) 0).1 [x1, 1, 12] η
          
          exact trivial
        · refine zden_L (n := 2) (ρ := [x1, 0]) rfl ?_
          exact zgs_bestBit3_o0 (ro := ro) x1 η hp hpp
        · refine zden_L (n := 2) (ρ := [x1, 0]) rfl ?_
          exact zgs_bestBit3_o1 (ro := ro) x1 η hp hpp
      )
    (fun _ _ _ _ _ _ _ h => nomatch h)
    (List.forall_mem_cons.mpr ⟨⟨zDgs_bestBit3_0, zEgs_bestBit3_0, zFgs_bestBit3_0, 16, by decide +kernel, (by
      intro xs η0 hlx hp hpp ys η hr hl hI hig
      match ys, hl, hI, hig with
      | [x1, x2, x3, x4], _, hI, hig =>
        refine ⟨?_, ?_⟩
        · refine List.forall_mem_cons.mpr ⟨?_, List.forall_mem_cons.mpr ⟨?_, fun _ h => nomatch h⟩⟩
          · refine zden_L (n := 5) (ρ := [x4, x3, x2, x1, 0]) rfl ?_
            exact zgs_bestBit3_o2 (ro := ro) xs η0 hp hpp x1 x2 x3 x4 η hI hig
          · refine zden_L (n := 5) (ρ := [x4, x3, x2, x1, 0]) rfl ?_
            exact zgs_bestBit3_o3 (ro := ro) xs η0 hp hpp x1 x2 x3 x4 η hI hig
        · exact fun _ h => nomatch h
      )⟩, (List.forall_mem_cons.mpr ⟨⟨zDgs_bestBit3_1, zEgs_bestBit3_1, zFgs_bestBit3_1, 21, by decide +kernel, (by
      intro xs η0 hlx hp hpp ys η hr hl hI hig
      match ys, hl, hI, hig with
      | [x1, x2, x3, x4, x5, x6], _, hI, hig =>
        refine ⟨?_, ?_⟩
        · refine List.forall_mem_cons.mpr ⟨?_, List.forall_mem_cons.mpr ⟨?_, List.forall_mem_cons.mpr ⟨?_, List.forall_mem_cons.mpr ⟨?_, fun _ h => nomatch h⟩⟩⟩⟩
          · refine zden_L (n := 7) (ρ := [x6, x5, x4, x3, x2, x1, 0]) rfl ?_
            exact zgs_bestBit3_o4 (ro := ro) xs η0 hp hpp x1 x2 x3 x4 x5 x6 η hI hig
          · refine zden_L (n := 7) (ρ := [x6, x5, x4, x3, x2, x1, 0]) rfl ?_
            exact zgs_bestBit3_o5 (ro := ro) xs η0 hp hpp x1 x2 x3 x4 x5 x6 η hI hig
          · refine zden_L (n := 7) (ρ := [x6, x5, x4, x3, x2, x1, 0]) rfl ?_
            exact zgs_bestBit3_o6 (ro := ro) xs η0 hp hpp x1 x2 x3 x4 x5 x6 η hI hig
          · refine zden_L (n := 7) (ρ := [x6, x5, x4, x3, x2, x1, 0]) rfl ?_
            exact zgs_bestBit3_o7 (ro := ro) xs η0 hp hpp x1 x2 x3 x4 x5 x6 η hI hig
        · exact fun _ h => nomatch h
      )⟩, (fun _ h => nomatch h)⟩)⟩))
def zPgs_bestBit4 : zPq := ([((.ofNat (nat_lit 4)), (.ofNat (nat_lit 4)))], [])
def zOgs_bestBit4 : zPo := (((.negSucc (nat_lit 2147483647)), (.ofNat (nat_lit 2147483647))), [], [])
def zMgs_bestBit4 : List zCe := []
def pPgs_bestBit4 : List Int → zE → Prop := fun _ _ => True
def oQgs_bestBit4 : List Int → zE → Int → zE → Prop := fun _ _ _ _ => True
def fQgs_bestBit4 : List Int → zE → Int → zE → Prop := fun xs η y η' => y = (yv_bb (xs.getD 0 0) η) ∧ η' = η
def pQgs_bestBit4 : List Int → zE → Int → zE → Prop := fun xs η y η' => oQgs_bestBit4 xs η y η' ∧ fQgs_bestBit4 xs η y η'
def pCgs_bestBit4 : Nat → List Int → zE → Prop := fun c => match c with
  | 0 => pPgs_within
  | _ => fun _ _ => True
def qCgs_bestBit4 : Nat → List Int → zE → Int → zE → Prop := fun c => match c with
  | 0 => pQgs_within
  | _ => fun _ _ _ _ => True
def iCgs_bestBit4 : List Int → zE → Nat → List Int → zE → Prop := fun xs η0 c => match c with
  | 0 => fun ys η => (True) ∧ (yv_bI η0 (xs.getD 0 0) (ys.getD 0 0) (ys.getD 1 0) (ys.getD 2 0) (ys.getD 3 0) η)
  | 1 => fun ys η => (True) ∧ (yv_bJ η0 (xs.getD 0 0) (ys.getD 0 0) (ys.getD 1 0) (ys.getD 2 0) (ys.getD 3 0) (ys.getD 4 0) (ys.getD 5 0) η)
  | _ => fun _ _ => True
def zVgs_bestBit4 : List zIv := [(nat_lit 0, ([((.ofNat (nat_lit 4)), (.ofNat (nat_lit 4))), ((.negSucc (nat_lit 2147483647)), (.ofNat (nat_lit 2147483647))), ((.negSucc (nat_lit 2147483647)), (.ofNat (nat_lit 2147483647))), ((.ofNat (nat_lit 0)), (.ofNat (nat_lit 9)))], []), ((.ofNat (nat_lit 2000)), [((.negSucc (nat_lit 99)), nat_lit 0, nat_lit 3, nat_lit 0)])), (nat_lit 1, ([((.ofNat (nat_lit 4)), (.ofNat (nat_lit 4))), ((.negSucc (nat_lit 2147483647)), (.ofNat (nat_lit 2147483647))), ((.negSucc (nat_lit 2147483647)), (.ofNat (nat_lit 2147483647))), ((.ofNat (nat_lit 0)), (.ofNat (nat_lit 8))), ((.negSucc (nat_lit 2147483647)), (.ofNat (nat_lit 2147483647))), ((.ofNat (nat_lit 0)), (.ofNat (nat_lit 12)))], []), ((.ofNat (nat_lit 1950)), [((.negSucc (nat_lit 99)), nat_lit 0, nat_lit 3, nat_lit 0), ((.negSucc (nat_lit 0)), nat_lit 0, nat_lit 5, nat_lit 0)]))]
def zUgs_bestBit4 : List zCu := [(nat_lit 20, nat_lit 0, [(nat_lit 0, (.inr (.inr (.inl (nat_lit 0))))), (nat_lit 1, (.inl (nat_lit 1, (.ofNat (nat_lit 0))))), (nat_lit 2, (.inl (nat_lit 2, (.ofNat (nat_lit 0))))), (nat_lit 3, (.inl (nat_lit 3, (.ofNat (nat_lit 0))))), (nat_lit 4, (.inl (nat_lit 4, (.ofNat (nat_lit 0)))))], []), (nat_lit 41, nat_lit 1, [(nat_lit 0, (.inr (.inr (.inl (nat_lit 0))))), (nat_lit 1, (.inl (nat_lit 1, (.ofNat (nat_lit 0))))), (nat_lit 2, (.inl (nat_lit 2, (.ofNat (nat_lit 0))))), (nat_lit 3, (.inl (nat_lit 3, (.ofNat (nat_lit 0))))), (nat_lit 4, (.inl (nat_lit 4, (.ofNat (nat_lit 0))))), (nat_lit 5, (.inl (nat_lit 5, (.ofNat (nat_lit 0))))), (nat_lit 6, (.inl (nat_lit 6, (.ofNat (nat_lit 0)))))], [])]
def zDgs_bestBit4 : List (List zK) := []
def zEgs_bestBit4 : List (List zK) := [[(nat_lit 13, nat_lit 0, [(nat_lit 1, (.ofNat (nat_lit 0))), (nat_lit 0, (.ofNat (nat_lit 1))), (nat_lit 0, (.ofNat (nat_lit 12)))])],
  [(nat_lit 12, nat_lit 0, [(nat_lit 1, (.ofNat (nat_lit 0))), (nat_lit 0, (.negSucc (nat_lit 1))), (nat_lit 0, (.ofNat (nat_lit 0))), (nat_lit 0, (.ofNat (nat_lit 0)))]), (nat_lit 6, nat_lit 1, [(nat_lit 2, (.ofNat (nat_lit 0))), (nat_lit 0, (.ofNat (nat_lit 0)))]), (nat_lit 8, nat_lit 0, [(nat_lit 1, (.ofNat (nat_lit 0))), (nat_lit 0, (.ofNat (nat_lit 1))), (nat_lit 0, (.ofNat (nat_lit 12)))])],
  [(nat_lit 11, nat_lit 0, [(nat_lit 0, (.negSucc (nat_lit 0)))]), (nat_lit 6, nat_lit 0, [(nat_lit 2, (.ofNat (nat_lit 0))), (nat_lit 0, (.ofNat (nat_lit 0)))]), (nat_lit 8, nat_lit 0, [(nat_lit 1, (.ofNat (nat_lit 0))), (nat_lit 0, (.ofNat (nat_lit 1))), (nat_lit 0, (.ofNat (nat_lit 12)))])]]
def zFgs_bestBit4 : List (List zK) := []
def zDgs_bestBit4_0 : List (List zK) := []
def zEgs_bestBit4_0 : List (List zK) := [[(nat_lit 11, nat_lit 0, [(nat_lit 2, (.ofNat (nat_lit 0)))]), (nat_lit 6, nat_lit 4, [(nat_lit 5, (.ofNat (nat_lit 0))), (nat_lit 6, (.ofNat (nat_lit 0)))]), (nat_lit 4, nat_lit 0, [(nat_lit 2, (.ofNat (nat_lit 0))), (nat_lit 0, (.ofNat (nat_lit 1)))]), (nat_lit 0, nat_lit 1, [(nat_lit 4, (.ofNat (nat_lit 0))), (nat_lit 1, (.ofNat (nat_lit 0)))])],
  [(nat_lit 10, nat_lit 1, [(nat_lit 1, (.ofNat (nat_lit 0))), (nat_lit 2, (.ofNat (nat_lit 0))), (nat_lit 3, (.ofNat (nat_lit 0))), (nat_lit 4, (.ofNat (nat_lit 0))), (nat_lit 0, (.ofNat (nat_lit 0))), (nat_lit 4, (.ofNat (nat_lit 0)))]), (nat_lit 6, nat_lit 5, [(nat_lit 5, (.ofNat (nat_lit 0))), (nat_lit 6, (.ofNat (nat_lit 0)))]), (nat_lit 4, nat_lit 0, [(nat_lit 2, (.ofNat (nat_lit 0))), (nat_lit 0, (.ofNat (nat_lit 1)))]), (nat_lit 0, nat_lit 1, [(nat_lit 4, (.ofNat (nat_lit 0))), (nat_lit 1, (.ofNat (nat_lit 0)))])]]
def zFgs_bestBit4_0 : List (List zK) := []
def zDgs_bestBit4_1 : List (List zK) := [[(nat_lit 7, nat_lit 0, [(nat_lit 6, (.ofNat (nat_lit 0))), (nat_lit 0, (.ofNat (nat_lit 12)))]), (nat_lit 6, nat_lit 2, [(nat_lit 6, (.ofNat (nat_lit 0))), (nat_lit 7, (.ofNat (nat_lit 0)))]), (nat_lit 0, nat_lit 1, [(nat_lit 4, (.ofNat (nat_lit 0))), (nat_lit 1, (.ofNat (nat_lit 0)))])]]
def zEgs_bestBit4_1 : List (List zK) := [[(nat_lit 10, nat_lit 0, [(nat_lit 1, (.ofNat (nat_lit 0))), (nat_lit 4, (.ofNat (nat_lit 0))), (nat_lit 5, (.ofNat (nat_lit 0))), (nat_lit 8, (.ofNat (nat_lit 0)))]), (nat_lit 0, nat_lit 1, [(nat_lit 4, (.ofNat (nat_lit 0))), (nat_lit 0, (.ofNat (nat_lit 1)))]), (nat_lit 6, nat_lit 2, [(nat_lit 2, (.ofNat (nat_lit 0))), (nat_lit 0, (.ofNat (nat_lit 0)))]), (nat_lit 6, nat_lit 3, [(nat_lit 6, (.ofNat (nat_lit 0))), (nat_lit 7, (.ofNat (nat_lit 0)))]), (nat_lit 0, nat_lit 1, [(nat_lit 4, (.ofNat (nat_lit 0))), (nat_lit 1, (.ofNat (nat_lit 0)))])],
  [(nat_lit 10, nat_lit 0, [(nat_lit 1, (.ofNat (nat_lit 0))), (nat_lit 2, (.ofNat (nat_lit 0))), (nat_lit 3, (.ofNat (nat_lit 0))), (nat_lit 8, (.ofNat (nat_lit 0)))]), (nat_lit 0, nat_lit 1, [(nat_lit 4, (.ofNat (nat_lit 0))), (nat_lit 0, (.ofNat (nat_lit 1)))]), (nat_lit 6, nat_lit 5, [(nat_lit 5, (.ofNat (nat_lit 0))), (nat_lit 3, (.ofNat (nat_lit 0)))]), (nat_lit 6, nat_lit 3, [(nat_lit 2, (.ofNat (nat_lit 0))), (nat_lit 0, (.ofNat (nat_lit 0)))]), (nat_lit 6, nat_lit 3, [(nat_lit 6, (.ofNat (nat_lit 0))), (nat_lit 7, (.ofNat (nat_lit 0)))]), (nat_lit 0, nat_lit 1, [(nat_lit 4, (.ofNat (nat_lit 0))), (nat_lit 1, (.ofNat (nat_lit 0)))])],
  [(nat_lit 10, nat_lit 0, [(nat_lit 1, (.ofNat (nat_lit 0))), (nat_lit 4, (.ofNat (nat_lit 0))), (nat_lit 5, (.ofNat (nat_lit 0))), (nat_lit 8, (.ofNat (nat_lit 0)))]), (nat_lit 0, nat_lit 1, [(nat_lit 4, (.ofNat (nat_lit 0))), (nat_lit 0, (.ofNat (nat_lit 1)))]), (nat_lit 6, nat_lit 4, [(nat_lit 5, (.ofNat (nat_lit 0))), (nat_lit 3, (.ofNat (nat_lit 0)))]), (nat_lit 6, nat_lit 3, [(nat_lit 2, (.ofNat (nat_lit 0))), (nat_lit 0, (.ofNat (nat_lit 0)))]), (nat_lit 6, nat_lit 3, [(nat_lit 6, (.ofNat (nat_lit 0))), (nat_lit 7, (.ofNat (nat_lit 0)))]), (nat_lit 0, nat_lit 1, [(nat_lit 4, (.ofNat (nat_lit 0))), (nat_lit 1, (.ofNat (nat_lit 0)))])],
  [(nat_lit 10, nat_lit 1, [(nat_lit 1, (.ofNat (nat_lit 0))), (nat_lit 2, (.ofNat (nat_lit 0))), (nat_lit 3, (.ofNat (nat_lit 0))), (nat_lit 4, (.ofNat (nat_lit 0))), (nat_lit 9, (.ofNat (nat_lit 0))), (nat_lit 10, (.ofNat (nat_lit 0)))]), (nat_lit 0, nat_lit 1, [(nat_lit 6, (.ofNat (nat_lit 0))), (nat_lit 0, (.ofNat (nat_lit 1)))]), (nat_lit 0, nat_lit 1, [(nat_lit 5, (.ofNat (nat_lit 0))), (nat_lit 8, (.ofNat (nat_lit 0)))]), (nat_lit 4, nat_lit 0, [(nat_lit 4, (.ofNat (nat_lit 0))), (nat_lit 6, (.ofNat (nat_lit 0)))]), (nat_lit 6, nat_lit 2, [(nat_lit 6, (.ofNat (nat_lit 0))), (nat_lit 7, (.ofNat (nat_lit 0)))]), (nat_lit 0, nat_lit 1, [(nat_lit 4, (.ofNat (nat_lit 0))), (nat_lit 1, (.ofNat (nat_lit 0)))])]]
def zFgs_bestBit4_1 : List (List zK) := []
set_option maxHeartbeats 8000000 in
theorem zgs_bestBit4_o0 {ro : Nat → List Int32} (x1 : Int) (η : zE) (hp : sP wl_gs zTr zPgs_bestBit4 [x1] η) (hpp : pPgs_bestBit4 [x1] η) : ∀ (x2 : Int) (η1 : zE), ((gC2 wl_gs [(nat_lit 0, zPgs_within, zOgs_within, zMgs_within)] pCgs_bestBit4 qCgs_bestBit4) 0).2 [x1, 1, 12] η x2 η1 → (¬ x2 = 0) → (iCgs_bestBit4 [x1] η) 0 [x1, (-2), 0, 0] η1 := by
  intro x2 η1 h2 c1
  have y2 : fQgs_within [x1, 1, 12] η x2 η1 := h2.2.2
  have k2 : sQ wl_gs zTr zOgs_within zMgs_within [x1, 1, 12] η x2 η1 ∧ oQgs_within [x1, 1, 12] η x2 η1 := ⟨h2.1, h2.2.1⟩
  refine yj_a ?_ ?_
  · have y2 : fQgs_within [x1, 1, 12] η x2 η1 := h2.2.2
    have k2 : sQ wl_gs zTr zOgs_within zMgs_within [x1, 1, 12] η x2 η1 ∧ oQgs_within [x1, 1, 12] η x2 η1 := ⟨h2.1, h2.2.1⟩
    exact trivial
  · obtain ⟨a2, b2⟩ : x2 = yq_in x1 1 12 ∧ η1 = η := y2
    show yv_bI η x1 x1 (-2) 0 0 η1
    exact vbI_0 b2 (by omega)
set_option maxHeartbeats 8000000 in
theorem zgs_bestBit4_o1 {ro : Nat → List Int32} (x1 : Int) (η : zE) (hp : sP wl_gs zTr zPgs_bestBit4 [x1] η) (hpp : pPgs_bestBit4 [x1] η) : ∀ (x2 : Int) (η1 : zE), ((gC2 wl_gs [(nat_lit 0, zPgs_within, zOgs_within, zMgs_within)] pCgs_bestBit4 qCgs_bestBit4) 0).2 [x1, 1, 12] η x2 η1 → (x2 = 0) → (fun (_ : Nat) (y : Int) (η' : zE) => pQgs_bestBit4 [x1] η y η') 0 (-1) η1 := by
  intro x2 η1 h2 c1
  have y2 : fQgs_within [x1, 1, 12] η x2 η1 := h2.2.2
  have k2 : sQ wl_gs zTr zOgs_within zMgs_within [x1, 1, 12] η x2 η1 ∧ oQgs_within [x1, 1, 12] η x2 η1 := ⟨h2.1, h2.2.1⟩
  refine yj_a ?_ ?_
  · have y2 : fQgs_within [x1, 1, 12] η x2 η1 := h2.2.2
    have k2 : sQ wl_gs zTr zOgs_within zMgs_within [x1, 1, 12] η x2 η1 ∧ oQgs_within [x1, 1, 12] η x2 η1 := ⟨h2.1, h2.2.1⟩
    exact trivial
  · obtain ⟨a2, b2⟩ : x2 = yq_in x1 1 12 ∧ η1 = η := y2
    show -1 = yv_bb x1 η ∧ η1 = η
    exact ⟨by unfold yv_bb; rw [if_pos (by omega)], b2⟩
set_option maxHeartbeats 8000000 in
theorem zgs_bestBit4_o2 {ro : Nat → List Int32} (xs : List Int) (η0 : zE) (hp : sP wl_gs zTr zPgs_bestBit4 xs η0) (hpp : pPgs_bestBit4 xs η0) (x1 x2 x3 x4 : Int) (η : zE) (hI : zsI wl_gs zTr zVgs_bestBit4 zMgs_bestBit4 η0 0 [x1, x2, x3, x4] η) (hig : iCgs_bestBit4 xs η0 0 [x1, x2, x3, x4] η) : ∀ x5 : Int, x5 = zd 0 1 x4 x1 → ∀ x6 : Int, x6 = η 2 (Int.toNat 1) → zok 0 x6 → (x6 < x5) → (fun (_ : Nat) (y : Int) (η' : zE) => pQgs_bestBit4 xs η0 y η') 0 x2 η := by
  have fig := hig.2
  have hig := hig.1
  intro x5 e5 x6 e6 r6 c1
  refine yj_a ?_ ?_
  · exact trivial
  · have e5 : x5 = zd 0 1 x4 x1 := e5
    have e6 : x6 = η 2 1 := e6
    have b4 : (0 : Int) ≤ x4 ∧ x4 ≤ 9 := hI.1.2.1.2.2.2.1
    exact vbI_e (k := x1) (m := x3) (f := x4) fig (by omega) e5 (by rw [← e6]; omega)
set_option maxHeartbeats 8000000 in
theorem zgs_bestBit4_o3 {ro : Nat → List Int32} (xs : List Int) (η0 : zE) (hp : sP wl_gs zTr zPgs_bestBit4 xs η0) (hpp : pPgs_bestBit4 xs η0) (x1 x2 x3 x4 : Int) (η : zE) (hI : zsI wl_gs zTr zVgs_bestBit4 zMgs_bestBit4 η0 0 [x1, x2, x3, x4] η) (hig : iCgs_bestBit4 xs η0 0 [x1, x2, x3, x4] η) : ∀ x5 : Int, x5 = zd 0 1 x4 x1 → ∀ x6 : Int, x6 = η 2 (Int.toNat 1) → zok 0 x6 → (x5 ≤ x6) → (iCgs_bestBit4 xs η0) 1 [x1, x2, x3, x4, 0, x4] η ∧ (fun (_ : Nat) (_ : List Int) (_ : zE) => (0 : Nat)) 1 [x1, x2, x3, x4, 0, x4] η < 1 := by
  have fig := hig.2
  have hig := hig.1
  intro x5 e5 x6 e6 r6 c1
  refine yj_c ?_ ?_
  · exact ⟨trivial, Nat.zero_lt_one⟩
  · have e5 : x5 = zd 0 1 x4 x1 := e5
    have e6 : x6 = η 2 1 := e6
    have b4 : (0 : Int) ≤ x4 ∧ x4 ≤ 9 := hI.1.2.1.2.2.2.1
    show yv_bJ η0 (xs.getD 0 0) x1 x2 x3 x4 0 x4 η
    exact vbJ_0 fig (by omega) e5 (by rw [← e6]; omega)
set_option maxHeartbeats 8000000 in
theorem zgs_bestBit4_o4 {ro : Nat → List Int32} (xs : List Int) (η0 : zE) (hp : sP wl_gs zTr zPgs_bestBit4 xs η0) (hpp : pPgs_bestBit4 xs η0) (x1 x2 x3 x4 x5 x6 : Int) (η : zE) (hI : zsI wl_gs zTr zVgs_bestBit4 zMgs_bestBit4 η0 1 [x1, x2, x3, x4, x5, x6] η) (hig : iCgs_bestBit4 xs η0 1 [x1, x2, x3, x4, x5, x6] η) : ∀ x7 : Int, x7 = zd 0 1 x4 x1 → (x7 ≤ x6) → (x2 < 0) → ∀ x8 : Int, x8 = zd 0 1 x4 1 → (iCgs_bestBit4 xs η0) 0 [x1, x4, x5, x8] η ∧ (fun (_ : Nat) (_ : List Int) (_ : zE) => (0 : Nat)) 0 [x1, x4, x5, x8] η < 1 := by
  have fig := hig.2
  have hig := hig.1
  intro x7 e7 c1 c2 x8 e8
  refine yj_c ?_ ?_
  · exact ⟨trivial, Nat.zero_lt_one⟩
  · have e7 : x7 = zd 0 1 x4 x1 := e7
    have e8 : x8 = zd 0 1 x4 1 := e8
    have b4 : (0 : Int) ≤ x4 ∧ x4 ≤ 8 := hI.1.2.1.2.2.2.1
    show yv_bI η0 (xs.getD 0 0) x1 x4 x5 x8 η
    refine vbJ_e (b := x2) (m := x3) (k := x1) (f := x4) (g := x6) (s := x5) fig (by omega) e7 (by omega) e8 ?_
    rw [if_pos (by omega)]
set_option maxHeartbeats 8000000 in
theorem zgs_bestBit4_o5 {ro : Nat → List Int32} (xs : List Int) (η0 : zE) (hp : sP wl_gs zTr zPgs_bestBit4 xs η0) (hpp : pPgs_bestBit4 xs η0) (x1 x2 x3 x4 x5 x6 : Int) (η : zE) (hI : zsI wl_gs zTr zVgs_bestBit4 zMgs_bestBit4 η0 1 [x1, x2, x3, x4, x5, x6] η) (hig : iCgs_bestBit4 xs η0 1 [x1, x2, x3, x4, x5, x6] η) : ∀ x7 : Int, x7 = zd 0 1 x4 x1 → (x7 ≤ x6) → (0 ≤ x2) → (x5 ≤ x3) → ∀ x8 : Int, x8 = zd 0 1 x4 1 → (iCgs_bestBit4 xs η0) 0 [x1, x2, x3, x8] η ∧ (fun (_ : Nat) (_ : List Int) (_ : zE) => (0 : Nat)) 0 [x1, x2, x3, x8] η < 1 := by
  have fig := hig.2
  have hig := hig.1
  intro x7 e7 c1 c2 c3 x8 e8
  refine yj_c ?_ ?_
  · exact ⟨trivial, Nat.zero_lt_one⟩
  · have e7 : x7 = zd 0 1 x4 x1 := e7
    have e8 : x8 = zd 0 1 x4 1 := e8
    have b4 : (0 : Int) ≤ x4 ∧ x4 ≤ 8 := hI.1.2.1.2.2.2.1
    show yv_bI η0 (xs.getD 0 0) x1 x2 x3 x8 η
    refine vbJ_e (b := x2) (m := x3) (k := x1) (f := x4) (g := x6) (s := x5) fig (by omega) e7 (by omega) e8 ?_
    rw [if_neg (by omega)]
set_option maxHeartbeats 8000000 in
theorem zgs_bestBit4_o6 {ro : Nat → List Int32} (xs : List Int) (η0 : zE) (hp : sP wl_gs zTr zPgs_bestBit4 xs η0) (hpp : pPgs_bestBit4 xs η0) (x1 x2 x3 x4 x5 x6 : Int) (η : zE) (hI : zsI wl_gs zTr zVgs_bestBit4 zMgs_bestBit4 η0 1 [x1, x2, x3, x4, x5, x6] η) (hig : iCgs_bestBit4 xs η0 1 [x1, x2, x3, x4, x5, x6] η) : ∀ x7 : Int, x7 = zd 0 1 x4 x1 → (x7 ≤ x6) → (0 ≤ x2) → (x3 < x5) → ∀ x8 : Int, x8 = zd 0 1 x4 1 → (iCgs_bestBit4 xs η0) 0 [x1, x4, x5, x8] η ∧ (fun (_ : Nat) (_ : List Int) (_ : zE) => (0 : Nat)) 0 [x1, x4, x5, x8] η < 1 := by
  have fig := hig.2
  have hig := hig.1
  intro x7 e7 c1 c2 c3 x8 e8
  refine yj_c ?_ ?_
  · exact ⟨trivial, Nat.zero_lt_one⟩
  · have e7 : x7 = zd 0 1 x4 x1 := e7
    have e8 : x8 = zd 0 1 x4 1 := e8
    have b4 : (0 : Int) ≤ x4 ∧ x4 ≤ 8 := hI.1.2.1.2.2.2.1
    show yv_bI η0 (xs.getD 0 0) x1 x4 x5 x8 η
    refine vbJ_e (b := x2) (m := x3) (k := x1) (f := x4) (g := x6) (s := x5) fig (by omega) e7 (by omega) e8 ?_
    rw [if_pos (by omega)]
set_option maxHeartbeats 8000000 in
theorem zgs_bestBit4_o7 {ro : Nat → List Int32} (xs : List Int) (η0 : zE) (hp : sP wl_gs zTr zPgs_bestBit4 xs η0) (hpp : pPgs_bestBit4 xs η0) (x1 x2 x3 x4 x5 x6 : Int) (η : zE) (hI : zsI wl_gs zTr zVgs_bestBit4 zMgs_bestBit4 η0 1 [x1, x2, x3, x4, x5, x6] η) (hig : iCgs_bestBit4 xs η0 1 [x1, x2, x3, x4, x5, x6] η) : ∀ x7 : Int, x7 = zd 0 1 x4 x1 → (x6 < x7) → ∀ x8 : Int, x8 = η 4 (Int.toNat x6) → zok 0 x8 → ∀ x9 : Int, x9 = zd 0 1 x5 x8 → ∀ x10 : Int, x10 = zd 0 1 x6 1 → (iCgs_bestBit4 xs η0) 1 [x1, x2, x3, x4, x9, x10] η ∧ (fun (_ : Nat) (_ : List Int) (_ : zE) => (0 : Nat)) 1 [x1, x2, x3, x4, x9, x10] η < 1 := by
  have fig := hig.2
  have hig := hig.1
  intro x7 e7 c1 x8 e8 r8 x9 e9 x10 e10
  refine yj_c ?_ ?_
  · exact ⟨trivial, Nat.zero_lt_one⟩
  · have e7 : x7 = zd 0 1 x4 x1 := e7
    have e8 : x8 = η 4 (Int.toNat x6) := e8
    have e9 : x9 = zd 0 1 x5 x8 := e9
    have e10 : x10 = zd 0 1 x6 1 := e10
    have b4 : (0 : Int) ≤ x4 ∧ x4 ≤ 8 := hI.1.2.1.2.2.2.1
    show yv_bJ η0 (xs.getD 0 0) x1 x2 x3 x4 x9 x10 η
    exact vbJ_s (k := x1) (f := x4) (g := x6) fig (by omega) e7 (by omega) e8 e9 e10
set_option maxHeartbeats 8000000 in
theorem zgs_bestBit4 {ro : Nat → List Int32} : zMet pr_P pr_K pr_df ro (sm_X0 1 6) 1 98 tm_gs [(.inr (.inr (.inl (nat_lit 0)))), (.inl (nat_lit 1, (.ofNat (nat_lit 0))))] 1 [(nat_lit 0, nat_lit 0, nat_lit 1), (nat_lit 0, nat_lit 4, nat_lit 2), (nat_lit 0, nat_lit 5, nat_lit 32), (nat_lit 0, nat_lit 6, nat_lit 60), (nat_lit 0, nat_lit 7, nat_lit 70), (nat_lit 0, nat_lit 8, nat_lit 74), (nat_lit 0, nat_lit 11, nat_lit 78), (nat_lit 0, nat_lit 12, nat_lit 82), (nat_lit 0, nat_lit 13, nat_lit 90), (nat_lit 0, nat_lit 14, nat_lit 91), (nat_lit 0, nat_lit 15, nat_lit 95), (nat_lit 0, nat_lit 16, nat_lit 101), (nat_lit 2, nat_lit 8, nat_lit 3), (nat_lit 2, nat_lit 9, nat_lit 4), (nat_lit 2, nat_lit 10, nat_lit 5), (nat_lit 2, nat_lit 11, nat_lit 6), (nat_lit 2, nat_lit 12, nat_lit 11), (nat_lit 2, nat_lit 13, nat_lit 16), (nat_lit 2, nat_lit 14, nat_lit 17), (nat_lit 6, nat_lit 0, nat_lit 7), (nat_lit 11, nat_lit 0, nat_lit 12), (nat_lit 6, nat_lit 1, nat_lit 8), (nat_lit 11, nat_lit 1, nat_lit 13), (nat_lit 6, nat_lit 2, nat_lit 9), (nat_lit 11, nat_lit 2, nat_lit 14), (nat_lit 6, nat_lit 3, nat_lit 10), (nat_lit 11, nat_lit 3, nat_lit 15), (nat_lit 17, nat_lit 2, nat_lit 18), (nat_lit 17, nat_lit 3, nat_lit 19), (nat_lit 17, nat_lit 4, nat_lit 20), (nat_lit 17, nat_lit 5, nat_lit 21), (nat_lit 17, nat_lit 6, nat_lit 22), (nat_lit 32, nat_lit 8, nat_lit 33), (nat_lit 32, nat_lit 9, nat_lit 34), (nat_lit 32, nat_lit 10, nat_lit 35), (nat_lit 32, nat_lit 11, nat_lit 36), (nat_lit 32, nat_lit 12, nat_lit 41), (nat_lit 32, nat_lit 13, nat_lit 46), (nat_lit 32, nat_lit 14, nat_lit 47), (nat_lit 36, nat_lit 0, nat_lit 37), (nat_lit 41, nat_lit 0, nat_lit 42), (nat_lit 36, nat_lit 1, nat_lit 38), (nat_lit 41, nat_lit 1, nat_lit 43), (nat_lit 36, nat_lit 2, nat_lit 39), (nat_lit 41, nat_lit 2, nat_lit 44), (nat_lit 36, nat_lit 3, nat_lit 40), (nat_lit 41, nat_lit 3, nat_lit 45), (nat_lit 47, nat_lit 2, nat_lit 48), (nat_lit 47, nat_lit 3, nat_lit 49), (nat_lit 47, nat_lit 4, nat_lit 50), (nat_lit 47, nat_lit 5, nat_lit 51), (nat_lit 47, nat_lit 6, nat_lit 52), (nat_lit 60, nat_lit 3, nat_lit 1), (nat_lit 60, nat_lit 9, nat_lit 61), (nat_lit 60, nat_lit 10, nat_lit 62), (nat_lit 60, nat_lit 11, nat_lit 63), (nat_lit 70, nat_lit 8, nat_lit 71), (nat_lit 70, nat_lit 9, nat_lit 72), (nat_lit 70, nat_lit 10, nat_lit 73), (nat_lit 74, nat_lit 8, nat_lit 75), (nat_lit 74, nat_lit 9, nat_lit 76), (nat_lit 74, nat_lit 10, nat_lit 77), (nat_lit 78, nat_lit 8, nat_lit 79), (nat_lit 78, nat_lit 9, nat_lit 80), (nat_lit 78, nat_lit 10, nat_lit 81), (nat_lit 82, nat_lit 8, nat_lit 83), (nat_lit 82, nat_lit 9, nat_lit 84), (nat_lit 82, nat_lit 10, nat_lit 85), (nat_lit 91, nat_lit 1, nat_lit 92), (nat_lit 91, nat_lit 2, nat_lit 93), (nat_lit 91, nat_lit 3, nat_lit 94), (nat_lit 95, nat_lit 2, nat_lit 96), (nat_lit 95, nat_lit 3, nat_lit 97), (nat_lit 95, nat_lit 4, nat_lit 98), (nat_lit 95, nat_lit 5, nat_lit 99), (nat_lit 95, nat_lit 6, nat_lit 100)] [] (fun xs η => sP wl_gs zTr zPgs_bestBit4 xs η ∧ pPgs_bestBit4 xs η) (fun xs η y η' => sQ wl_gs zTr zOgs_bestBit4 zMgs_bestBit4 xs η y η' ∧ pQgs_bestBit4 xs η y η') :=
  zmet_alt (zmea_gen (mi := (nat_lit 1, nat_lit 1, nat_lit 7, nat_lit 7, nat_lit 1, tX7_bestBit)) (cd := [(nat_lit 75, nat_lit 0, nat_lit 0, [(.inl (nat_lit 1, (.ofNat (nat_lit 0)))), (.inl (nat_lit 2, (.ofNat (nat_lit 0)))), (.inl (nat_lit 3, (.ofNat (nat_lit 0))))], nat_lit 2, [], [])]) (cu := zUgs_bestBit4) (cs := [(nat_lit 0, zPgs_within, zOgs_within, zMgs_within)]) (iv := zVgs_bestBit4) (po := [zOgs_bestBit4]) (pr := zPgs_bestBit4) (mods := zMgs_bestBit4) (D7 := zDgs_bestBit4) (D0 := zEgs_bestBit4) (Dm := zFgs_bestBit4) (f0 := 16) pCgs_bestBit4 qCgs_bestBit4 iCgs_bestBit4 pPgs_bestBit4 (fun xs η _ y η' => pQgs_bestBit4 xs η y η') zX_low pr_mtR rfl (List.forall_mem_cons.mpr ⟨zgs_within, fun _ h => nomatch h⟩) (by decide +kernel) (by decide +kernel) (by decide +kernel)
    (by
      intro xs η hr hl hp hpp
      match xs, hl, hp, hpp with
      | [x1], _, hp, hpp =>
        refine List.forall_mem_cons.mpr ⟨?_, List.forall_mem_cons.mpr ⟨?_, List.forall_mem_cons.mpr ⟨?_, fun _ h => nomatch h⟩⟩⟩
        · refine zden_L (n := 2) (ρ := [x1, 0]) rfl ?_
          show ((gC2 wl_gs [(nat_lit 0, zPgs_within, zOgs_within, zMgs_within)] pCgs_bestBit4 qCgs_bestBit4) 0).1 [x1, 1, 12] η
          
          exact trivial
        · refine zden_L (n := 2) (ρ := [x1, 0]) rfl ?_
          exact zgs_bestBit4_o0 (ro := ro) x1 η hp hpp
        · refine zden_L (n := 2) (ρ := [x1, 0]) rfl ?_
          exact zgs_bestBit4_o1 (ro := ro) x1 η hp hpp
      )
    (fun _ _ _ _ _ _ _ h => nomatch h)
    (List.forall_mem_cons.mpr ⟨⟨zDgs_bestBit4_0, zEgs_bestBit4_0, zFgs_bestBit4_0, 16, by decide +kernel, (by
      intro xs η0 hlx hp hpp ys η hr hl hI hig
      match ys, hl, hI, hig with
      | [x1, x2, x3, x4], _, hI, hig =>
        refine ⟨?_, ?_⟩
        · refine List.forall_mem_cons.mpr ⟨?_, List.forall_mem_cons.mpr ⟨?_, fun _ h => nomatch h⟩⟩
          · refine zden_L (n := 5) (ρ := [x4, x3, x2, x1, 0]) rfl ?_
            exact zgs_bestBit4_o2 (ro := ro) xs η0 hp hpp x1 x2 x3 x4 η hI hig
          · refine zden_L (n := 5) (ρ := [x4, x3, x2, x1, 0]) rfl ?_
            exact zgs_bestBit4_o3 (ro := ro) xs η0 hp hpp x1 x2 x3 x4 η hI hig
        · exact fun _ h => nomatch h
      )⟩, (List.forall_mem_cons.mpr ⟨⟨zDgs_bestBit4_1, zEgs_bestBit4_1, zFgs_bestBit4_1, 21, by decide +kernel, (by
      intro xs η0 hlx hp hpp ys η hr hl hI hig
      match ys, hl, hI, hig with
      | [x1, x2, x3, x4, x5, x6], _, hI, hig =>
        refine ⟨?_, ?_⟩
        · refine List.forall_mem_cons.mpr ⟨?_, List.forall_mem_cons.mpr ⟨?_, List.forall_mem_cons.mpr ⟨?_, List.forall_mem_cons.mpr ⟨?_, fun _ h => nomatch h⟩⟩⟩⟩
          · refine zden_L (n := 7) (ρ := [x6, x5, x4, x3, x2, x1, 0]) rfl ?_
            exact zgs_bestBit4_o4 (ro := ro) xs η0 hp hpp x1 x2 x3 x4 x5 x6 η hI hig
          · refine zden_L (n := 7) (ρ := [x6, x5, x4, x3, x2, x1, 0]) rfl ?_
            exact zgs_bestBit4_o5 (ro := ro) xs η0 hp hpp x1 x2 x3 x4 x5 x6 η hI hig
          · refine zden_L (n := 7) (ρ := [x6, x5, x4, x3, x2, x1, 0]) rfl ?_
            exact zgs_bestBit4_o6 (ro := ro) xs η0 hp hpp x1 x2 x3 x4 x5 x6 η hI hig
          · refine zden_L (n := 7) (ρ := [x6, x5, x4, x3, x2, x1, 0]) rfl ?_
            exact zgs_bestBit4_o7 (ro := ro) xs η0 hp hpp x1 x2 x3 x4 x5 x6 η hI hig
        · exact fun _ h => nomatch h
      )⟩, (fun _ h => nomatch h)⟩)⟩))
def zPgs_bestBit5 : zPq := ([((.ofNat (nat_lit 5)), (.ofNat (nat_lit 5)))], [])
def zOgs_bestBit5 : zPo := (((.negSucc (nat_lit 2147483647)), (.ofNat (nat_lit 2147483647))), [], [])
def zMgs_bestBit5 : List zCe := []
def pPgs_bestBit5 : List Int → zE → Prop := fun _ _ => True
def oQgs_bestBit5 : List Int → zE → Int → zE → Prop := fun _ _ _ _ => True
def fQgs_bestBit5 : List Int → zE → Int → zE → Prop := fun xs η y η' => y = (yv_bb (xs.getD 0 0) η) ∧ η' = η
def pQgs_bestBit5 : List Int → zE → Int → zE → Prop := fun xs η y η' => oQgs_bestBit5 xs η y η' ∧ fQgs_bestBit5 xs η y η'
def pCgs_bestBit5 : Nat → List Int → zE → Prop := fun c => match c with
  | 0 => pPgs_within
  | _ => fun _ _ => True
def qCgs_bestBit5 : Nat → List Int → zE → Int → zE → Prop := fun c => match c with
  | 0 => pQgs_within
  | _ => fun _ _ _ _ => True
def iCgs_bestBit5 : List Int → zE → Nat → List Int → zE → Prop := fun xs η0 c => match c with
  | 0 => fun ys η => (True) ∧ (yv_bI η0 (xs.getD 0 0) (ys.getD 0 0) (ys.getD 1 0) (ys.getD 2 0) (ys.getD 3 0) η)
  | 1 => fun ys η => (True) ∧ (yv_bJ η0 (xs.getD 0 0) (ys.getD 0 0) (ys.getD 1 0) (ys.getD 2 0) (ys.getD 3 0) (ys.getD 4 0) (ys.getD 5 0) η)
  | _ => fun _ _ => True
def zVgs_bestBit5 : List zIv := [(nat_lit 0, ([((.ofNat (nat_lit 5)), (.ofNat (nat_lit 5))), ((.negSucc (nat_lit 2147483647)), (.ofNat (nat_lit 2147483647))), ((.negSucc (nat_lit 2147483647)), (.ofNat (nat_lit 2147483647))), ((.ofNat (nat_lit 0)), (.ofNat (nat_lit 8)))], []), ((.ofNat (nat_lit 2000)), [((.negSucc (nat_lit 99)), nat_lit 0, nat_lit 3, nat_lit 0)])), (nat_lit 1, ([((.ofNat (nat_lit 5)), (.ofNat (nat_lit 5))), ((.negSucc (nat_lit 2147483647)), (.ofNat (nat_lit 2147483647))), ((.negSucc (nat_lit 2147483647)), (.ofNat (nat_lit 2147483647))), ((.ofNat (nat_lit 0)), (.ofNat (nat_lit 7))), ((.negSucc (nat_lit 2147483647)), (.ofNat (nat_lit 2147483647))), ((.ofNat (nat_lit 0)), (.ofNat (nat_lit 12)))], []), ((.ofNat (nat_lit 1950)), [((.negSucc (nat_lit 99)), nat_lit 0, nat_lit 3, nat_lit 0), ((.negSucc (nat_lit 0)), nat_lit 0, nat_lit 5, nat_lit 0)]))]
def zUgs_bestBit5 : List zCu := [(nat_lit 20, nat_lit 0, [(nat_lit 0, (.inr (.inr (.inl (nat_lit 0))))), (nat_lit 1, (.inl (nat_lit 1, (.ofNat (nat_lit 0))))), (nat_lit 2, (.inl (nat_lit 2, (.ofNat (nat_lit 0))))), (nat_lit 3, (.inl (nat_lit 3, (.ofNat (nat_lit 0))))), (nat_lit 4, (.inl (nat_lit 4, (.ofNat (nat_lit 0)))))], []), (nat_lit 41, nat_lit 1, [(nat_lit 0, (.inr (.inr (.inl (nat_lit 0))))), (nat_lit 1, (.inl (nat_lit 1, (.ofNat (nat_lit 0))))), (nat_lit 2, (.inl (nat_lit 2, (.ofNat (nat_lit 0))))), (nat_lit 3, (.inl (nat_lit 3, (.ofNat (nat_lit 0))))), (nat_lit 4, (.inl (nat_lit 4, (.ofNat (nat_lit 0))))), (nat_lit 5, (.inl (nat_lit 5, (.ofNat (nat_lit 0))))), (nat_lit 6, (.inl (nat_lit 6, (.ofNat (nat_lit 0)))))], [])]
def zDgs_bestBit5 : List (List zK) := []
def zEgs_bestBit5 : List (List zK) := [[(nat_lit 13, nat_lit 0, [(nat_lit 1, (.ofNat (nat_lit 0))), (nat_lit 0, (.ofNat (nat_lit 1))), (nat_lit 0, (.ofNat (nat_lit 12)))])],
  [(nat_lit 12, nat_lit 0, [(nat_lit 1, (.ofNat (nat_lit 0))), (nat_lit 0, (.negSucc (nat_lit 1))), (nat_lit 0, (.ofNat (nat_lit 0))), (nat_lit 0, (.ofNat (nat_lit 0)))]), (nat_lit 6, nat_lit 1, [(nat_lit 2, (.ofNat (nat_lit 0))), (nat_lit 0, (.ofNat (nat_lit 0)))]), (nat_lit 8, nat_lit 0, [(nat_lit 1, (.ofNat (nat_lit 0))), (nat_lit 0, (.ofNat (nat_lit 1))), (nat_lit 0, (.ofNat (nat_lit 12)))])],
  [(nat_lit 11, nat_lit 0, [(nat_lit 0, (.negSucc (nat_lit 0)))]), (nat_lit 6, nat_lit 0, [(nat_lit 2, (.ofNat (nat_lit 0))), (nat_lit 0, (.ofNat (nat_lit 0)))]), (nat_lit 8, nat_lit 0, [(nat_lit 1, (.ofNat (nat_lit 0))), (nat_lit 0, (.ofNat (nat_lit 1))), (nat_lit 0, (.ofNat (nat_lit 12)))])]]
def zFgs_bestBit5 : List (List zK) := []
def zDgs_bestBit5_0 : List (List zK) := []
def zEgs_bestBit5_0 : List (List zK) := [[(nat_lit 11, nat_lit 0, [(nat_lit 2, (.ofNat (nat_lit 0)))]), (nat_lit 6, nat_lit 4, [(nat_lit 5, (.ofNat (nat_lit 0))), (nat_lit 6, (.ofNat (nat_lit 0)))]), (nat_lit 4, nat_lit 0, [(nat_lit 2, (.ofNat (nat_lit 0))), (nat_lit 0, (.ofNat (nat_lit 1)))]), (nat_lit 0, nat_lit 1, [(nat_lit 4, (.ofNat (nat_lit 0))), (nat_lit 1, (.ofNat (nat_lit 0)))])],
  [(nat_lit 10, nat_lit 1, [(nat_lit 1, (.ofNat (nat_lit 0))), (nat_lit 2, (.ofNat (nat_lit 0))), (nat_lit 3, (.ofNat (nat_lit 0))), (nat_lit 4, (.ofNat (nat_lit 0))), (nat_lit 0, (.ofNat (nat_lit 0))), (nat_lit 4, (.ofNat (nat_lit 0)))]), (nat_lit 6, nat_lit 5, [(nat_lit 5, (.ofNat (nat_lit 0))), (nat_lit 6, (.ofNat (nat_lit 0)))]), (nat_lit 4, nat_lit 0, [(nat_lit 2, (.ofNat (nat_lit 0))), (nat_lit 0, (.ofNat (nat_lit 1)))]), (nat_lit 0, nat_lit 1, [(nat_lit 4, (.ofNat (nat_lit 0))), (nat_lit 1, (.ofNat (nat_lit 0)))])]]
def zFgs_bestBit5_0 : List (List zK) := []
def zDgs_bestBit5_1 : List (List zK) := [[(nat_lit 7, nat_lit 0, [(nat_lit 6, (.ofNat (nat_lit 0))), (nat_lit 0, (.ofNat (nat_lit 12)))]), (nat_lit 6, nat_lit 2, [(nat_lit 6, (.ofNat (nat_lit 0))), (nat_lit 7, (.ofNat (nat_lit 0)))]), (nat_lit 0, nat_lit 1, [(nat_lit 4, (.ofNat (nat_lit 0))), (nat_lit 1, (.ofNat (nat_lit 0)))])]]
def zEgs_bestBit5_1 : List (List zK) := [[(nat_lit 10, nat_lit 0, [(nat_lit 1, (.ofNat (nat_lit 0))), (nat_lit 4, (.ofNat (nat_lit 0))), (nat_lit 5, (.ofNat (nat_lit 0))), (nat_lit 8, (.ofNat (nat_lit 0)))]), (nat_lit 0, nat_lit 1, [(nat_lit 4, (.ofNat (nat_lit 0))), (nat_lit 0, (.ofNat (nat_lit 1)))]), (nat_lit 6, nat_lit 2, [(nat_lit 2, (.ofNat (nat_lit 0))), (nat_lit 0, (.ofNat (nat_lit 0)))]), (nat_lit 6, nat_lit 3, [(nat_lit 6, (.ofNat (nat_lit 0))), (nat_lit 7, (.ofNat (nat_lit 0)))]), (nat_lit 0, nat_lit 1, [(nat_lit 4, (.ofNat (nat_lit 0))), (nat_lit 1, (.ofNat (nat_lit 0)))])],
  [(nat_lit 10, nat_lit 0, [(nat_lit 1, (.ofNat (nat_lit 0))), (nat_lit 2, (.ofNat (nat_lit 0))), (nat_lit 3, (.ofNat (nat_lit 0))), (nat_lit 8, (.ofNat (nat_lit 0)))]), (nat_lit 0, nat_lit 1, [(nat_lit 4, (.ofNat (nat_lit 0))), (nat_lit 0, (.ofNat (nat_lit 1)))]), (nat_lit 6, nat_lit 5, [(nat_lit 5, (.ofNat (nat_lit 0))), (nat_lit 3, (.ofNat (nat_lit 0)))]), (nat_lit 6, nat_lit 3, [(nat_lit 2, (.ofNat (nat_lit 0))), (nat_lit 0, (.ofNat (nat_lit 0)))]), (nat_lit 6, nat_lit 3, [(nat_lit 6, (.ofNat (nat_lit 0))), (nat_lit 7, (.ofNat (nat_lit 0)))]), (nat_lit 0, nat_lit 1, [(nat_lit 4, (.ofNat (nat_lit 0))), (nat_lit 1, (.ofNat (nat_lit 0)))])],
  [(nat_lit 10, nat_lit 0, [(nat_lit 1, (.ofNat (nat_lit 0))), (nat_lit 4, (.ofNat (nat_lit 0))), (nat_lit 5, (.ofNat (nat_lit 0))), (nat_lit 8, (.ofNat (nat_lit 0)))]), (nat_lit 0, nat_lit 1, [(nat_lit 4, (.ofNat (nat_lit 0))), (nat_lit 0, (.ofNat (nat_lit 1)))]), (nat_lit 6, nat_lit 4, [(nat_lit 5, (.ofNat (nat_lit 0))), (nat_lit 3, (.ofNat (nat_lit 0)))]), (nat_lit 6, nat_lit 3, [(nat_lit 2, (.ofNat (nat_lit 0))), (nat_lit 0, (.ofNat (nat_lit 0)))]), (nat_lit 6, nat_lit 3, [(nat_lit 6, (.ofNat (nat_lit 0))), (nat_lit 7, (.ofNat (nat_lit 0)))]), (nat_lit 0, nat_lit 1, [(nat_lit 4, (.ofNat (nat_lit 0))), (nat_lit 1, (.ofNat (nat_lit 0)))])],
  [(nat_lit 10, nat_lit 1, [(nat_lit 1, (.ofNat (nat_lit 0))), (nat_lit 2, (.ofNat (nat_lit 0))), (nat_lit 3, (.ofNat (nat_lit 0))), (nat_lit 4, (.ofNat (nat_lit 0))), (nat_lit 9, (.ofNat (nat_lit 0))), (nat_lit 10, (.ofNat (nat_lit 0)))]), (nat_lit 0, nat_lit 1, [(nat_lit 6, (.ofNat (nat_lit 0))), (nat_lit 0, (.ofNat (nat_lit 1)))]), (nat_lit 0, nat_lit 1, [(nat_lit 5, (.ofNat (nat_lit 0))), (nat_lit 8, (.ofNat (nat_lit 0)))]), (nat_lit 4, nat_lit 0, [(nat_lit 4, (.ofNat (nat_lit 0))), (nat_lit 6, (.ofNat (nat_lit 0)))]), (nat_lit 6, nat_lit 2, [(nat_lit 6, (.ofNat (nat_lit 0))), (nat_lit 7, (.ofNat (nat_lit 0)))]), (nat_lit 0, nat_lit 1, [(nat_lit 4, (.ofNat (nat_lit 0))), (nat_lit 1, (.ofNat (nat_lit 0)))])]]
def zFgs_bestBit5_1 : List (List zK) := []
set_option maxHeartbeats 8000000 in
theorem zgs_bestBit5_o0 {ro : Nat → List Int32} (x1 : Int) (η : zE) (hp : sP wl_gs zTr zPgs_bestBit5 [x1] η) (hpp : pPgs_bestBit5 [x1] η) : ∀ (x2 : Int) (η1 : zE), ((gC2 wl_gs [(nat_lit 0, zPgs_within, zOgs_within, zMgs_within)] pCgs_bestBit5 qCgs_bestBit5) 0).2 [x1, 1, 12] η x2 η1 → (¬ x2 = 0) → (iCgs_bestBit5 [x1] η) 0 [x1, (-2), 0, 0] η1 := by
  intro x2 η1 h2 c1
  have y2 : fQgs_within [x1, 1, 12] η x2 η1 := h2.2.2
  have k2 : sQ wl_gs zTr zOgs_within zMgs_within [x1, 1, 12] η x2 η1 ∧ oQgs_within [x1, 1, 12] η x2 η1 := ⟨h2.1, h2.2.1⟩
  refine yj_a ?_ ?_
  · have y2 : fQgs_within [x1, 1, 12] η x2 η1 := h2.2.2
    have k2 : sQ wl_gs zTr zOgs_within zMgs_within [x1, 1, 12] η x2 η1 ∧ oQgs_within [x1, 1, 12] η x2 η1 := ⟨h2.1, h2.2.1⟩
    exact trivial
  · obtain ⟨a2, b2⟩ : x2 = yq_in x1 1 12 ∧ η1 = η := y2
    show yv_bI η x1 x1 (-2) 0 0 η1
    exact vbI_0 b2 (by omega)
set_option maxHeartbeats 8000000 in
theorem zgs_bestBit5_o1 {ro : Nat → List Int32} (x1 : Int) (η : zE) (hp : sP wl_gs zTr zPgs_bestBit5 [x1] η) (hpp : pPgs_bestBit5 [x1] η) : ∀ (x2 : Int) (η1 : zE), ((gC2 wl_gs [(nat_lit 0, zPgs_within, zOgs_within, zMgs_within)] pCgs_bestBit5 qCgs_bestBit5) 0).2 [x1, 1, 12] η x2 η1 → (x2 = 0) → (fun (_ : Nat) (y : Int) (η' : zE) => pQgs_bestBit5 [x1] η y η') 0 (-1) η1 := by
  intro x2 η1 h2 c1
  have y2 : fQgs_within [x1, 1, 12] η x2 η1 := h2.2.2
  have k2 : sQ wl_gs zTr zOgs_within zMgs_within [x1, 1, 12] η x2 η1 ∧ oQgs_within [x1, 1, 12] η x2 η1 := ⟨h2.1, h2.2.1⟩
  refine yj_a ?_ ?_
  · have y2 : fQgs_within [x1, 1, 12] η x2 η1 := h2.2.2
    have k2 : sQ wl_gs zTr zOgs_within zMgs_within [x1, 1, 12] η x2 η1 ∧ oQgs_within [x1, 1, 12] η x2 η1 := ⟨h2.1, h2.2.1⟩
    exact trivial
  · obtain ⟨a2, b2⟩ : x2 = yq_in x1 1 12 ∧ η1 = η := y2
    show -1 = yv_bb x1 η ∧ η1 = η
    exact ⟨by unfold yv_bb; rw [if_pos (by omega)], b2⟩
set_option maxHeartbeats 8000000 in
theorem zgs_bestBit5_o2 {ro : Nat → List Int32} (xs : List Int) (η0 : zE) (hp : sP wl_gs zTr zPgs_bestBit5 xs η0) (hpp : pPgs_bestBit5 xs η0) (x1 x2 x3 x4 : Int) (η : zE) (hI : zsI wl_gs zTr zVgs_bestBit5 zMgs_bestBit5 η0 0 [x1, x2, x3, x4] η) (hig : iCgs_bestBit5 xs η0 0 [x1, x2, x3, x4] η) : ∀ x5 : Int, x5 = zd 0 1 x4 x1 → ∀ x6 : Int, x6 = η 2 (Int.toNat 1) → zok 0 x6 → (x6 < x5) → (fun (_ : Nat) (y : Int) (η' : zE) => pQgs_bestBit5 xs η0 y η') 0 x2 η := by
  have fig := hig.2
  have hig := hig.1
  intro x5 e5 x6 e6 r6 c1
  refine yj_a ?_ ?_
  · exact trivial
  · have e5 : x5 = zd 0 1 x4 x1 := e5
    have e6 : x6 = η 2 1 := e6
    have b4 : (0 : Int) ≤ x4 ∧ x4 ≤ 8 := hI.1.2.1.2.2.2.1
    exact vbI_e (k := x1) (m := x3) (f := x4) fig (by omega) e5 (by rw [← e6]; omega)
set_option maxHeartbeats 8000000 in
theorem zgs_bestBit5_o3 {ro : Nat → List Int32} (xs : List Int) (η0 : zE) (hp : sP wl_gs zTr zPgs_bestBit5 xs η0) (hpp : pPgs_bestBit5 xs η0) (x1 x2 x3 x4 : Int) (η : zE) (hI : zsI wl_gs zTr zVgs_bestBit5 zMgs_bestBit5 η0 0 [x1, x2, x3, x4] η) (hig : iCgs_bestBit5 xs η0 0 [x1, x2, x3, x4] η) : ∀ x5 : Int, x5 = zd 0 1 x4 x1 → ∀ x6 : Int, x6 = η 2 (Int.toNat 1) → zok 0 x6 → (x5 ≤ x6) → (iCgs_bestBit5 xs η0) 1 [x1, x2, x3, x4, 0, x4] η ∧ (fun (_ : Nat) (_ : List Int) (_ : zE) => (0 : Nat)) 1 [x1, x2, x3, x4, 0, x4] η < 1 := by
  have fig := hig.2
  have hig := hig.1
  intro x5 e5 x6 e6 r6 c1
  refine yj_c ?_ ?_
  · exact ⟨trivial, Nat.zero_lt_one⟩
  · have e5 : x5 = zd 0 1 x4 x1 := e5
    have e6 : x6 = η 2 1 := e6
    have b4 : (0 : Int) ≤ x4 ∧ x4 ≤ 8 := hI.1.2.1.2.2.2.1
    show yv_bJ η0 (xs.getD 0 0) x1 x2 x3 x4 0 x4 η
    exact vbJ_0 fig (by omega) e5 (by rw [← e6]; omega)
set_option maxHeartbeats 8000000 in
theorem zgs_bestBit5_o4 {ro : Nat → List Int32} (xs : List Int) (η0 : zE) (hp : sP wl_gs zTr zPgs_bestBit5 xs η0) (hpp : pPgs_bestBit5 xs η0) (x1 x2 x3 x4 x5 x6 : Int) (η : zE) (hI : zsI wl_gs zTr zVgs_bestBit5 zMgs_bestBit5 η0 1 [x1, x2, x3, x4, x5, x6] η) (hig : iCgs_bestBit5 xs η0 1 [x1, x2, x3, x4, x5, x6] η) : ∀ x7 : Int, x7 = zd 0 1 x4 x1 → (x7 ≤ x6) → (x2 < 0) → ∀ x8 : Int, x8 = zd 0 1 x4 1 → (iCgs_bestBit5 xs η0) 0 [x1, x4, x5, x8] η ∧ (fun (_ : Nat) (_ : List Int) (_ : zE) => (0 : Nat)) 0 [x1, x4, x5, x8] η < 1 := by
  have fig := hig.2
  have hig := hig.1
  intro x7 e7 c1 c2 x8 e8
  refine yj_c ?_ ?_
  · exact ⟨trivial, Nat.zero_lt_one⟩
  · have e7 : x7 = zd 0 1 x4 x1 := e7
    have e8 : x8 = zd 0 1 x4 1 := e8
    have b4 : (0 : Int) ≤ x4 ∧ x4 ≤ 7 := hI.1.2.1.2.2.2.1
    show yv_bI η0 (xs.getD 0 0) x1 x4 x5 x8 η
    refine vbJ_e (b := x2) (m := x3) (k := x1) (f := x4) (g := x6) (s := x5) fig (by omega) e7 (by omega) e8 ?_
    rw [if_pos (by omega)]
set_option maxHeartbeats 8000000 in
theorem zgs_bestBit5_o5 {ro : Nat → List Int32} (xs : List Int) (η0 : zE) (hp : sP wl_gs zTr zPgs_bestBit5 xs η0) (hpp : pPgs_bestBit5 xs η0) (x1 x2 x3 x4 x5 x6 : Int) (η : zE) (hI : zsI wl_gs zTr zVgs_bestBit5 zMgs_bestBit5 η0 1 [x1, x2, x3, x4, x5, x6] η) (hig : iCgs_bestBit5 xs η0 1 [x1, x2, x3, x4, x5, x6] η) : ∀ x7 : Int, x7 = zd 0 1 x4 x1 → (x7 ≤ x6) → (0 ≤ x2) → (x5 ≤ x3) → ∀ x8 : Int, x8 = zd 0 1 x4 1 → (iCgs_bestBit5 xs η0) 0 [x1, x2, x3, x8] η ∧ (fun (_ : Nat) (_ : List Int) (_ : zE) => (0 : Nat)) 0 [x1, x2, x3, x8] η < 1 := by
  have fig := hig.2
  have hig := hig.1
  intro x7 e7 c1 c2 c3 x8 e8
  refine yj_c ?_ ?_
  · exact ⟨trivial, Nat.zero_lt_one⟩
  · have e7 : x7 = zd 0 1 x4 x1 := e7
    have e8 : x8 = zd 0 1 x4 1 := e8
    have b4 : (0 : Int) ≤ x4 ∧ x4 ≤ 7 := hI.1.2.1.2.2.2.1
    show yv_bI η0 (xs.getD 0 0) x1 x2 x3 x8 η
    refine vbJ_e (b := x2) (m := x3) (k := x1) (f := x4) (g := x6) (s := x5) fig (by omega) e7 (by omega) e8 ?_
    rw [if_neg (by omega)]
set_option maxHeartbeats 8000000 in
theorem zgs_bestBit5_o6 {ro : Nat → List Int32} (xs : List Int) (η0 : zE) (hp : sP wl_gs zTr zPgs_bestBit5 xs η0) (hpp : pPgs_bestBit5 xs η0) (x1 x2 x3 x4 x5 x6 : Int) (η : zE) (hI : zsI wl_gs zTr zVgs_bestBit5 zMgs_bestBit5 η0 1 [x1, x2, x3, x4, x5, x6] η) (hig : iCgs_bestBit5 xs η0 1 [x1, x2, x3, x4, x5, x6] η) : ∀ x7 : Int, x7 = zd 0 1 x4 x1 → (x7 ≤ x6) → (0 ≤ x2) → (x3 < x5) → ∀ x8 : Int, x8 = zd 0 1 x4 1 → (iCgs_bestBit5 xs η0) 0 [x1, x4, x5, x8] η ∧ (fun (_ : Nat) (_ : List Int) (_ : zE) => (0 : Nat)) 0 [x1, x4, x5, x8] η < 1 := by
  have fig := hig.2
  have hig := hig.1
  intro x7 e7 c1 c2 c3 x8 e8
  refine yj_c ?_ ?_
  · exact ⟨trivial, Nat.zero_lt_one⟩
  · have e7 : x7 = zd 0 1 x4 x1 := e7
    have e8 : x8 = zd 0 1 x4 1 := e8
    have b4 : (0 : Int) ≤ x4 ∧ x4 ≤ 7 := hI.1.2.1.2.2.2.1
    show yv_bI η0 (xs.getD 0 0) x1 x4 x5 x8 η
    refine vbJ_e (b := x2) (m := x3) (k := x1) (f := x4) (g := x6) (s := x5) fig (by omega) e7 (by omega) e8 ?_
    rw [if_pos (by omega)]
set_option maxHeartbeats 8000000 in
theorem zgs_bestBit5_o7 {ro : Nat → List Int32} (xs : List Int) (η0 : zE) (hp : sP wl_gs zTr zPgs_bestBit5 xs η0) (hpp : pPgs_bestBit5 xs η0) (x1 x2 x3 x4 x5 x6 : Int) (η : zE) (hI : zsI wl_gs zTr zVgs_bestBit5 zMgs_bestBit5 η0 1 [x1, x2, x3, x4, x5, x6] η) (hig : iCgs_bestBit5 xs η0 1 [x1, x2, x3, x4, x5, x6] η) : ∀ x7 : Int, x7 = zd 0 1 x4 x1 → (x6 < x7) → ∀ x8 : Int, x8 = η 4 (Int.toNat x6) → zok 0 x8 → ∀ x9 : Int, x9 = zd 0 1 x5 x8 → ∀ x10 : Int, x10 = zd 0 1 x6 1 → (iCgs_bestBit5 xs η0) 1 [x1, x2, x3, x4, x9, x10] η ∧ (fun (_ : Nat) (_ : List Int) (_ : zE) => (0 : Nat)) 1 [x1, x2, x3, x4, x9, x10] η < 1 := by
  have fig := hig.2
  have hig := hig.1
  intro x7 e7 c1 x8 e8 r8 x9 e9 x10 e10
  refine yj_c ?_ ?_
  · exact ⟨trivial, Nat.zero_lt_one⟩
  · have e7 : x7 = zd 0 1 x4 x1 := e7
    have e8 : x8 = η 4 (Int.toNat x6) := e8
    have e9 : x9 = zd 0 1 x5 x8 := e9
    have e10 : x10 = zd 0 1 x6 1 := e10
    have b4 : (0 : Int) ≤ x4 ∧ x4 ≤ 7 := hI.1.2.1.2.2.2.1
    show yv_bJ η0 (xs.getD 0 0) x1 x2 x3 x4 x9 x10 η
    exact vbJ_s (k := x1) (f := x4) (g := x6) fig (by omega) e7 (by omega) e8 e9 e10
set_option maxHeartbeats 8000000 in
theorem zgs_bestBit5 {ro : Nat → List Int32} : zMet pr_P pr_K pr_df ro (sm_X0 1 6) 1 98 tm_gs [(.inr (.inr (.inl (nat_lit 0)))), (.inl (nat_lit 1, (.ofNat (nat_lit 0))))] 1 [(nat_lit 0, nat_lit 0, nat_lit 1), (nat_lit 0, nat_lit 4, nat_lit 2), (nat_lit 0, nat_lit 5, nat_lit 32), (nat_lit 0, nat_lit 6, nat_lit 60), (nat_lit 0, nat_lit 7, nat_lit 70), (nat_lit 0, nat_lit 8, nat_lit 74), (nat_lit 0, nat_lit 11, nat_lit 78), (nat_lit 0, nat_lit 12, nat_lit 82), (nat_lit 0, nat_lit 13, nat_lit 90), (nat_lit 0, nat_lit 14, nat_lit 91), (nat_lit 0, nat_lit 15, nat_lit 95), (nat_lit 0, nat_lit 16, nat_lit 101), (nat_lit 2, nat_lit 8, nat_lit 3), (nat_lit 2, nat_lit 9, nat_lit 4), (nat_lit 2, nat_lit 10, nat_lit 5), (nat_lit 2, nat_lit 11, nat_lit 6), (nat_lit 2, nat_lit 12, nat_lit 11), (nat_lit 2, nat_lit 13, nat_lit 16), (nat_lit 2, nat_lit 14, nat_lit 17), (nat_lit 6, nat_lit 0, nat_lit 7), (nat_lit 11, nat_lit 0, nat_lit 12), (nat_lit 6, nat_lit 1, nat_lit 8), (nat_lit 11, nat_lit 1, nat_lit 13), (nat_lit 6, nat_lit 2, nat_lit 9), (nat_lit 11, nat_lit 2, nat_lit 14), (nat_lit 6, nat_lit 3, nat_lit 10), (nat_lit 11, nat_lit 3, nat_lit 15), (nat_lit 17, nat_lit 2, nat_lit 18), (nat_lit 17, nat_lit 3, nat_lit 19), (nat_lit 17, nat_lit 4, nat_lit 20), (nat_lit 17, nat_lit 5, nat_lit 21), (nat_lit 17, nat_lit 6, nat_lit 22), (nat_lit 32, nat_lit 8, nat_lit 33), (nat_lit 32, nat_lit 9, nat_lit 34), (nat_lit 32, nat_lit 10, nat_lit 35), (nat_lit 32, nat_lit 11, nat_lit 36), (nat_lit 32, nat_lit 12, nat_lit 41), (nat_lit 32, nat_lit 13, nat_lit 46), (nat_lit 32, nat_lit 14, nat_lit 47), (nat_lit 36, nat_lit 0, nat_lit 37), (nat_lit 41, nat_lit 0, nat_lit 42), (nat_lit 36, nat_lit 1, nat_lit 38), (nat_lit 41, nat_lit 1, nat_lit 43), (nat_lit 36, nat_lit 2, nat_lit 39), (nat_lit 41, nat_lit 2, nat_lit 44), (nat_lit 36, nat_lit 3, nat_lit 40), (nat_lit 41, nat_lit 3, nat_lit 45), (nat_lit 47, nat_lit 2, nat_lit 48), (nat_lit 47, nat_lit 3, nat_lit 49), (nat_lit 47, nat_lit 4, nat_lit 50), (nat_lit 47, nat_lit 5, nat_lit 51), (nat_lit 47, nat_lit 6, nat_lit 52), (nat_lit 60, nat_lit 3, nat_lit 1), (nat_lit 60, nat_lit 9, nat_lit 61), (nat_lit 60, nat_lit 10, nat_lit 62), (nat_lit 60, nat_lit 11, nat_lit 63), (nat_lit 70, nat_lit 8, nat_lit 71), (nat_lit 70, nat_lit 9, nat_lit 72), (nat_lit 70, nat_lit 10, nat_lit 73), (nat_lit 74, nat_lit 8, nat_lit 75), (nat_lit 74, nat_lit 9, nat_lit 76), (nat_lit 74, nat_lit 10, nat_lit 77), (nat_lit 78, nat_lit 8, nat_lit 79), (nat_lit 78, nat_lit 9, nat_lit 80), (nat_lit 78, nat_lit 10, nat_lit 81), (nat_lit 82, nat_lit 8, nat_lit 83), (nat_lit 82, nat_lit 9, nat_lit 84), (nat_lit 82, nat_lit 10, nat_lit 85), (nat_lit 91, nat_lit 1, nat_lit 92), (nat_lit 91, nat_lit 2, nat_lit 93), (nat_lit 91, nat_lit 3, nat_lit 94), (nat_lit 95, nat_lit 2, nat_lit 96), (nat_lit 95, nat_lit 3, nat_lit 97), (nat_lit 95, nat_lit 4, nat_lit 98), (nat_lit 95, nat_lit 5, nat_lit 99), (nat_lit 95, nat_lit 6, nat_lit 100)] [] (fun xs η => sP wl_gs zTr zPgs_bestBit5 xs η ∧ pPgs_bestBit5 xs η) (fun xs η y η' => sQ wl_gs zTr zOgs_bestBit5 zMgs_bestBit5 xs η y η' ∧ pQgs_bestBit5 xs η y η') :=
  zmet_alt (zmea_gen (mi := (nat_lit 1, nat_lit 1, nat_lit 7, nat_lit 7, nat_lit 1, tX7_bestBit)) (cd := [(nat_lit 75, nat_lit 0, nat_lit 0, [(.inl (nat_lit 1, (.ofNat (nat_lit 0)))), (.inl (nat_lit 2, (.ofNat (nat_lit 0)))), (.inl (nat_lit 3, (.ofNat (nat_lit 0))))], nat_lit 2, [], [])]) (cu := zUgs_bestBit5) (cs := [(nat_lit 0, zPgs_within, zOgs_within, zMgs_within)]) (iv := zVgs_bestBit5) (po := [zOgs_bestBit5]) (pr := zPgs_bestBit5) (mods := zMgs_bestBit5) (D7 := zDgs_bestBit5) (D0 := zEgs_bestBit5) (Dm := zFgs_bestBit5) (f0 := 16) pCgs_bestBit5 qCgs_bestBit5 iCgs_bestBit5 pPgs_bestBit5 (fun xs η _ y η' => pQgs_bestBit5 xs η y η') zX_low pr_mtR rfl (List.forall_mem_cons.mpr ⟨zgs_within, fun _ h => nomatch h⟩) (by decide +kernel) (by decide +kernel) (by decide +kernel)
    (by
      intro xs η hr hl hp hpp
      match xs, hl, hp, hpp with
      | [x1], _, hp, hpp =>
        refine List.forall_mem_cons.mpr ⟨?_, List.forall_mem_cons.mpr ⟨?_, List.forall_mem_cons.mpr ⟨?_, fun _ h => nomatch h⟩⟩⟩
        · refine zden_L (n := 2) (ρ := [x1, 0]) rfl ?_
          show ((gC2 wl_gs [(nat_lit 0, zPgs_within, zOgs_within, zMgs_within)] pCgs_bestBit5 qCgs_bestBit5) 0).1 [x1, 1, 12] η
          
          exact trivial
        · refine zden_L (n := 2) (ρ := [x1, 0]) rfl ?_
          exact zgs_bestBit5_o0 (ro := ro) x1 η hp hpp
        · refine zden_L (n := 2) (ρ := [x1, 0]) rfl ?_
          exact zgs_bestBit5_o1 (ro := ro) x1 η hp hpp
      )
    (fun _ _ _ _ _ _ _ h => nomatch h)
    (List.forall_mem_cons.mpr ⟨⟨zDgs_bestBit5_0, zEgs_bestBit5_0, zFgs_bestBit5_0, 16, by decide +kernel, (by
      intro xs η0 hlx hp hpp ys η hr hl hI hig
      match ys, hl, hI, hig with
      | [x1, x2, x3, x4], _, hI, hig =>
        refine ⟨?_, ?_⟩
        · refine List.forall_mem_cons.mpr ⟨?_, List.forall_mem_cons.mpr ⟨?_, fun _ h => nomatch h⟩⟩
          · refine zden_L (n := 5) (ρ := [x4, x3, x2, x1, 0]) rfl ?_
            exact zgs_bestBit5_o2 (ro := ro) xs η0 hp hpp x1 x2 x3 x4 η hI hig
          · refine zden_L (n := 5) (ρ := [x4, x3, x2, x1, 0]) rfl ?_
            exact zgs_bestBit5_o3 (ro := ro) xs η0 hp hpp x1 x2 x3 x4 η hI hig
        · exact fun _ h => nomatch h
      )⟩, (List.forall_mem_cons.mpr ⟨⟨zDgs_bestBit5_1, zEgs_bestBit5_1, zFgs_bestBit5_1, 21, by decide +kernel, (by
      intro xs η0 hlx hp hpp ys η hr hl hI hig
      match ys, hl, hI, hig with
      | [x1, x2, x3, x4, x5, x6], _, hI, hig =>
        refine ⟨?_, ?_⟩
        · refine List.forall_mem_cons.mpr ⟨?_, List.forall_mem_cons.mpr ⟨?_, List.forall_mem_cons.mpr ⟨?_, List.forall_mem_cons.mpr ⟨?_, fun _ h => nomatch h⟩⟩⟩⟩
          · refine zden_L (n := 7) (ρ := [x6, x5, x4, x3, x2, x1, 0]) rfl ?_
            exact zgs_bestBit5_o4 (ro := ro) xs η0 hp hpp x1 x2 x3 x4 x5 x6 η hI hig
          · refine zden_L (n := 7) (ρ := [x6, x5, x4, x3, x2, x1, 0]) rfl ?_
            exact zgs_bestBit5_o5 (ro := ro) xs η0 hp hpp x1 x2 x3 x4 x5 x6 η hI hig
          · refine zden_L (n := 7) (ρ := [x6, x5, x4, x3, x2, x1, 0]) rfl ?_
            exact zgs_bestBit5_o6 (ro := ro) xs η0 hp hpp x1 x2 x3 x4 x5 x6 η hI hig
          · refine zden_L (n := 7) (ρ := [x6, x5, x4, x3, x2, x1, 0]) rfl ?_
            exact zgs_bestBit5_o7 (ro := ro) xs η0 hp hpp x1 x2 x3 x4 x5 x6 η hI hig
        · exact fun _ h => nomatch h
      )⟩, (fun _ h => nomatch h)⟩)⟩))
def zPgs_bestBit6 : zPq := ([((.ofNat (nat_lit 6)), (.ofNat (nat_lit 6)))], [])
def zOgs_bestBit6 : zPo := (((.negSucc (nat_lit 2147483647)), (.ofNat (nat_lit 2147483647))), [], [])
def zMgs_bestBit6 : List zCe := []
def pPgs_bestBit6 : List Int → zE → Prop := fun _ _ => True
def oQgs_bestBit6 : List Int → zE → Int → zE → Prop := fun _ _ _ _ => True
def fQgs_bestBit6 : List Int → zE → Int → zE → Prop := fun xs η y η' => y = (yv_bb (xs.getD 0 0) η) ∧ η' = η
def pQgs_bestBit6 : List Int → zE → Int → zE → Prop := fun xs η y η' => oQgs_bestBit6 xs η y η' ∧ fQgs_bestBit6 xs η y η'
def pCgs_bestBit6 : Nat → List Int → zE → Prop := fun c => match c with
  | 0 => pPgs_within
  | _ => fun _ _ => True
def qCgs_bestBit6 : Nat → List Int → zE → Int → zE → Prop := fun c => match c with
  | 0 => pQgs_within
  | _ => fun _ _ _ _ => True
def iCgs_bestBit6 : List Int → zE → Nat → List Int → zE → Prop := fun xs η0 c => match c with
  | 0 => fun ys η => (True) ∧ (yv_bI η0 (xs.getD 0 0) (ys.getD 0 0) (ys.getD 1 0) (ys.getD 2 0) (ys.getD 3 0) η)
  | 1 => fun ys η => (True) ∧ (yv_bJ η0 (xs.getD 0 0) (ys.getD 0 0) (ys.getD 1 0) (ys.getD 2 0) (ys.getD 3 0) (ys.getD 4 0) (ys.getD 5 0) η)
  | _ => fun _ _ => True
def zVgs_bestBit6 : List zIv := [(nat_lit 0, ([((.ofNat (nat_lit 6)), (.ofNat (nat_lit 6))), ((.negSucc (nat_lit 2147483647)), (.ofNat (nat_lit 2147483647))), ((.negSucc (nat_lit 2147483647)), (.ofNat (nat_lit 2147483647))), ((.ofNat (nat_lit 0)), (.ofNat (nat_lit 7)))], []), ((.ofNat (nat_lit 2000)), [((.negSucc (nat_lit 99)), nat_lit 0, nat_lit 3, nat_lit 0)])), (nat_lit 1, ([((.ofNat (nat_lit 6)), (.ofNat (nat_lit 6))), ((.negSucc (nat_lit 2147483647)), (.ofNat (nat_lit 2147483647))), ((.negSucc (nat_lit 2147483647)), (.ofNat (nat_lit 2147483647))), ((.ofNat (nat_lit 0)), (.ofNat (nat_lit 6))), ((.negSucc (nat_lit 2147483647)), (.ofNat (nat_lit 2147483647))), ((.ofNat (nat_lit 0)), (.ofNat (nat_lit 12)))], []), ((.ofNat (nat_lit 1950)), [((.negSucc (nat_lit 99)), nat_lit 0, nat_lit 3, nat_lit 0), ((.negSucc (nat_lit 0)), nat_lit 0, nat_lit 5, nat_lit 0)]))]
def zUgs_bestBit6 : List zCu := [(nat_lit 20, nat_lit 0, [(nat_lit 0, (.inr (.inr (.inl (nat_lit 0))))), (nat_lit 1, (.inl (nat_lit 1, (.ofNat (nat_lit 0))))), (nat_lit 2, (.inl (nat_lit 2, (.ofNat (nat_lit 0))))), (nat_lit 3, (.inl (nat_lit 3, (.ofNat (nat_lit 0))))), (nat_lit 4, (.inl (nat_lit 4, (.ofNat (nat_lit 0)))))], []), (nat_lit 41, nat_lit 1, [(nat_lit 0, (.inr (.inr (.inl (nat_lit 0))))), (nat_lit 1, (.inl (nat_lit 1, (.ofNat (nat_lit 0))))), (nat_lit 2, (.inl (nat_lit 2, (.ofNat (nat_lit 0))))), (nat_lit 3, (.inl (nat_lit 3, (.ofNat (nat_lit 0))))), (nat_lit 4, (.inl (nat_lit 4, (.ofNat (nat_lit 0))))), (nat_lit 5, (.inl (nat_lit 5, (.ofNat (nat_lit 0))))), (nat_lit 6, (.inl (nat_lit 6, (.ofNat (nat_lit 0)))))], [])]
def zDgs_bestBit6 : List (List zK) := []
def zEgs_bestBit6 : List (List zK) := [[(nat_lit 13, nat_lit 0, [(nat_lit 1, (.ofNat (nat_lit 0))), (nat_lit 0, (.ofNat (nat_lit 1))), (nat_lit 0, (.ofNat (nat_lit 12)))])],
  [(nat_lit 12, nat_lit 0, [(nat_lit 1, (.ofNat (nat_lit 0))), (nat_lit 0, (.negSucc (nat_lit 1))), (nat_lit 0, (.ofNat (nat_lit 0))), (nat_lit 0, (.ofNat (nat_lit 0)))]), (nat_lit 6, nat_lit 1, [(nat_lit 2, (.ofNat (nat_lit 0))), (nat_lit 0, (.ofNat (nat_lit 0)))]), (nat_lit 8, nat_lit 0, [(nat_lit 1, (.ofNat (nat_lit 0))), (nat_lit 0, (.ofNat (nat_lit 1))), (nat_lit 0, (.ofNat (nat_lit 12)))])],
  [(nat_lit 11, nat_lit 0, [(nat_lit 0, (.negSucc (nat_lit 0)))]), (nat_lit 6, nat_lit 0, [(nat_lit 2, (.ofNat (nat_lit 0))), (nat_lit 0, (.ofNat (nat_lit 0)))]), (nat_lit 8, nat_lit 0, [(nat_lit 1, (.ofNat (nat_lit 0))), (nat_lit 0, (.ofNat (nat_lit 1))), (nat_lit 0, (.ofNat (nat_lit 12)))])]]
def zFgs_bestBit6 : List (List zK) := []
def zDgs_bestBit6_0 : List (List zK) := []
def zEgs_bestBit6_0 : List (List zK) := [[(nat_lit 11, nat_lit 0, [(nat_lit 2, (.ofNat (nat_lit 0)))]), (nat_lit 6, nat_lit 4, [(nat_lit 5, (.ofNat (nat_lit 0))), (nat_lit 6, (.ofNat (nat_lit 0)))]), (nat_lit 4, nat_lit 0, [(nat_lit 2, (.ofNat (nat_lit 0))), (nat_lit 0, (.ofNat (nat_lit 1)))]), (nat_lit 0, nat_lit 1, [(nat_lit 4, (.ofNat (nat_lit 0))), (nat_lit 1, (.ofNat (nat_lit 0)))])],
  [(nat_lit 10, nat_lit 1, [(nat_lit 1, (.ofNat (nat_lit 0))), (nat_lit 2, (.ofNat (nat_lit 0))), (nat_lit 3, (.ofNat (nat_lit 0))), (nat_lit 4, (.ofNat (nat_lit 0))), (nat_lit 0, (.ofNat (nat_lit 0))), (nat_lit 4, (.ofNat (nat_lit 0)))]), (nat_lit 6, nat_lit 5, [(nat_lit 5, (.ofNat (nat_lit 0))), (nat_lit 6, (.ofNat (nat_lit 0)))]), (nat_lit 4, nat_lit 0, [(nat_lit 2, (.ofNat (nat_lit 0))), (nat_lit 0, (.ofNat (nat_lit 1)))]), (nat_lit 0, nat_lit 1, [(nat_lit 4, (.ofNat (nat_lit 0))), (nat_lit 1, (.ofNat (nat_lit 0)))])]]
def zFgs_bestBit6_0 : List (List zK) := []
def zDgs_bestBit6_1 : List (List zK) := [[(nat_lit 7, nat_lit 0, [(nat_lit 6, (.ofNat (nat_lit 0))), (nat_lit 0, (.ofNat (nat_lit 12)))]), (nat_lit 6, nat_lit 2, [(nat_lit 6, (.ofNat (nat_lit 0))), (nat_lit 7, (.ofNat (nat_lit 0)))]), (nat_lit 0, nat_lit 1, [(nat_lit 4, (.ofNat (nat_lit 0))), (nat_lit 1, (.ofNat (nat_lit 0)))])]]
def zEgs_bestBit6_1 : List (List zK) := [[(nat_lit 10, nat_lit 0, [(nat_lit 1, (.ofNat (nat_lit 0))), (nat_lit 4, (.ofNat (nat_lit 0))), (nat_lit 5, (.ofNat (nat_lit 0))), (nat_lit 8, (.ofNat (nat_lit 0)))]), (nat_lit 0, nat_lit 1, [(nat_lit 4, (.ofNat (nat_lit 0))), (nat_lit 0, (.ofNat (nat_lit 1)))]), (nat_lit 6, nat_lit 2, [(nat_lit 2, (.ofNat (nat_lit 0))), (nat_lit 0, (.ofNat (nat_lit 0)))]), (nat_lit 6, nat_lit 3, [(nat_lit 6, (.ofNat (nat_lit 0))), (nat_lit 7, (.ofNat (nat_lit 0)))]), (nat_lit 0, nat_lit 1, [(nat_lit 4, (.ofNat (nat_lit 0))), (nat_lit 1, (.ofNat (nat_lit 0)))])],
  [(nat_lit 10, nat_lit 0, [(nat_lit 1, (.ofNat (nat_lit 0))), (nat_lit 2, (.ofNat (nat_lit 0))), (nat_lit 3, (.ofNat (nat_lit 0))), (nat_lit 8, (.ofNat (nat_lit 0)))]), (nat_lit 0, nat_lit 1, [(nat_lit 4, (.ofNat (nat_lit 0))), (nat_lit 0, (.ofNat (nat_lit 1)))]), (nat_lit 6, nat_lit 5, [(nat_lit 5, (.ofNat (nat_lit 0))), (nat_lit 3, (.ofNat (nat_lit 0)))]), (nat_lit 6, nat_lit 3, [(nat_lit 2, (.ofNat (nat_lit 0))), (nat_lit 0, (.ofNat (nat_lit 0)))]), (nat_lit 6, nat_lit 3, [(nat_lit 6, (.ofNat (nat_lit 0))), (nat_lit 7, (.ofNat (nat_lit 0)))]), (nat_lit 0, nat_lit 1, [(nat_lit 4, (.ofNat (nat_lit 0))), (nat_lit 1, (.ofNat (nat_lit 0)))])],
  [(nat_lit 10, nat_lit 0, [(nat_lit 1, (.ofNat (nat_lit 0))), (nat_lit 4, (.ofNat (nat_lit 0))), (nat_lit 5, (.ofNat (nat_lit 0))), (nat_lit 8, (.ofNat (nat_lit 0)))]), (nat_lit 0, nat_lit 1, [(nat_lit 4, (.ofNat (nat_lit 0))), (nat_lit 0, (.ofNat (nat_lit 1)))]), (nat_lit 6, nat_lit 4, [(nat_lit 5, (.ofNat (nat_lit 0))), (nat_lit 3, (.ofNat (nat_lit 0)))]), (nat_lit 6, nat_lit 3, [(nat_lit 2, (.ofNat (nat_lit 0))), (nat_lit 0, (.ofNat (nat_lit 0)))]), (nat_lit 6, nat_lit 3, [(nat_lit 6, (.ofNat (nat_lit 0))), (nat_lit 7, (.ofNat (nat_lit 0)))]), (nat_lit 0, nat_lit 1, [(nat_lit 4, (.ofNat (nat_lit 0))), (nat_lit 1, (.ofNat (nat_lit 0)))])],
  [(nat_lit 10, nat_lit 1, [(nat_lit 1, (.ofNat (nat_lit 0))), (nat_lit 2, (.ofNat (nat_lit 0))), (nat_lit 3, (.ofNat (nat_lit 0))), (nat_lit 4, (.ofNat (nat_lit 0))), (nat_lit 9, (.ofNat (nat_lit 0))), (nat_lit 10, (.ofNat (nat_lit 0)))]), (nat_lit 0, nat_lit 1, [(nat_lit 6, (.ofNat (nat_lit 0))), (nat_lit 0, (.ofNat (nat_lit 1)))]), (nat_lit 0, nat_lit 1, [(nat_lit 5, (.ofNat (nat_lit 0))), (nat_lit 8, (.ofNat (nat_lit 0)))]), (nat_lit 4, nat_lit 0, [(nat_lit 4, (.ofNat (nat_lit 0))), (nat_lit 6, (.ofNat (nat_lit 0)))]), (nat_lit 6, nat_lit 2, [(nat_lit 6, (.ofNat (nat_lit 0))), (nat_lit 7, (.ofNat (nat_lit 0)))]), (nat_lit 0, nat_lit 1, [(nat_lit 4, (.ofNat (nat_lit 0))), (nat_lit 1, (.ofNat (nat_lit 0)))])]]
def zFgs_bestBit6_1 : List (List zK) := []
set_option maxHeartbeats 8000000 in
theorem zgs_bestBit6_o0 {ro : Nat → List Int32} (x1 : Int) (η : zE) (hp : sP wl_gs zTr zPgs_bestBit6 [x1] η) (hpp : pPgs_bestBit6 [x1] η) : ∀ (x2 : Int) (η1 : zE), ((gC2 wl_gs [(nat_lit 0, zPgs_within, zOgs_within, zMgs_within)] pCgs_bestBit6 qCgs_bestBit6) 0).2 [x1, 1, 12] η x2 η1 → (¬ x2 = 0) → (iCgs_bestBit6 [x1] η) 0 [x1, (-2), 0, 0] η1 := by
  intro x2 η1 h2 c1
  have y2 : fQgs_within [x1, 1, 12] η x2 η1 := h2.2.2
  have k2 : sQ wl_gs zTr zOgs_within zMgs_within [x1, 1, 12] η x2 η1 ∧ oQgs_within [x1, 1, 12] η x2 η1 := ⟨h2.1, h2.2.1⟩
  refine yj_a ?_ ?_
  · have y2 : fQgs_within [x1, 1, 12] η x2 η1 := h2.2.2
    have k2 : sQ wl_gs zTr zOgs_within zMgs_within [x1, 1, 12] η x2 η1 ∧ oQgs_within [x1, 1, 12] η x2 η1 := ⟨h2.1, h2.2.1⟩
    exact trivial
  · obtain ⟨a2, b2⟩ : x2 = yq_in x1 1 12 ∧ η1 = η := y2
    show yv_bI η x1 x1 (-2) 0 0 η1
    exact vbI_0 b2 (by omega)
set_option maxHeartbeats 8000000 in
theorem zgs_bestBit6_o1 {ro : Nat → List Int32} (x1 : Int) (η : zE) (hp : sP wl_gs zTr zPgs_bestBit6 [x1] η) (hpp : pPgs_bestBit6 [x1] η) : ∀ (x2 : Int) (η1 : zE), ((gC2 wl_gs [(nat_lit 0, zPgs_within, zOgs_within, zMgs_within)] pCgs_bestBit6 qCgs_bestBit6) 0).2 [x1, 1, 12] η x2 η1 → (x2 = 0) → (fun (_ : Nat) (y : Int) (η' : zE) => pQgs_bestBit6 [x1] η y η') 0 (-1) η1 := by
  intro x2 η1 h2 c1
  have y2 : fQgs_within [x1, 1, 12] η x2 η1 := h2.2.2
  have k2 : sQ wl_gs zTr zOgs_within zMgs_within [x1, 1, 12] η x2 η1 ∧ oQgs_within [x1, 1, 12] η x2 η1 := ⟨h2.1, h2.2.1⟩
  refine yj_a ?_ ?_
  · have y2 : fQgs_within [x1, 1, 12] η x2 η1 := h2.2.2
    have k2 : sQ wl_gs zTr zOgs_within zMgs_within [x1, 1, 12] η x2 η1 ∧ oQgs_within [x1, 1, 12] η x2 η1 := ⟨h2.1, h2.2.1⟩
    exact trivial
  · obtain ⟨a2, b2⟩ : x2 = yq_in x1 1 12 ∧ η1 = η := y2
    show -1 = yv_bb x1 η ∧ η1 = η
    exact ⟨by unfold yv_bb; rw [if_pos (by omega)], b2⟩
set_option maxHeartbeats 8000000 in
theorem zgs_bestBit6_o2 {ro : Nat → List Int32} (xs : List Int) (η0 : zE) (hp : sP wl_gs zTr zPgs_bestBit6 xs η0) (hpp : pPgs_bestBit6 xs η0) (x1 x2 x3 x4 : Int) (η : zE) (hI : zsI wl_gs zTr zVgs_bestBit6 zMgs_bestBit6 η0 0 [x1, x2, x3, x4] η) (hig : iCgs_bestBit6 xs η0 0 [x1, x2, x3, x4] η) : ∀ x5 : Int, x5 = zd 0 1 x4 x1 → ∀ x6 : Int, x6 = η 2 (Int.toNat 1) → zok 0 x6 → (x6 < x5) → (fun (_ : Nat) (y : Int) (η' : zE) => pQgs_bestBit6 xs η0 y η') 0 x2 η := by
  have fig := hig.2
  have hig := hig.1
  intro x5 e5 x6 e6 r6 c1
  refine yj_a ?_ ?_
  · exact trivial
  · have e5 : x5 = zd 0 1 x4 x1 := e5
    have e6 : x6 = η 2 1 := e6
    have b4 : (0 : Int) ≤ x4 ∧ x4 ≤ 7 := hI.1.2.1.2.2.2.1
    exact vbI_e (k := x1) (m := x3) (f := x4) fig (by omega) e5 (by rw [← e6]; omega)
set_option maxHeartbeats 8000000 in
theorem zgs_bestBit6_o3 {ro : Nat → List Int32} (xs : List Int) (η0 : zE) (hp : sP wl_gs zTr zPgs_bestBit6 xs η0) (hpp : pPgs_bestBit6 xs η0) (x1 x2 x3 x4 : Int) (η : zE) (hI : zsI wl_gs zTr zVgs_bestBit6 zMgs_bestBit6 η0 0 [x1, x2, x3, x4] η) (hig : iCgs_bestBit6 xs η0 0 [x1, x2, x3, x4] η) : ∀ x5 : Int, x5 = zd 0 1 x4 x1 → ∀ x6 : Int, x6 = η 2 (Int.toNat 1) → zok 0 x6 → (x5 ≤ x6) → (iCgs_bestBit6 xs η0) 1 [x1, x2, x3, x4, 0, x4] η ∧ (fun (_ : Nat) (_ : List Int) (_ : zE) => (0 : Nat)) 1 [x1, x2, x3, x4, 0, x4] η < 1 := by
  have fig := hig.2
  have hig := hig.1
  intro x5 e5 x6 e6 r6 c1
  refine yj_c ?_ ?_
  · exact ⟨trivial, Nat.zero_lt_one⟩
  · have e5 : x5 = zd 0 1 x4 x1 := e5
    have e6 : x6 = η 2 1 := e6
    have b4 : (0 : Int) ≤ x4 ∧ x4 ≤ 7 := hI.1.2.1.2.2.2.1
    show yv_bJ η0 (xs.getD 0 0) x1 x2 x3 x4 0 x4 η
    exact vbJ_0 fig (by omega) e5 (by rw [← e6]; omega)
set_option maxHeartbeats 8000000 in
theorem zgs_bestBit6_o4 {ro : Nat → List Int32} (xs : List Int) (η0 : zE) (hp : sP wl_gs zTr zPgs_bestBit6 xs η0) (hpp : pPgs_bestBit6 xs η0) (x1 x2 x3 x4 x5 x6 : Int) (η : zE) (hI : zsI wl_gs zTr zVgs_bestBit6 zMgs_bestBit6 η0 1 [x1, x2, x3, x4, x5, x6] η) (hig : iCgs_bestBit6 xs η0 1 [x1, x2, x3, x4, x5, x6] η) : ∀ x7 : Int, x7 = zd 0 1 x4 x1 → (x7 ≤ x6) → (x2 < 0) → ∀ x8 : Int, x8 = zd 0 1 x4 1 → (iCgs_bestBit6 xs η0) 0 [x1, x4, x5, x8] η ∧ (fun (_ : Nat) (_ : List Int) (_ : zE) => (0 : Nat)) 0 [x1, x4, x5, x8] η < 1 := by
  have fig := hig.2
  have hig := hig.1
  intro x7 e7 c1 c2 x8 e8
  refine yj_c ?_ ?_
  · exact ⟨trivial, Nat.zero_lt_one⟩
  · have e7 : x7 = zd 0 1 x4 x1 := e7
    have e8 : x8 = zd 0 1 x4 1 := e8
    have b4 : (0 : Int) ≤ x4 ∧ x4 ≤ 6 := hI.1.2.1.2.2.2.1
    show yv_bI η0 (xs.getD 0 0) x1 x4 x5 x8 η
    refine vbJ_e (b := x2) (m := x3) (k := x1) (f := x4) (g := x6) (s := x5) fig (by omega) e7 (by omega) e8 ?_
    rw [if_pos (by omega)]
set_option maxHeartbeats 8000000 in
theorem zgs_bestBit6_o5 {ro : Nat → List Int32} (xs : List Int) (η0 : zE) (hp : sP wl_gs zTr zPgs_bestBit6 xs η0) (hpp : pPgs_bestBit6 xs η0) (x1 x2 x3 x4 x5 x6 : Int) (η : zE) (hI : zsI wl_gs zTr zVgs_bestBit6 zMgs_bestBit6 η0 1 [x1, x2, x3, x4, x5, x6] η) (hig : iCgs_bestBit6 xs η0 1 [x1, x2, x3, x4, x5, x6] η) : ∀ x7 : Int, x7 = zd 0 1 x4 x1 → (x7 ≤ x6) → (0 ≤ x2) → (x5 ≤ x3) → ∀ x8 : Int, x8 = zd 0 1 x4 1 → (iCgs_bestBit6 xs η0) 0 [x1, x2, x3, x8] η ∧ (fun (_ : Nat) (_ : List Int) (_ : zE) => (0 : Nat)) 0 [x1, x2, x3, x8] η < 1 := by
  have fig := hig.2
  have hig := hig.1
  intro x7 e7 c1 c2 c3 x8 e8
  refine yj_c ?_ ?_
  · exact ⟨trivial, Nat.zero_lt_one⟩
  · have e7 : x7 = zd 0 1 x4 x1 := e7
    have e8 : x8 = zd 0 1 x4 1 := e8
    have b4 : (0 : Int) ≤ x4 ∧ x4 ≤ 6 := hI.1.2.1.2.2.2.1
    show yv_bI η0 (xs.getD 0 0) x1 x2 x3 x8 η
    refine vbJ_e (b := x2) (m := x3) (k := x1) (f := x4) (g := x6) (s := x5) fig (by omega) e7 (by omega) e8 ?_
    rw [if_neg (by omega)]
set_option maxHeartbeats 8000000 in
theorem zgs_bestBit6_o6 {ro : Nat → List Int32} (xs : List Int) (η0 : zE) (hp : sP wl_gs zTr zPgs_bestBit6 xs η0) (hpp : pPgs_bestBit6 xs η0) (x1 x2 x3 x4 x5 x6 : Int) (η : zE) (hI : zsI wl_gs zTr zVgs_bestBit6 zMgs_bestBit6 η0 1 [x1, x2, x3, x4, x5, x6] η) (hig : iCgs_bestBit6 xs η0 1 [x1, x2, x3, x4, x5, x6] η) : ∀ x7 : Int, x7 = zd 0 1 x4 x1 → (x7 ≤ x6) → (0 ≤ x2) → (x3 < x5) → ∀ x8 : Int, x8 = zd 0 1 x4 1 → (iCgs_bestBit6 xs η0) 0 [x1, x4, x5, x8] η ∧ (fun (_ : Nat) (_ : List Int) (_ : zE) => (0 : Nat)) 0 [x1, x4, x5, x8] η < 1 := by
  have fig := hig.2
  have hig := hig.1
  intro x7 e7 c1 c2 c3 x8 e8
  refine yj_c ?_ ?_
  · exact ⟨trivial, Nat.zero_lt_one⟩
  · have e7 : x7 = zd 0 1 x4 x1 := e7
    have e8 : x8 = zd 0 1 x4 1 := e8
    have b4 : (0 : Int) ≤ x4 ∧ x4 ≤ 6 := hI.1.2.1.2.2.2.1
    show yv_bI η0 (xs.getD 0 0) x1 x4 x5 x8 η
    refine vbJ_e (b := x2) (m := x3) (k := x1) (f := x4) (g := x6) (s := x5) fig (by omega) e7 (by omega) e8 ?_
    rw [if_pos (by omega)]
set_option maxHeartbeats 8000000 in
theorem zgs_bestBit6_o7 {ro : Nat → List Int32} (xs : List Int) (η0 : zE) (hp : sP wl_gs zTr zPgs_bestBit6 xs η0) (hpp : pPgs_bestBit6 xs η0) (x1 x2 x3 x4 x5 x6 : Int) (η : zE) (hI : zsI wl_gs zTr zVgs_bestBit6 zMgs_bestBit6 η0 1 [x1, x2, x3, x4, x5, x6] η) (hig : iCgs_bestBit6 xs η0 1 [x1, x2, x3, x4, x5, x6] η) : ∀ x7 : Int, x7 = zd 0 1 x4 x1 → (x6 < x7) → ∀ x8 : Int, x8 = η 4 (Int.toNat x6) → zok 0 x8 → ∀ x9 : Int, x9 = zd 0 1 x5 x8 → ∀ x10 : Int, x10 = zd 0 1 x6 1 → (iCgs_bestBit6 xs η0) 1 [x1, x2, x3, x4, x9, x10] η ∧ (fun (_ : Nat) (_ : List Int) (_ : zE) => (0 : Nat)) 1 [x1, x2, x3, x4, x9, x10] η < 1 := by
  have fig := hig.2
  have hig := hig.1
  intro x7 e7 c1 x8 e8 r8 x9 e9 x10 e10
  refine yj_c ?_ ?_
  · exact ⟨trivial, Nat.zero_lt_one⟩
  · have e7 : x7 = zd 0 1 x4 x1 := e7
    have e8 : x8 = η 4 (Int.toNat x6) := e8
    have e9 : x9 = zd 0 1 x5 x8 := e9
    have e10 : x10 = zd 0 1 x6 1 := e10
    have b4 : (0 : Int) ≤ x4 ∧ x4 ≤ 6 := hI.1.2.1.2.2.2.1
    show yv_bJ η0 (xs.getD 0 0) x1 x2 x3 x4 x9 x10 η
    exact vbJ_s (k := x1) (f := x4) (g := x6) fig (by omega) e7 (by omega) e8 e9 e10
set_option maxHeartbeats 8000000 in
theorem zgs_bestBit6 {ro : Nat → List Int32} : zMet pr_P pr_K pr_df ro (sm_X0 1 6) 1 98 tm_gs [(.inr (.inr (.inl (nat_lit 0)))), (.inl (nat_lit 1, (.ofNat (nat_lit 0))))] 1 [(nat_lit 0, nat_lit 0, nat_lit 1), (nat_lit 0, nat_lit 4, nat_lit 2), (nat_lit 0, nat_lit 5, nat_lit 32), (nat_lit 0, nat_lit 6, nat_lit 60), (nat_lit 0, nat_lit 7, nat_lit 70), (nat_lit 0, nat_lit 8, nat_lit 74), (nat_lit 0, nat_lit 11, nat_lit 78), (nat_lit 0, nat_lit 12, nat_lit 82), (nat_lit 0, nat_lit 13, nat_lit 90), (nat_lit 0, nat_lit 14, nat_lit 91), (nat_lit 0, nat_lit 15, nat_lit 95), (nat_lit 0, nat_lit 16, nat_lit 101), (nat_lit 2, nat_lit 8, nat_lit 3), (nat_lit 2, nat_lit 9, nat_lit 4), (nat_lit 2, nat_lit 10, nat_lit 5), (nat_lit 2, nat_lit 11, nat_lit 6), (nat_lit 2, nat_lit 12, nat_lit 11), (nat_lit 2, nat_lit 13, nat_lit 16), (nat_lit 2, nat_lit 14, nat_lit 17), (nat_lit 6, nat_lit 0, nat_lit 7), (nat_lit 11, nat_lit 0, nat_lit 12), (nat_lit 6, nat_lit 1, nat_lit 8), (nat_lit 11, nat_lit 1, nat_lit 13), (nat_lit 6, nat_lit 2, nat_lit 9), (nat_lit 11, nat_lit 2, nat_lit 14), (nat_lit 6, nat_lit 3, nat_lit 10), (nat_lit 11, nat_lit 3, nat_lit 15), (nat_lit 17, nat_lit 2, nat_lit 18), (nat_lit 17, nat_lit 3, nat_lit 19), (nat_lit 17, nat_lit 4, nat_lit 20), (nat_lit 17, nat_lit 5, nat_lit 21), (nat_lit 17, nat_lit 6, nat_lit 22), (nat_lit 32, nat_lit 8, nat_lit 33), (nat_lit 32, nat_lit 9, nat_lit 34), (nat_lit 32, nat_lit 10, nat_lit 35), (nat_lit 32, nat_lit 11, nat_lit 36), (nat_lit 32, nat_lit 12, nat_lit 41), (nat_lit 32, nat_lit 13, nat_lit 46), (nat_lit 32, nat_lit 14, nat_lit 47), (nat_lit 36, nat_lit 0, nat_lit 37), (nat_lit 41, nat_lit 0, nat_lit 42), (nat_lit 36, nat_lit 1, nat_lit 38), (nat_lit 41, nat_lit 1, nat_lit 43), (nat_lit 36, nat_lit 2, nat_lit 39), (nat_lit 41, nat_lit 2, nat_lit 44), (nat_lit 36, nat_lit 3, nat_lit 40), (nat_lit 41, nat_lit 3, nat_lit 45), (nat_lit 47, nat_lit 2, nat_lit 48), (nat_lit 47, nat_lit 3, nat_lit 49), (nat_lit 47, nat_lit 4, nat_lit 50), (nat_lit 47, nat_lit 5, nat_lit 51), (nat_lit 47, nat_lit 6, nat_lit 52), (nat_lit 60, nat_lit 3, nat_lit 1), (nat_lit 60, nat_lit 9, nat_lit 61), (nat_lit 60, nat_lit 10, nat_lit 62), (nat_lit 60, nat_lit 11, nat_lit 63), (nat_lit 70, nat_lit 8, nat_lit 71), (nat_lit 70, nat_lit 9, nat_lit 72), (nat_lit 70, nat_lit 10, nat_lit 73), (nat_lit 74, nat_lit 8, nat_lit 75), (nat_lit 74, nat_lit 9, nat_lit 76), (nat_lit 74, nat_lit 10, nat_lit 77), (nat_lit 78, nat_lit 8, nat_lit 79), (nat_lit 78, nat_lit 9, nat_lit 80), (nat_lit 78, nat_lit 10, nat_lit 81), (nat_lit 82, nat_lit 8, nat_lit 83), (nat_lit 82, nat_lit 9, nat_lit 84), (nat_lit 82, nat_lit 10, nat_lit 85), (nat_lit 91, nat_lit 1, nat_lit 92), (nat_lit 91, nat_lit 2, nat_lit 93), (nat_lit 91, nat_lit 3, nat_lit 94), (nat_lit 95, nat_lit 2, nat_lit 96), (nat_lit 95, nat_lit 3, nat_lit 97), (nat_lit 95, nat_lit 4, nat_lit 98), (nat_lit 95, nat_lit 5, nat_lit 99), (nat_lit 95, nat_lit 6, nat_lit 100)] [] (fun xs η => sP wl_gs zTr zPgs_bestBit6 xs η ∧ pPgs_bestBit6 xs η) (fun xs η y η' => sQ wl_gs zTr zOgs_bestBit6 zMgs_bestBit6 xs η y η' ∧ pQgs_bestBit6 xs η y η') :=
  zmet_alt (zmea_gen (mi := (nat_lit 1, nat_lit 1, nat_lit 7, nat_lit 7, nat_lit 1, tX7_bestBit)) (cd := [(nat_lit 75, nat_lit 0, nat_lit 0, [(.inl (nat_lit 1, (.ofNat (nat_lit 0)))), (.inl (nat_lit 2, (.ofNat (nat_lit 0)))), (.inl (nat_lit 3, (.ofNat (nat_lit 0))))], nat_lit 2, [], [])]) (cu := zUgs_bestBit6) (cs := [(nat_lit 0, zPgs_within, zOgs_within, zMgs_within)]) (iv := zVgs_bestBit6) (po := [zOgs_bestBit6]) (pr := zPgs_bestBit6) (mods := zMgs_bestBit6) (D7 := zDgs_bestBit6) (D0 := zEgs_bestBit6) (Dm := zFgs_bestBit6) (f0 := 16) pCgs_bestBit6 qCgs_bestBit6 iCgs_bestBit6 pPgs_bestBit6 (fun xs η _ y η' => pQgs_bestBit6 xs η y η') zX_low pr_mtR rfl (List.forall_mem_cons.mpr ⟨zgs_within, fun _ h => nomatch h⟩) (by decide +kernel) (by decide +kernel) (by decide +kernel)
    (by
      intro xs η hr hl hp hpp
      match xs, hl, hp, hpp with
      | [x1], _, hp, hpp =>
        refine List.forall_mem_cons.mpr ⟨?_, List.forall_mem_cons.mpr ⟨?_, List.forall_mem_cons.mpr ⟨?_, fun _ h => nomatch h⟩⟩⟩
        · refine zden_L (n := 2) (ρ := [x1, 0]) rfl ?_
          show ((gC2 wl_gs [(nat_lit 0, zPgs_within, zOgs_within, zMgs_within)] pCgs_bestBit6 qCgs_bestBit6) 0).1 [x1, 1, 12] η
          
          exact trivial
        · refine zden_L (n := 2) (ρ := [x1, 0]) rfl ?_
          exact zgs_bestBit6_o0 (ro := ro) x1 η hp hpp
        · refine zden_L (n := 2) (ρ := [x1, 0]) rfl ?_
          exact zgs_bestBit6_o1 (ro := ro) x1 η hp hpp
      )
    (fun _ _ _ _ _ _ _ h => nomatch h)
    (List.forall_mem_cons.mpr ⟨⟨zDgs_bestBit6_0, zEgs_bestBit6_0, zFgs_bestBit6_0, 16, by decide +kernel, (by
      intro xs η0 hlx hp hpp ys η hr hl hI hig
      match ys, hl, hI, hig with
      | [x1, x2, x3, x4], _, hI, hig =>
        refine ⟨?_, ?_⟩
        · refine List.forall_mem_cons.mpr ⟨?_, List.forall_mem_cons.mpr ⟨?_, fun _ h => nomatch h⟩⟩
          · refine zden_L (n := 5) (ρ := [x4, x3, x2, x1, 0]) rfl ?_
            exact zgs_bestBit6_o2 (ro := ro) xs η0 hp hpp x1 x2 x3 x4 η hI hig
          · refine zden_L (n := 5) (ρ := [x4, x3, x2, x1, 0]) rfl ?_
            exact zgs_bestBit6_o3 (ro := ro) xs η0 hp hpp x1 x2 x3 x4 η hI hig
        · exact fun _ h => nomatch h
      )⟩, (List.forall_mem_cons.mpr ⟨⟨zDgs_bestBit6_1, zEgs_bestBit6_1, zFgs_bestBit6_1, 21, by decide +kernel, (by
      intro xs η0 hlx hp hpp ys η hr hl hI hig
      match ys, hl, hI, hig with
      | [x1, x2, x3, x4, x5, x6], _, hI, hig =>
        refine ⟨?_, ?_⟩
        · refine List.forall_mem_cons.mpr ⟨?_, List.forall_mem_cons.mpr ⟨?_, List.forall_mem_cons.mpr ⟨?_, List.forall_mem_cons.mpr ⟨?_, fun _ h => nomatch h⟩⟩⟩⟩
          · refine zden_L (n := 7) (ρ := [x6, x5, x4, x3, x2, x1, 0]) rfl ?_
            exact zgs_bestBit6_o4 (ro := ro) xs η0 hp hpp x1 x2 x3 x4 x5 x6 η hI hig
          · refine zden_L (n := 7) (ρ := [x6, x5, x4, x3, x2, x1, 0]) rfl ?_
            exact zgs_bestBit6_o5 (ro := ro) xs η0 hp hpp x1 x2 x3 x4 x5 x6 η hI hig
          · refine zden_L (n := 7) (ρ := [x6, x5, x4, x3, x2, x1, 0]) rfl ?_
            exact zgs_bestBit6_o6 (ro := ro) xs η0 hp hpp x1 x2 x3 x4 x5 x6 η hI hig
          · refine zden_L (n := 7) (ρ := [x6, x5, x4, x3, x2, x1, 0]) rfl ?_
            exact zgs_bestBit6_o7 (ro := ro) xs η0 hp hpp x1 x2 x3 x4 x5 x6 η hI hig
        · exact fun _ h => nomatch h
      )⟩, (fun _ h => nomatch h)⟩)⟩))
def zPgs_bestBit7 : zPq := ([((.ofNat (nat_lit 7)), (.ofNat (nat_lit 7)))], [])
def zOgs_bestBit7 : zPo := (((.negSucc (nat_lit 2147483647)), (.ofNat (nat_lit 2147483647))), [], [])
def zMgs_bestBit7 : List zCe := []
def pPgs_bestBit7 : List Int → zE → Prop := fun _ _ => True
def oQgs_bestBit7 : List Int → zE → Int → zE → Prop := fun _ _ _ _ => True
def fQgs_bestBit7 : List Int → zE → Int → zE → Prop := fun xs η y η' => y = (yv_bb (xs.getD 0 0) η) ∧ η' = η
def pQgs_bestBit7 : List Int → zE → Int → zE → Prop := fun xs η y η' => oQgs_bestBit7 xs η y η' ∧ fQgs_bestBit7 xs η y η'
def pCgs_bestBit7 : Nat → List Int → zE → Prop := fun c => match c with
  | 0 => pPgs_within
  | _ => fun _ _ => True
def qCgs_bestBit7 : Nat → List Int → zE → Int → zE → Prop := fun c => match c with
  | 0 => pQgs_within
  | _ => fun _ _ _ _ => True
def iCgs_bestBit7 : List Int → zE → Nat → List Int → zE → Prop := fun xs η0 c => match c with
  | 0 => fun ys η => (True) ∧ (yv_bI η0 (xs.getD 0 0) (ys.getD 0 0) (ys.getD 1 0) (ys.getD 2 0) (ys.getD 3 0) η)
  | 1 => fun ys η => (True) ∧ (yv_bJ η0 (xs.getD 0 0) (ys.getD 0 0) (ys.getD 1 0) (ys.getD 2 0) (ys.getD 3 0) (ys.getD 4 0) (ys.getD 5 0) η)
  | _ => fun _ _ => True
def zVgs_bestBit7 : List zIv := [(nat_lit 0, ([((.ofNat (nat_lit 7)), (.ofNat (nat_lit 7))), ((.negSucc (nat_lit 2147483647)), (.ofNat (nat_lit 2147483647))), ((.negSucc (nat_lit 2147483647)), (.ofNat (nat_lit 2147483647))), ((.ofNat (nat_lit 0)), (.ofNat (nat_lit 6)))], []), ((.ofNat (nat_lit 2000)), [((.negSucc (nat_lit 99)), nat_lit 0, nat_lit 3, nat_lit 0)])), (nat_lit 1, ([((.ofNat (nat_lit 7)), (.ofNat (nat_lit 7))), ((.negSucc (nat_lit 2147483647)), (.ofNat (nat_lit 2147483647))), ((.negSucc (nat_lit 2147483647)), (.ofNat (nat_lit 2147483647))), ((.ofNat (nat_lit 0)), (.ofNat (nat_lit 5))), ((.negSucc (nat_lit 2147483647)), (.ofNat (nat_lit 2147483647))), ((.ofNat (nat_lit 0)), (.ofNat (nat_lit 12)))], []), ((.ofNat (nat_lit 1950)), [((.negSucc (nat_lit 99)), nat_lit 0, nat_lit 3, nat_lit 0), ((.negSucc (nat_lit 0)), nat_lit 0, nat_lit 5, nat_lit 0)]))]
def zUgs_bestBit7 : List zCu := [(nat_lit 20, nat_lit 0, [(nat_lit 0, (.inr (.inr (.inl (nat_lit 0))))), (nat_lit 1, (.inl (nat_lit 1, (.ofNat (nat_lit 0))))), (nat_lit 2, (.inl (nat_lit 2, (.ofNat (nat_lit 0))))), (nat_lit 3, (.inl (nat_lit 3, (.ofNat (nat_lit 0))))), (nat_lit 4, (.inl (nat_lit 4, (.ofNat (nat_lit 0)))))], []), (nat_lit 41, nat_lit 1, [(nat_lit 0, (.inr (.inr (.inl (nat_lit 0))))), (nat_lit 1, (.inl (nat_lit 1, (.ofNat (nat_lit 0))))), (nat_lit 2, (.inl (nat_lit 2, (.ofNat (nat_lit 0))))), (nat_lit 3, (.inl (nat_lit 3, (.ofNat (nat_lit 0))))), (nat_lit 4, (.inl (nat_lit 4, (.ofNat (nat_lit 0))))), (nat_lit 5, (.inl (nat_lit 5, (.ofNat (nat_lit 0))))), (nat_lit 6, (.inl (nat_lit 6, (.ofNat (nat_lit 0)))))], [])]
def zDgs_bestBit7 : List (List zK) := []
def zEgs_bestBit7 : List (List zK) := [[(nat_lit 13, nat_lit 0, [(nat_lit 1, (.ofNat (nat_lit 0))), (nat_lit 0, (.ofNat (nat_lit 1))), (nat_lit 0, (.ofNat (nat_lit 12)))])],
  [(nat_lit 12, nat_lit 0, [(nat_lit 1, (.ofNat (nat_lit 0))), (nat_lit 0, (.negSucc (nat_lit 1))), (nat_lit 0, (.ofNat (nat_lit 0))), (nat_lit 0, (.ofNat (nat_lit 0)))]), (nat_lit 6, nat_lit 1, [(nat_lit 2, (.ofNat (nat_lit 0))), (nat_lit 0, (.ofNat (nat_lit 0)))]), (nat_lit 8, nat_lit 0, [(nat_lit 1, (.ofNat (nat_lit 0))), (nat_lit 0, (.ofNat (nat_lit 1))), (nat_lit 0, (.ofNat (nat_lit 12)))])],
  [(nat_lit 11, nat_lit 0, [(nat_lit 0, (.negSucc (nat_lit 0)))]), (nat_lit 6, nat_lit 0, [(nat_lit 2, (.ofNat (nat_lit 0))), (nat_lit 0, (.ofNat (nat_lit 0)))]), (nat_lit 8, nat_lit 0, [(nat_lit 1, (.ofNat (nat_lit 0))), (nat_lit 0, (.ofNat (nat_lit 1))), (nat_lit 0, (.ofNat (nat_lit 12)))])]]
def zFgs_bestBit7 : List (List zK) := []
def zDgs_bestBit7_0 : List (List zK) := []
def zEgs_bestBit7_0 : List (List zK) := [[(nat_lit 11, nat_lit 0, [(nat_lit 2, (.ofNat (nat_lit 0)))]), (nat_lit 6, nat_lit 4, [(nat_lit 5, (.ofNat (nat_lit 0))), (nat_lit 6, (.ofNat (nat_lit 0)))]), (nat_lit 4, nat_lit 0, [(nat_lit 2, (.ofNat (nat_lit 0))), (nat_lit 0, (.ofNat (nat_lit 1)))]), (nat_lit 0, nat_lit 1, [(nat_lit 4, (.ofNat (nat_lit 0))), (nat_lit 1, (.ofNat (nat_lit 0)))])],
  [(nat_lit 10, nat_lit 1, [(nat_lit 1, (.ofNat (nat_lit 0))), (nat_lit 2, (.ofNat (nat_lit 0))), (nat_lit 3, (.ofNat (nat_lit 0))), (nat_lit 4, (.ofNat (nat_lit 0))), (nat_lit 0, (.ofNat (nat_lit 0))), (nat_lit 4, (.ofNat (nat_lit 0)))]), (nat_lit 6, nat_lit 5, [(nat_lit 5, (.ofNat (nat_lit 0))), (nat_lit 6, (.ofNat (nat_lit 0)))]), (nat_lit 4, nat_lit 0, [(nat_lit 2, (.ofNat (nat_lit 0))), (nat_lit 0, (.ofNat (nat_lit 1)))]), (nat_lit 0, nat_lit 1, [(nat_lit 4, (.ofNat (nat_lit 0))), (nat_lit 1, (.ofNat (nat_lit 0)))])]]
def zFgs_bestBit7_0 : List (List zK) := []
def zDgs_bestBit7_1 : List (List zK) := [[(nat_lit 7, nat_lit 0, [(nat_lit 6, (.ofNat (nat_lit 0))), (nat_lit 0, (.ofNat (nat_lit 12)))]), (nat_lit 6, nat_lit 2, [(nat_lit 6, (.ofNat (nat_lit 0))), (nat_lit 7, (.ofNat (nat_lit 0)))]), (nat_lit 0, nat_lit 1, [(nat_lit 4, (.ofNat (nat_lit 0))), (nat_lit 1, (.ofNat (nat_lit 0)))])]]
def zEgs_bestBit7_1 : List (List zK) := [[(nat_lit 10, nat_lit 0, [(nat_lit 1, (.ofNat (nat_lit 0))), (nat_lit 4, (.ofNat (nat_lit 0))), (nat_lit 5, (.ofNat (nat_lit 0))), (nat_lit 8, (.ofNat (nat_lit 0)))]), (nat_lit 0, nat_lit 1, [(nat_lit 4, (.ofNat (nat_lit 0))), (nat_lit 0, (.ofNat (nat_lit 1)))]), (nat_lit 6, nat_lit 2, [(nat_lit 2, (.ofNat (nat_lit 0))), (nat_lit 0, (.ofNat (nat_lit 0)))]), (nat_lit 6, nat_lit 3, [(nat_lit 6, (.ofNat (nat_lit 0))), (nat_lit 7, (.ofNat (nat_lit 0)))]), (nat_lit 0, nat_lit 1, [(nat_lit 4, (.ofNat (nat_lit 0))), (nat_lit 1, (.ofNat (nat_lit 0)))])],
  [(nat_lit 10, nat_lit 0, [(nat_lit 1, (.ofNat (nat_lit 0))), (nat_lit 2, (.ofNat (nat_lit 0))), (nat_lit 3, (.ofNat (nat_lit 0))), (nat_lit 8, (.ofNat (nat_lit 0)))]), (nat_lit 0, nat_lit 1, [(nat_lit 4, (.ofNat (nat_lit 0))), (nat_lit 0, (.ofNat (nat_lit 1)))]), (nat_lit 6, nat_lit 5, [(nat_lit 5, (.ofNat (nat_lit 0))), (nat_lit 3, (.ofNat (nat_lit 0)))]), (nat_lit 6, nat_lit 3, [(nat_lit 2, (.ofNat (nat_lit 0))), (nat_lit 0, (.ofNat (nat_lit 0)))]), (nat_lit 6, nat_lit 3, [(nat_lit 6, (.ofNat (nat_lit 0))), (nat_lit 7, (.ofNat (nat_lit 0)))]), (nat_lit 0, nat_lit 1, [(nat_lit 4, (.ofNat (nat_lit 0))), (nat_lit 1, (.ofNat (nat_lit 0)))])],
  [(nat_lit 10, nat_lit 0, [(nat_lit 1, (.ofNat (nat_lit 0))), (nat_lit 4, (.ofNat (nat_lit 0))), (nat_lit 5, (.ofNat (nat_lit 0))), (nat_lit 8, (.ofNat (nat_lit 0)))]), (nat_lit 0, nat_lit 1, [(nat_lit 4, (.ofNat (nat_lit 0))), (nat_lit 0, (.ofNat (nat_lit 1)))]), (nat_lit 6, nat_lit 4, [(nat_lit 5, (.ofNat (nat_lit 0))), (nat_lit 3, (.ofNat (nat_lit 0)))]), (nat_lit 6, nat_lit 3, [(nat_lit 2, (.ofNat (nat_lit 0))), (nat_lit 0, (.ofNat (nat_lit 0)))]), (nat_lit 6, nat_lit 3, [(nat_lit 6, (.ofNat (nat_lit 0))), (nat_lit 7, (.ofNat (nat_lit 0)))]), (nat_lit 0, nat_lit 1, [(nat_lit 4, (.ofNat (nat_lit 0))), (nat_lit 1, (.ofNat (nat_lit 0)))])],
  [(nat_lit 10, nat_lit 1, [(nat_lit 1, (.ofNat (nat_lit 0))), (nat_lit 2, (.ofNat (nat_lit 0))), (nat_lit 3, (.ofNat (nat_lit 0))), (nat_lit 4, (.ofNat (nat_lit 0))), (nat_lit 9, (.ofNat (nat_lit 0))), (nat_lit 10, (.ofNat (nat_lit 0)))]), (nat_lit 0, nat_lit 1, [(nat_lit 6, (.ofNat (nat_lit 0))), (nat_lit 0, (.ofNat (nat_lit 1)))]), (nat_lit 0, nat_lit 1, [(nat_lit 5, (.ofNat (nat_lit 0))), (nat_lit 8, (.ofNat (nat_lit 0)))]), (nat_lit 4, nat_lit 0, [(nat_lit 4, (.ofNat (nat_lit 0))), (nat_lit 6, (.ofNat (nat_lit 0)))]), (nat_lit 6, nat_lit 2, [(nat_lit 6, (.ofNat (nat_lit 0))), (nat_lit 7, (.ofNat (nat_lit 0)))]), (nat_lit 0, nat_lit 1, [(nat_lit 4, (.ofNat (nat_lit 0))), (nat_lit 1, (.ofNat (nat_lit 0)))])]]
def zFgs_bestBit7_1 : List (List zK) := []
