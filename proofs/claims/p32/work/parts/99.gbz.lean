def zPke_isIn : zPq := ([((.negSucc (nat_lit 2147483647)), (.ofNat (nat_lit 2147483647))), ((.negSucc (nat_lit 2147483647)), (.ofNat (nat_lit 2147483647))), ((.negSucc (nat_lit 2147483647)), (.ofNat (nat_lit 2147483647)))], [])
def zOke_isIn : zPo := (((.ofNat (nat_lit 0)), (.ofNat (nat_lit 1))), [], [])
def zMke_isIn : List zCe := []
def pPke_isIn : List Int → zE → Prop := (fun _ η => G_ke η)
def oQke_isIn : List Int → zE → Int → zE → Prop := (fun _ _ _ η' => G_ke η')
def fQke_isIn : List Int → zE → Int → zE → Prop := fun xs η y η' => y = (yq_in (xs.getD 0 0) (xs.getD 1 0) (xs.getD 2 0)) ∧ η' = η
def pQke_isIn : List Int → zE → Int → zE → Prop := fun xs η y η' => oQke_isIn xs η y η' ∧ fQke_isIn xs η y η'
def pCke_isIn : Nat → List Int → zE → Prop := fun c => match c with
  | _ => fun _ _ => True
def qCke_isIn : Nat → List Int → zE → Int → zE → Prop := fun c => match c with
  | _ => fun _ _ _ _ => True
def iCke_isIn : List Int → zE → Nat → List Int → zE → Prop := fun xs η0 c => match c with
  | _ => fun _ _ => True
def zVke_isIn : List zIv := []
def zDke_isIn : List (List zK) := [[(nat_lit 7, nat_lit 2, [(nat_lit 0, (.ofNat (nat_lit 0)))]), (nat_lit 6, nat_lit 2, [(nat_lit 1, (.ofNat (nat_lit 0))), (nat_lit 2, (.ofNat (nat_lit 0)))])],
  [(nat_lit 7, nat_lit 2, [(nat_lit 0, (.ofNat (nat_lit 0)))]), (nat_lit 6, nat_lit 4, [(nat_lit 1, (.ofNat (nat_lit 0))), (nat_lit 3, (.ofNat (nat_lit 0)))]), (nat_lit 6, nat_lit 3, [(nat_lit 1, (.ofNat (nat_lit 0))), (nat_lit 2, (.ofNat (nat_lit 0)))])],
  [(nat_lit 7, nat_lit 2, [(nat_lit 0, (.ofNat (nat_lit 1)))]), (nat_lit 6, nat_lit 5, [(nat_lit 1, (.ofNat (nat_lit 0))), (nat_lit 3, (.ofNat (nat_lit 0)))]), (nat_lit 6, nat_lit 3, [(nat_lit 1, (.ofNat (nat_lit 0))), (nat_lit 2, (.ofNat (nat_lit 0)))])]]
def zEke_isIn : List (List zK) := [[(nat_lit 11, nat_lit 0, [(nat_lit 0, (.ofNat (nat_lit 0)))]), (nat_lit 6, nat_lit 2, [(nat_lit 1, (.ofNat (nat_lit 0))), (nat_lit 2, (.ofNat (nat_lit 0)))])],
  [(nat_lit 11, nat_lit 0, [(nat_lit 0, (.ofNat (nat_lit 0)))]), (nat_lit 6, nat_lit 4, [(nat_lit 1, (.ofNat (nat_lit 0))), (nat_lit 3, (.ofNat (nat_lit 0)))]), (nat_lit 6, nat_lit 3, [(nat_lit 1, (.ofNat (nat_lit 0))), (nat_lit 2, (.ofNat (nat_lit 0)))])],
  [(nat_lit 11, nat_lit 0, [(nat_lit 0, (.ofNat (nat_lit 1)))]), (nat_lit 6, nat_lit 5, [(nat_lit 1, (.ofNat (nat_lit 0))), (nat_lit 3, (.ofNat (nat_lit 0)))]), (nat_lit 6, nat_lit 3, [(nat_lit 1, (.ofNat (nat_lit 0))), (nat_lit 2, (.ofNat (nat_lit 0)))])]]
def zFke_isIn : List (List zK) := []
set_option maxHeartbeats 8000000 in
theorem zke_isIn_o0 {ro : Nat → List Int32} (x1 x2 x3 : Int) (η : zE) (hp : sP wl_ke zTr zPke_isIn [x1, x2, x3] η) (hpp : pPke_isIn [x1, x2, x3] η) : (x1 < x2) → (fun (_ : Nat) (y : Int) (η' : zE) => pQke_isIn [x1, x2, x3] η y η') 0 0 η := by
  intro c1
  refine yj_a ?_ ?_
  · exact hpp
  · show 0 = (yq_in x1 x2 x3) ∧ η = η
    refine ⟨?_, rfl⟩
    unfold yq_in
    split <;> first | (exfalso; omega) | rfl
set_option maxHeartbeats 8000000 in
theorem zke_isIn_o1 {ro : Nat → List Int32} (x1 x2 x3 : Int) (η : zE) (hp : sP wl_ke zTr zPke_isIn [x1, x2, x3] η) (hpp : pPke_isIn [x1, x2, x3] η) : (x2 ≤ x1) → (x3 < x1) → (fun (_ : Nat) (y : Int) (η' : zE) => pQke_isIn [x1, x2, x3] η y η') 0 0 η := by
  intro c1 c2
  refine yj_a ?_ ?_
  · exact hpp
  · show 0 = (yq_in x1 x2 x3) ∧ η = η
    refine ⟨?_, rfl⟩
    unfold yq_in
    split <;> first | (exfalso; omega) | rfl
set_option maxHeartbeats 8000000 in
theorem zke_isIn_o2 {ro : Nat → List Int32} (x1 x2 x3 : Int) (η : zE) (hp : sP wl_ke zTr zPke_isIn [x1, x2, x3] η) (hpp : pPke_isIn [x1, x2, x3] η) : (x2 ≤ x1) → (x1 ≤ x3) → (fun (_ : Nat) (y : Int) (η' : zE) => pQke_isIn [x1, x2, x3] η y η') 0 1 η := by
  intro c1 c2
  refine yj_a ?_ ?_
  · exact hpp
  · show 1 = (yq_in x1 x2 x3) ∧ η = η
    refine ⟨?_, rfl⟩
    unfold yq_in
    split <;> first | (exfalso; omega) | rfl
set_option maxHeartbeats 8000000 in
theorem zke_isIn {ro : Nat → List Int32} : zMet pr_P pr_K pr_df ro (sm_X0 1 6) 0 117 tm_ke [(.inl (nat_lit 1, (.ofNat (nat_lit 0)))), (.inl (nat_lit 2, (.ofNat (nat_lit 0)))), (.inl (nat_lit 3, (.ofNat (nat_lit 0))))] 2 [(nat_lit 0, nat_lit 0, nat_lit 1), (nat_lit 0, nat_lit 3, nat_lit 2), (nat_lit 0, nat_lit 20, nat_lit 3), (nat_lit 0, nat_lit 21, nat_lit 4), (nat_lit 0, nat_lit 22, nat_lit 5), (nat_lit 0, nat_lit 23, nat_lit 6), (nat_lit 0, nat_lit 24, nat_lit 7), (nat_lit 0, nat_lit 25, nat_lit 8), (nat_lit 0, nat_lit 26, nat_lit 9), (nat_lit 0, nat_lit 27, nat_lit 10), (nat_lit 0, nat_lit 28, nat_lit 11), (nat_lit 0, nat_lit 29, nat_lit 12), (nat_lit 0, nat_lit 30, nat_lit 13), (nat_lit 0, nat_lit 31, nat_lit 14), (nat_lit 0, nat_lit 32, nat_lit 15), (nat_lit 0, nat_lit 33, nat_lit 16), (nat_lit 0, nat_lit 34, nat_lit 17), (nat_lit 0, nat_lit 35, nat_lit 18), (nat_lit 0, nat_lit 36, nat_lit 19), (nat_lit 0, nat_lit 37, nat_lit 20), (nat_lit 0, nat_lit 38, nat_lit 21), (nat_lit 0, nat_lit 39, nat_lit 22), (nat_lit 0, nat_lit 40, nat_lit 23), (nat_lit 0, nat_lit 47, nat_lit 24), (nat_lit 0, nat_lit 48, nat_lit 25), (nat_lit 0, nat_lit 50, nat_lit 26), (nat_lit 0, nat_lit 51, nat_lit 27), (nat_lit 0, nat_lit 52, nat_lit 28), (nat_lit 0, nat_lit 53, nat_lit 29), (nat_lit 0, nat_lit 54, nat_lit 30), (nat_lit 0, nat_lit 55, nat_lit 31), (nat_lit 0, nat_lit 56, nat_lit 32), (nat_lit 0, nat_lit 57, nat_lit 33), (nat_lit 0, nat_lit 58, nat_lit 34), (nat_lit 0, nat_lit 59, nat_lit 35), (nat_lit 0, nat_lit 72, nat_lit 36), (nat_lit 0, nat_lit 73, nat_lit 37), (nat_lit 0, nat_lit 76, nat_lit 38), (nat_lit 0, nat_lit 77, nat_lit 39), (nat_lit 0, nat_lit 79, nat_lit 40), (nat_lit 0, nat_lit 81, nat_lit 41), (nat_lit 0, nat_lit 82, nat_lit 42)] [] (fun xs η => sP wl_ke zTr zPke_isIn xs η ∧ pPke_isIn xs η) (fun xs η y η' => sQ wl_ke zTr zOke_isIn zMke_isIn xs η y η' ∧ pQke_isIn xs η y η') :=
  zmet_alt (zmea_gen (mi := (nat_lit 3, nat_lit 0, nat_lit 8, nat_lit 3, nat_lit 2, tX8_isIn)) (cd := []) (cu := []) (cs := []) (iv := zVke_isIn) (po := [zOke_isIn]) (pr := zPke_isIn) (mods := zMke_isIn) (D7 := zDke_isIn) (D0 := zEke_isIn) (Dm := zFke_isIn) (f0 := 13) pCke_isIn qCke_isIn iCke_isIn pPke_isIn (fun xs η _ y η' => pQke_isIn xs η y η') zX_low pr_mtR rfl (fun _ h => nomatch h) (by decide +kernel) (by decide +kernel) (by decide +kernel)
    (by
      intro xs η hr hl hp hpp
      match xs, hl, hp, hpp with
      | [x1, x2, x3], _, hp, hpp =>
        refine List.forall_mem_cons.mpr ⟨?_, List.forall_mem_cons.mpr ⟨?_, List.forall_mem_cons.mpr ⟨?_, fun _ h => nomatch h⟩⟩⟩
        · refine zden_L (n := 4) (ρ := [x3, x2, x1, 0]) rfl ?_
          exact zke_isIn_o0 (ro := ro) x1 x2 x3 η hp hpp
        · refine zden_L (n := 4) (ρ := [x3, x2, x1, 0]) rfl ?_
          exact zke_isIn_o1 (ro := ro) x1 x2 x3 η hp hpp
        · refine zden_L (n := 4) (ρ := [x3, x2, x1, 0]) rfl ?_
          exact zke_isIn_o2 (ro := ro) x1 x2 x3 η hp hpp
      )
    (fun _ _ _ _ _ _ _ h => nomatch h)
    (fun _ h => nomatch h))
def zPke_isKey : zPq := ([((.negSucc (nat_lit 2147483647)), (.ofNat (nat_lit 2147483647)))], [])
def zOke_isKey : zPo := (((.ofNat (nat_lit 0)), (.ofNat (nat_lit 1))), [], [])
def zMke_isKey : List zCe := []
def pPke_isKey : List Int → zE → Prop := (fun _ η => G_ke η)
def oQke_isKey : List Int → zE → Int → zE → Prop := fun _ η y η' => G_k η' ∧ (¬ y = 0 → η 0 8 = 1)
def fQke_isKey : List Int → zE → Int → zE → Prop := fun xs η y η' => y = (yq_isK (xs.getD 0 0) η) ∧ η' = η
def pQke_isKey : List Int → zE → Int → zE → Prop := fun xs η y η' => oQke_isKey xs η y η' ∧ fQke_isKey xs η y η'
def pCke_isKey : Nat → List Int → zE → Prop := fun c => match c with
  | _ => fun _ _ => True
def qCke_isKey : Nat → List Int → zE → Int → zE → Prop := fun c => match c with
  | _ => fun _ _ _ _ => True
def iCke_isKey : List Int → zE → Nat → List Int → zE → Prop := fun xs η0 c => match c with
  | _ => fun _ _ => True
def zVke_isKey : List zIv := []
def zDke_isKey : List (List zK) := [[(nat_lit 7, nat_lit 2, [(nat_lit 0, (.ofNat (nat_lit 0)))]), (nat_lit 6, nat_lit 1, [(nat_lit 2, (.ofNat (nat_lit 0))), (nat_lit 0, (.ofNat (nat_lit 1)))]), (nat_lit 4, nat_lit 0, [(nat_lit 0, (.ofNat (nat_lit 0))), (nat_lit 0, (.ofNat (nat_lit 8)))])],
  [(nat_lit 7, nat_lit 2, [(nat_lit 0, (.ofNat (nat_lit 0)))]), (nat_lit 6, nat_lit 1, [(nat_lit 3, (.ofNat (nat_lit 0))), (nat_lit 1, (.ofNat (nat_lit 0)))]), (nat_lit 4, nat_lit 0, [(nat_lit 0, (.ofNat (nat_lit 0))), (nat_lit 0, (.ofNat (nat_lit 9)))]), (nat_lit 6, nat_lit 0, [(nat_lit 2, (.ofNat (nat_lit 0))), (nat_lit 0, (.ofNat (nat_lit 1)))]), (nat_lit 4, nat_lit 0, [(nat_lit 0, (.ofNat (nat_lit 0))), (nat_lit 0, (.ofNat (nat_lit 8)))])],
  [(nat_lit 7, nat_lit 2, [(nat_lit 0, (.ofNat (nat_lit 1)))]), (nat_lit 6, nat_lit 0, [(nat_lit 3, (.ofNat (nat_lit 0))), (nat_lit 1, (.ofNat (nat_lit 0)))]), (nat_lit 4, nat_lit 0, [(nat_lit 0, (.ofNat (nat_lit 0))), (nat_lit 0, (.ofNat (nat_lit 9)))]), (nat_lit 6, nat_lit 0, [(nat_lit 2, (.ofNat (nat_lit 0))), (nat_lit 0, (.ofNat (nat_lit 1)))]), (nat_lit 4, nat_lit 0, [(nat_lit 0, (.ofNat (nat_lit 0))), (nat_lit 0, (.ofNat (nat_lit 8)))])]]
def zEke_isKey : List (List zK) := [[(nat_lit 11, nat_lit 0, [(nat_lit 0, (.ofNat (nat_lit 0)))]), (nat_lit 6, nat_lit 1, [(nat_lit 2, (.ofNat (nat_lit 0))), (nat_lit 0, (.ofNat (nat_lit 1)))]), (nat_lit 4, nat_lit 0, [(nat_lit 0, (.ofNat (nat_lit 0))), (nat_lit 0, (.ofNat (nat_lit 8)))])],
  [(nat_lit 11, nat_lit 0, [(nat_lit 0, (.ofNat (nat_lit 0)))]), (nat_lit 6, nat_lit 1, [(nat_lit 3, (.ofNat (nat_lit 0))), (nat_lit 1, (.ofNat (nat_lit 0)))]), (nat_lit 4, nat_lit 0, [(nat_lit 0, (.ofNat (nat_lit 0))), (nat_lit 0, (.ofNat (nat_lit 9)))]), (nat_lit 6, nat_lit 0, [(nat_lit 2, (.ofNat (nat_lit 0))), (nat_lit 0, (.ofNat (nat_lit 1)))]), (nat_lit 4, nat_lit 0, [(nat_lit 0, (.ofNat (nat_lit 0))), (nat_lit 0, (.ofNat (nat_lit 8)))])],
  [(nat_lit 11, nat_lit 0, [(nat_lit 0, (.ofNat (nat_lit 1)))]), (nat_lit 6, nat_lit 0, [(nat_lit 3, (.ofNat (nat_lit 0))), (nat_lit 1, (.ofNat (nat_lit 0)))]), (nat_lit 4, nat_lit 0, [(nat_lit 0, (.ofNat (nat_lit 0))), (nat_lit 0, (.ofNat (nat_lit 9)))]), (nat_lit 6, nat_lit 0, [(nat_lit 2, (.ofNat (nat_lit 0))), (nat_lit 0, (.ofNat (nat_lit 1)))]), (nat_lit 4, nat_lit 0, [(nat_lit 0, (.ofNat (nat_lit 0))), (nat_lit 0, (.ofNat (nat_lit 8)))])]]
def zFke_isKey : List (List zK) := []
set_option maxHeartbeats 8000000 in
theorem zke_isKey_o0 {ro : Nat → List Int32} (x1 : Int) (η : zE) (hp : sP wl_ke zTr zPke_isKey [x1] η) (hpp : pPke_isKey [x1] η) : ∀ x2 : Int, x2 = η 0 (Int.toNat 8) → zok 0 x2 → (¬ x2 = 1) → (fun (_ : Nat) (y : Int) (η' : zE) => pQke_isKey [x1] η y η') 0 0 η := by
  intro x2 e2 r2 c1
  refine yj_a ?_ ?_
  · have bx1 : ((-2147483648) : Int) ≤ x1 ∧ x1 ≤ 2147483647 := hp.2.1.1
    have w0_0_8 : (0 : Int) ≤ η 0 8 ∧ η 0 8 ≤ 6 := wf_ok (a := 8) (b := 8) (z := (0, 6)) hp.1 (by decide +kernel) (Nat.le_refl _) (Nat.le_refl _)
    replace e2 : x2 = η 0 8 := e2
    replace r2 : -2147483648 ≤ x2 ∧ x2 ≤ 2147483647 := r2
    have fr1_0 : ∀ j, η 1 j = η 1 j := fun _ => rfl
    have fr2 : ∀ j, η 2 j = η 2 j := fun _ => rfl
    have w0_0_7 : (0 : Int) ≤ η 0 7 ∧ η 0 7 ≤ 700 := wf_ok (a := 7) (b := 7) (z := (0, 700)) hp.1 (by decide +kernel) (Nat.le_refl _) (Nat.le_refl _)
    have f0_7 : η 0 7 = η 0 7 := rfl
    have w0_0_6 : (0 : Int) ≤ η 0 6 ∧ η 0 6 ≤ 700 := wf_ok (a := 6) (b := 6) (z := (0, 700)) hp.1 (by decide +kernel) (Nat.le_refl _) (Nat.le_refl _)
    have f0_6 : η 0 6 = η 0 6 := rfl
    have f0_8 : η 0 8 = η 0 8 := rfl
    have f0_9 : η 0 9 = η 0 9 := rfl
    exact ⟨hpp, fun w => by first | exact absurd rfl w | omega⟩
  · have e2 : x2 = η 0 8 := e2
    clear r2
    show 0 = (yq_isK x1 η) ∧ η = η
    subst e2
    refine ⟨?_, rfl⟩
    unfold yq_isK
    split <;> first | (exfalso; omega) | rfl
set_option maxHeartbeats 8000000 in
theorem zke_isKey_o1 {ro : Nat → List Int32} (x1 : Int) (η : zE) (hp : sP wl_ke zTr zPke_isKey [x1] η) (hpp : pPke_isKey [x1] η) : ∀ x2 : Int, x2 = η 0 (Int.toNat 8) → zok 0 x2 → (x2 = 1) → ∀ x3 : Int, x3 = η 0 (Int.toNat 9) → zok 0 x3 → (¬ x3 = x1) → (fun (_ : Nat) (y : Int) (η' : zE) => pQke_isKey [x1] η y η') 0 0 η := by
  intro x2 e2 r2 c1 x3 e3 r3 c2
  refine yj_a ?_ ?_
  · have bx1 : ((-2147483648) : Int) ≤ x1 ∧ x1 ≤ 2147483647 := hp.2.1.1
    have w0_0_8 : (0 : Int) ≤ η 0 8 ∧ η 0 8 ≤ 6 := wf_ok (a := 8) (b := 8) (z := (0, 6)) hp.1 (by decide +kernel) (Nat.le_refl _) (Nat.le_refl _)
    replace e2 : x2 = η 0 8 := e2
    replace r2 : -2147483648 ≤ x2 ∧ x2 ≤ 2147483647 := r2
    replace e3 : x3 = η 0 9 := e3
    replace r3 : -2147483648 ≤ x3 ∧ x3 ≤ 2147483647 := r3
    have fr1_0 : ∀ j, η 1 j = η 1 j := fun _ => rfl
    have fr2 : ∀ j, η 2 j = η 2 j := fun _ => rfl
    have w0_0_7 : (0 : Int) ≤ η 0 7 ∧ η 0 7 ≤ 700 := wf_ok (a := 7) (b := 7) (z := (0, 700)) hp.1 (by decide +kernel) (Nat.le_refl _) (Nat.le_refl _)
    have f0_7 : η 0 7 = η 0 7 := rfl
    have w0_0_6 : (0 : Int) ≤ η 0 6 ∧ η 0 6 ≤ 700 := wf_ok (a := 6) (b := 6) (z := (0, 700)) hp.1 (by decide +kernel) (Nat.le_refl _) (Nat.le_refl _)
    have f0_6 : η 0 6 = η 0 6 := rfl
    have f0_8 : η 0 8 = η 0 8 := rfl
    have f0_9 : η 0 9 = η 0 9 := rfl
    exact ⟨hpp, fun w => by first | exact absurd rfl w | omega⟩
  · have e2 : x2 = η 0 8 := e2
    clear r2
    have e3 : x3 = η 0 9 := e3
    clear r3
    show 0 = (yq_isK x1 η) ∧ η = η
    subst e2
    subst e3
    refine ⟨?_, rfl⟩
    unfold yq_isK
    split <;> first | (exfalso; omega) | rfl
set_option maxHeartbeats 8000000 in
theorem zke_isKey_o2 {ro : Nat → List Int32} (x1 : Int) (η : zE) (hp : sP wl_ke zTr zPke_isKey [x1] η) (hpp : pPke_isKey [x1] η) : ∀ x2 : Int, x2 = η 0 (Int.toNat 8) → zok 0 x2 → (x2 = 1) → ∀ x3 : Int, x3 = η 0 (Int.toNat 9) → zok 0 x3 → (x3 = x1) → (fun (_ : Nat) (y : Int) (η' : zE) => pQke_isKey [x1] η y η') 0 1 η := by
  intro x2 e2 r2 c1 x3 e3 r3 c2
  refine yj_a ?_ ?_
  · have bx1 : ((-2147483648) : Int) ≤ x1 ∧ x1 ≤ 2147483647 := hp.2.1.1
    have w0_0_8 : (0 : Int) ≤ η 0 8 ∧ η 0 8 ≤ 6 := wf_ok (a := 8) (b := 8) (z := (0, 6)) hp.1 (by decide +kernel) (Nat.le_refl _) (Nat.le_refl _)
    replace e2 : x2 = η 0 8 := e2
    replace r2 : -2147483648 ≤ x2 ∧ x2 ≤ 2147483647 := r2
    replace e3 : x3 = η 0 9 := e3
    replace r3 : -2147483648 ≤ x3 ∧ x3 ≤ 2147483647 := r3
    have fr1_0 : ∀ j, η 1 j = η 1 j := fun _ => rfl
    have fr2 : ∀ j, η 2 j = η 2 j := fun _ => rfl
    have w0_0_7 : (0 : Int) ≤ η 0 7 ∧ η 0 7 ≤ 700 := wf_ok (a := 7) (b := 7) (z := (0, 700)) hp.1 (by decide +kernel) (Nat.le_refl _) (Nat.le_refl _)
    have f0_7 : η 0 7 = η 0 7 := rfl
    have w0_0_6 : (0 : Int) ≤ η 0 6 ∧ η 0 6 ≤ 700 := wf_ok (a := 6) (b := 6) (z := (0, 700)) hp.1 (by decide +kernel) (Nat.le_refl _) (Nat.le_refl _)
    have f0_6 : η 0 6 = η 0 6 := rfl
    have f0_8 : η 0 8 = η 0 8 := rfl
    have f0_9 : η 0 9 = η 0 9 := rfl
    exact ⟨hpp, fun w => by first | exact absurd rfl w | omega⟩
  · have e2 : x2 = η 0 8 := e2
    clear r2
    have e3 : x3 = η 0 9 := e3
    clear r3
    show 1 = (yq_isK x1 η) ∧ η = η
    subst e2
    subst e3
    refine ⟨?_, rfl⟩
    unfold yq_isK
    split <;> first | (exfalso; omega) | rfl
set_option maxHeartbeats 8000000 in
theorem zke_isKey {ro : Nat → List Int32} : zMet pr_P pr_K pr_df ro (sm_X0 1 6) 0 125 tm_ke [(.inr (.inr (.inl (nat_lit 0)))), (.inl (nat_lit 1, (.ofNat (nat_lit 0))))] 2 [(nat_lit 0, nat_lit 0, nat_lit 1), (nat_lit 0, nat_lit 3, nat_lit 2), (nat_lit 0, nat_lit 20, nat_lit 3), (nat_lit 0, nat_lit 21, nat_lit 4), (nat_lit 0, nat_lit 22, nat_lit 5), (nat_lit 0, nat_lit 23, nat_lit 6), (nat_lit 0, nat_lit 24, nat_lit 7), (nat_lit 0, nat_lit 25, nat_lit 8), (nat_lit 0, nat_lit 26, nat_lit 9), (nat_lit 0, nat_lit 27, nat_lit 10), (nat_lit 0, nat_lit 28, nat_lit 11), (nat_lit 0, nat_lit 29, nat_lit 12), (nat_lit 0, nat_lit 30, nat_lit 13), (nat_lit 0, nat_lit 31, nat_lit 14), (nat_lit 0, nat_lit 32, nat_lit 15), (nat_lit 0, nat_lit 33, nat_lit 16), (nat_lit 0, nat_lit 34, nat_lit 17), (nat_lit 0, nat_lit 35, nat_lit 18), (nat_lit 0, nat_lit 36, nat_lit 19), (nat_lit 0, nat_lit 37, nat_lit 20), (nat_lit 0, nat_lit 38, nat_lit 21), (nat_lit 0, nat_lit 39, nat_lit 22), (nat_lit 0, nat_lit 40, nat_lit 23), (nat_lit 0, nat_lit 47, nat_lit 24), (nat_lit 0, nat_lit 48, nat_lit 25), (nat_lit 0, nat_lit 50, nat_lit 26), (nat_lit 0, nat_lit 51, nat_lit 27), (nat_lit 0, nat_lit 52, nat_lit 28), (nat_lit 0, nat_lit 53, nat_lit 29), (nat_lit 0, nat_lit 54, nat_lit 30), (nat_lit 0, nat_lit 55, nat_lit 31), (nat_lit 0, nat_lit 56, nat_lit 32), (nat_lit 0, nat_lit 57, nat_lit 33), (nat_lit 0, nat_lit 58, nat_lit 34), (nat_lit 0, nat_lit 59, nat_lit 35), (nat_lit 0, nat_lit 72, nat_lit 36), (nat_lit 0, nat_lit 73, nat_lit 37), (nat_lit 0, nat_lit 76, nat_lit 38), (nat_lit 0, nat_lit 77, nat_lit 39), (nat_lit 0, nat_lit 79, nat_lit 40), (nat_lit 0, nat_lit 81, nat_lit 41), (nat_lit 0, nat_lit 82, nat_lit 42)] [] (fun xs η => sP wl_ke zTr zPke_isKey xs η ∧ pPke_isKey xs η) (fun xs η y η' => sQ wl_ke zTr zOke_isKey zMke_isKey xs η y η' ∧ pQke_isKey xs η y η') :=
  zmet_alt (zmea_gen (mi := (nat_lit 1, nat_lit 1, nat_lit 8, nat_lit 2, nat_lit 2, tX8_isKey)) (cd := []) (cu := []) (cs := []) (iv := zVke_isKey) (po := [zOke_isKey]) (pr := zPke_isKey) (mods := zMke_isKey) (D7 := zDke_isKey) (D0 := zEke_isKey) (Dm := zFke_isKey) (f0 := 15) pCke_isKey qCke_isKey iCke_isKey pPke_isKey (fun xs η _ y η' => pQke_isKey xs η y η') zX_low pr_mtR rfl (fun _ h => nomatch h) (by decide +kernel) (by decide +kernel) (by decide +kernel)
    (by
      intro xs η hr hl hp hpp
      match xs, hl, hp, hpp with
      | [x1], _, hp, hpp =>
        refine List.forall_mem_cons.mpr ⟨?_, List.forall_mem_cons.mpr ⟨?_, List.forall_mem_cons.mpr ⟨?_, fun _ h => nomatch h⟩⟩⟩
        · refine zden_L (n := 2) (ρ := [x1, 0]) rfl ?_
          exact zke_isKey_o0 (ro := ro) x1 η hp hpp
        · refine zden_L (n := 2) (ρ := [x1, 0]) rfl ?_
          exact zke_isKey_o1 (ro := ro) x1 η hp hpp
        · refine zden_L (n := 2) (ρ := [x1, 0]) rfl ?_
          exact zke_isKey_o2 (ro := ro) x1 η hp hpp
      )
    (fun _ _ _ _ _ _ _ h => nomatch h)
    (fun _ h => nomatch h))
def zPke_isSign : zPq := ([((.negSucc (nat_lit 2147483647)), (.ofNat (nat_lit 2147483647)))], [])
def zOke_isSign : zPo := (((.ofNat (nat_lit 0)), (.ofNat (nat_lit 1))), [], [])
def zMke_isSign : List zCe := []
def pPke_isSign : List Int → zE → Prop := (fun _ η => G_ke η)
def oQke_isSign : List Int → zE → Int → zE → Prop := fun _ η y η' => G_k η' ∧ (¬ y = 0 → η 0 8 = 4)
def fQke_isSign : List Int → zE → Int → zE → Prop := fun xs η y η' => y = (yq_isS (xs.getD 0 0) η) ∧ η' = η
def pQke_isSign : List Int → zE → Int → zE → Prop := fun xs η y η' => oQke_isSign xs η y η' ∧ fQke_isSign xs η y η'
def pCke_isSign : Nat → List Int → zE → Prop := fun c => match c with
  | _ => fun _ _ => True
def qCke_isSign : Nat → List Int → zE → Int → zE → Prop := fun c => match c with
  | _ => fun _ _ _ _ => True
def iCke_isSign : List Int → zE → Nat → List Int → zE → Prop := fun xs η0 c => match c with
  | _ => fun _ _ => True
def zVke_isSign : List zIv := []
def zDke_isSign : List (List zK) := [[(nat_lit 7, nat_lit 2, [(nat_lit 0, (.ofNat (nat_lit 0)))]), (nat_lit 6, nat_lit 1, [(nat_lit 2, (.ofNat (nat_lit 0))), (nat_lit 0, (.ofNat (nat_lit 4)))]), (nat_lit 4, nat_lit 0, [(nat_lit 0, (.ofNat (nat_lit 0))), (nat_lit 0, (.ofNat (nat_lit 8)))])],
  [(nat_lit 7, nat_lit 2, [(nat_lit 0, (.ofNat (nat_lit 0)))]), (nat_lit 6, nat_lit 1, [(nat_lit 3, (.ofNat (nat_lit 0))), (nat_lit 1, (.ofNat (nat_lit 0)))]), (nat_lit 4, nat_lit 0, [(nat_lit 0, (.ofNat (nat_lit 0))), (nat_lit 0, (.ofNat (nat_lit 9)))]), (nat_lit 6, nat_lit 0, [(nat_lit 2, (.ofNat (nat_lit 0))), (nat_lit 0, (.ofNat (nat_lit 4)))]), (nat_lit 4, nat_lit 0, [(nat_lit 0, (.ofNat (nat_lit 0))), (nat_lit 0, (.ofNat (nat_lit 8)))])],
  [(nat_lit 7, nat_lit 2, [(nat_lit 0, (.ofNat (nat_lit 1)))]), (nat_lit 6, nat_lit 0, [(nat_lit 3, (.ofNat (nat_lit 0))), (nat_lit 1, (.ofNat (nat_lit 0)))]), (nat_lit 4, nat_lit 0, [(nat_lit 0, (.ofNat (nat_lit 0))), (nat_lit 0, (.ofNat (nat_lit 9)))]), (nat_lit 6, nat_lit 0, [(nat_lit 2, (.ofNat (nat_lit 0))), (nat_lit 0, (.ofNat (nat_lit 4)))]), (nat_lit 4, nat_lit 0, [(nat_lit 0, (.ofNat (nat_lit 0))), (nat_lit 0, (.ofNat (nat_lit 8)))])]]
def zEke_isSign : List (List zK) := [[(nat_lit 11, nat_lit 0, [(nat_lit 0, (.ofNat (nat_lit 0)))]), (nat_lit 6, nat_lit 1, [(nat_lit 2, (.ofNat (nat_lit 0))), (nat_lit 0, (.ofNat (nat_lit 4)))]), (nat_lit 4, nat_lit 0, [(nat_lit 0, (.ofNat (nat_lit 0))), (nat_lit 0, (.ofNat (nat_lit 8)))])],
  [(nat_lit 11, nat_lit 0, [(nat_lit 0, (.ofNat (nat_lit 0)))]), (nat_lit 6, nat_lit 1, [(nat_lit 3, (.ofNat (nat_lit 0))), (nat_lit 1, (.ofNat (nat_lit 0)))]), (nat_lit 4, nat_lit 0, [(nat_lit 0, (.ofNat (nat_lit 0))), (nat_lit 0, (.ofNat (nat_lit 9)))]), (nat_lit 6, nat_lit 0, [(nat_lit 2, (.ofNat (nat_lit 0))), (nat_lit 0, (.ofNat (nat_lit 4)))]), (nat_lit 4, nat_lit 0, [(nat_lit 0, (.ofNat (nat_lit 0))), (nat_lit 0, (.ofNat (nat_lit 8)))])],
  [(nat_lit 11, nat_lit 0, [(nat_lit 0, (.ofNat (nat_lit 1)))]), (nat_lit 6, nat_lit 0, [(nat_lit 3, (.ofNat (nat_lit 0))), (nat_lit 1, (.ofNat (nat_lit 0)))]), (nat_lit 4, nat_lit 0, [(nat_lit 0, (.ofNat (nat_lit 0))), (nat_lit 0, (.ofNat (nat_lit 9)))]), (nat_lit 6, nat_lit 0, [(nat_lit 2, (.ofNat (nat_lit 0))), (nat_lit 0, (.ofNat (nat_lit 4)))]), (nat_lit 4, nat_lit 0, [(nat_lit 0, (.ofNat (nat_lit 0))), (nat_lit 0, (.ofNat (nat_lit 8)))])]]
def zFke_isSign : List (List zK) := []
set_option maxHeartbeats 8000000 in
theorem zke_isSign_o0 {ro : Nat → List Int32} (x1 : Int) (η : zE) (hp : sP wl_ke zTr zPke_isSign [x1] η) (hpp : pPke_isSign [x1] η) : ∀ x2 : Int, x2 = η 0 (Int.toNat 8) → zok 0 x2 → (¬ x2 = 4) → (fun (_ : Nat) (y : Int) (η' : zE) => pQke_isSign [x1] η y η') 0 0 η := by
  intro x2 e2 r2 c1
  refine yj_a ?_ ?_
  · have bx1 : ((-2147483648) : Int) ≤ x1 ∧ x1 ≤ 2147483647 := hp.2.1.1
    have w0_0_8 : (0 : Int) ≤ η 0 8 ∧ η 0 8 ≤ 6 := wf_ok (a := 8) (b := 8) (z := (0, 6)) hp.1 (by decide +kernel) (Nat.le_refl _) (Nat.le_refl _)
    replace e2 : x2 = η 0 8 := e2
    replace r2 : -2147483648 ≤ x2 ∧ x2 ≤ 2147483647 := r2
    have fr1_0 : ∀ j, η 1 j = η 1 j := fun _ => rfl
    have fr2 : ∀ j, η 2 j = η 2 j := fun _ => rfl
    have w0_0_7 : (0 : Int) ≤ η 0 7 ∧ η 0 7 ≤ 700 := wf_ok (a := 7) (b := 7) (z := (0, 700)) hp.1 (by decide +kernel) (Nat.le_refl _) (Nat.le_refl _)
    have f0_7 : η 0 7 = η 0 7 := rfl
    have w0_0_6 : (0 : Int) ≤ η 0 6 ∧ η 0 6 ≤ 700 := wf_ok (a := 6) (b := 6) (z := (0, 700)) hp.1 (by decide +kernel) (Nat.le_refl _) (Nat.le_refl _)
    have f0_6 : η 0 6 = η 0 6 := rfl
    have f0_8 : η 0 8 = η 0 8 := rfl
    have f0_9 : η 0 9 = η 0 9 := rfl
    exact ⟨hpp, fun w => by first | exact absurd rfl w | omega⟩
  · have e2 : x2 = η 0 8 := e2
    clear r2
    show 0 = (yq_isS x1 η) ∧ η = η
    subst e2
    refine ⟨?_, rfl⟩
    unfold yq_isS
    split <;> first | (exfalso; omega) | rfl
set_option maxHeartbeats 8000000 in
theorem zke_isSign_o1 {ro : Nat → List Int32} (x1 : Int) (η : zE) (hp : sP wl_ke zTr zPke_isSign [x1] η) (hpp : pPke_isSign [x1] η) : ∀ x2 : Int, x2 = η 0 (Int.toNat 8) → zok 0 x2 → (x2 = 4) → ∀ x3 : Int, x3 = η 0 (Int.toNat 9) → zok 0 x3 → (¬ x3 = x1) → (fun (_ : Nat) (y : Int) (η' : zE) => pQke_isSign [x1] η y η') 0 0 η := by
  intro x2 e2 r2 c1 x3 e3 r3 c2
  refine yj_a ?_ ?_
  · have bx1 : ((-2147483648) : Int) ≤ x1 ∧ x1 ≤ 2147483647 := hp.2.1.1
    have w0_0_8 : (0 : Int) ≤ η 0 8 ∧ η 0 8 ≤ 6 := wf_ok (a := 8) (b := 8) (z := (0, 6)) hp.1 (by decide +kernel) (Nat.le_refl _) (Nat.le_refl _)
    replace e2 : x2 = η 0 8 := e2
    replace r2 : -2147483648 ≤ x2 ∧ x2 ≤ 2147483647 := r2
    replace e3 : x3 = η 0 9 := e3
    replace r3 : -2147483648 ≤ x3 ∧ x3 ≤ 2147483647 := r3
    have fr1_0 : ∀ j, η 1 j = η 1 j := fun _ => rfl
    have fr2 : ∀ j, η 2 j = η 2 j := fun _ => rfl
    have w0_0_7 : (0 : Int) ≤ η 0 7 ∧ η 0 7 ≤ 700 := wf_ok (a := 7) (b := 7) (z := (0, 700)) hp.1 (by decide +kernel) (Nat.le_refl _) (Nat.le_refl _)
    have f0_7 : η 0 7 = η 0 7 := rfl
    have w0_0_6 : (0 : Int) ≤ η 0 6 ∧ η 0 6 ≤ 700 := wf_ok (a := 6) (b := 6) (z := (0, 700)) hp.1 (by decide +kernel) (Nat.le_refl _) (Nat.le_refl _)
    have f0_6 : η 0 6 = η 0 6 := rfl
    have f0_8 : η 0 8 = η 0 8 := rfl
    have f0_9 : η 0 9 = η 0 9 := rfl
    exact ⟨hpp, fun w => by first | exact absurd rfl w | omega⟩
  · have e2 : x2 = η 0 8 := e2
    clear r2
    have e3 : x3 = η 0 9 := e3
    clear r3
    show 0 = (yq_isS x1 η) ∧ η = η
    subst e2
    subst e3
    refine ⟨?_, rfl⟩
    unfold yq_isS
    split <;> first | (exfalso; omega) | rfl
set_option maxHeartbeats 8000000 in
theorem zke_isSign_o2 {ro : Nat → List Int32} (x1 : Int) (η : zE) (hp : sP wl_ke zTr zPke_isSign [x1] η) (hpp : pPke_isSign [x1] η) : ∀ x2 : Int, x2 = η 0 (Int.toNat 8) → zok 0 x2 → (x2 = 4) → ∀ x3 : Int, x3 = η 0 (Int.toNat 9) → zok 0 x3 → (x3 = x1) → (fun (_ : Nat) (y : Int) (η' : zE) => pQke_isSign [x1] η y η') 0 1 η := by
  intro x2 e2 r2 c1 x3 e3 r3 c2
  refine yj_a ?_ ?_
  · have bx1 : ((-2147483648) : Int) ≤ x1 ∧ x1 ≤ 2147483647 := hp.2.1.1
    have w0_0_8 : (0 : Int) ≤ η 0 8 ∧ η 0 8 ≤ 6 := wf_ok (a := 8) (b := 8) (z := (0, 6)) hp.1 (by decide +kernel) (Nat.le_refl _) (Nat.le_refl _)
    replace e2 : x2 = η 0 8 := e2
    replace r2 : -2147483648 ≤ x2 ∧ x2 ≤ 2147483647 := r2
    replace e3 : x3 = η 0 9 := e3
    replace r3 : -2147483648 ≤ x3 ∧ x3 ≤ 2147483647 := r3
    have fr1_0 : ∀ j, η 1 j = η 1 j := fun _ => rfl
    have fr2 : ∀ j, η 2 j = η 2 j := fun _ => rfl
    have w0_0_7 : (0 : Int) ≤ η 0 7 ∧ η 0 7 ≤ 700 := wf_ok (a := 7) (b := 7) (z := (0, 700)) hp.1 (by decide +kernel) (Nat.le_refl _) (Nat.le_refl _)
    have f0_7 : η 0 7 = η 0 7 := rfl
    have w0_0_6 : (0 : Int) ≤ η 0 6 ∧ η 0 6 ≤ 700 := wf_ok (a := 6) (b := 6) (z := (0, 700)) hp.1 (by decide +kernel) (Nat.le_refl _) (Nat.le_refl _)
    have f0_6 : η 0 6 = η 0 6 := rfl
    have f0_8 : η 0 8 = η 0 8 := rfl
    have f0_9 : η 0 9 = η 0 9 := rfl
    exact ⟨hpp, fun w => by first | exact absurd rfl w | omega⟩
  · have e2 : x2 = η 0 8 := e2
    clear r2
    have e3 : x3 = η 0 9 := e3
    clear r3
    show 1 = (yq_isS x1 η) ∧ η = η
    subst e2
    subst e3
    refine ⟨?_, rfl⟩
    unfold yq_isS
    split <;> first | (exfalso; omega) | rfl
set_option maxHeartbeats 8000000 in
theorem zke_isSign {ro : Nat → List Int32} : zMet pr_P pr_K pr_df ro (sm_X0 1 6) 0 126 tm_ke [(.inr (.inr (.inl (nat_lit 0)))), (.inl (nat_lit 1, (.ofNat (nat_lit 0))))] 2 [(nat_lit 0, nat_lit 0, nat_lit 1), (nat_lit 0, nat_lit 3, nat_lit 2), (nat_lit 0, nat_lit 20, nat_lit 3), (nat_lit 0, nat_lit 21, nat_lit 4), (nat_lit 0, nat_lit 22, nat_lit 5), (nat_lit 0, nat_lit 23, nat_lit 6), (nat_lit 0, nat_lit 24, nat_lit 7), (nat_lit 0, nat_lit 25, nat_lit 8), (nat_lit 0, nat_lit 26, nat_lit 9), (nat_lit 0, nat_lit 27, nat_lit 10), (nat_lit 0, nat_lit 28, nat_lit 11), (nat_lit 0, nat_lit 29, nat_lit 12), (nat_lit 0, nat_lit 30, nat_lit 13), (nat_lit 0, nat_lit 31, nat_lit 14), (nat_lit 0, nat_lit 32, nat_lit 15), (nat_lit 0, nat_lit 33, nat_lit 16), (nat_lit 0, nat_lit 34, nat_lit 17), (nat_lit 0, nat_lit 35, nat_lit 18), (nat_lit 0, nat_lit 36, nat_lit 19), (nat_lit 0, nat_lit 37, nat_lit 20), (nat_lit 0, nat_lit 38, nat_lit 21), (nat_lit 0, nat_lit 39, nat_lit 22), (nat_lit 0, nat_lit 40, nat_lit 23), (nat_lit 0, nat_lit 47, nat_lit 24), (nat_lit 0, nat_lit 48, nat_lit 25), (nat_lit 0, nat_lit 50, nat_lit 26), (nat_lit 0, nat_lit 51, nat_lit 27), (nat_lit 0, nat_lit 52, nat_lit 28), (nat_lit 0, nat_lit 53, nat_lit 29), (nat_lit 0, nat_lit 54, nat_lit 30), (nat_lit 0, nat_lit 55, nat_lit 31), (nat_lit 0, nat_lit 56, nat_lit 32), (nat_lit 0, nat_lit 57, nat_lit 33), (nat_lit 0, nat_lit 58, nat_lit 34), (nat_lit 0, nat_lit 59, nat_lit 35), (nat_lit 0, nat_lit 72, nat_lit 36), (nat_lit 0, nat_lit 73, nat_lit 37), (nat_lit 0, nat_lit 76, nat_lit 38), (nat_lit 0, nat_lit 77, nat_lit 39), (nat_lit 0, nat_lit 79, nat_lit 40), (nat_lit 0, nat_lit 81, nat_lit 41), (nat_lit 0, nat_lit 82, nat_lit 42)] [] (fun xs η => sP wl_ke zTr zPke_isSign xs η ∧ pPke_isSign xs η) (fun xs η y η' => sQ wl_ke zTr zOke_isSign zMke_isSign xs η y η' ∧ pQke_isSign xs η y η') :=
  zmet_alt (zmea_gen (mi := (nat_lit 1, nat_lit 1, nat_lit 8, nat_lit 2, nat_lit 2, tX8_isSign)) (cd := []) (cu := []) (cs := []) (iv := zVke_isSign) (po := [zOke_isSign]) (pr := zPke_isSign) (mods := zMke_isSign) (D7 := zDke_isSign) (D0 := zEke_isSign) (Dm := zFke_isSign) (f0 := 15) pCke_isSign qCke_isSign iCke_isSign pPke_isSign (fun xs η _ y η' => pQke_isSign xs η y η') zX_low pr_mtR rfl (fun _ h => nomatch h) (by decide +kernel) (by decide +kernel) (by decide +kernel)
    (by
      intro xs η hr hl hp hpp
      match xs, hl, hp, hpp with
      | [x1], _, hp, hpp =>
        refine List.forall_mem_cons.mpr ⟨?_, List.forall_mem_cons.mpr ⟨?_, List.forall_mem_cons.mpr ⟨?_, fun _ h => nomatch h⟩⟩⟩
        · refine zden_L (n := 2) (ρ := [x1, 0]) rfl ?_
          exact zke_isSign_o0 (ro := ro) x1 η hp hpp
        · refine zden_L (n := 2) (ρ := [x1, 0]) rfl ?_
          exact zke_isSign_o1 (ro := ro) x1 η hp hpp
        · refine zden_L (n := 2) (ρ := [x1, 0]) rfl ?_
          exact zke_isSign_o2 (ro := ro) x1 η hp hpp
      )
    (fun _ _ _ _ _ _ _ h => nomatch h)
    (fun _ h => nomatch h))
def zPke_nameMet : zPq := ([], [])
def zOke_nameMet : zPo := (((.negSucc (nat_lit 0)), (.ofNat (nat_lit 6))), [], [])
def zMke_nameMet : List zCe := []
def pPke_nameMet : List Int → zE → Prop := (fun _ η => G_ke η)
def oQke_nameMet : List Int → zE → Int → zE → Prop := fun _ η y η' => G_k η' ∧ (0 ≤ y → η 0 8 = 1)
def fQke_nameMet : List Int → zE → Int → zE → Prop := fun xs η y η' => y = (yq_nm η) ∧ η' = η
def pQke_nameMet : List Int → zE → Int → zE → Prop := fun xs η y η' => oQke_nameMet xs η y η' ∧ fQke_nameMet xs η y η'
def pCke_nameMet : Nat → List Int → zE → Prop := fun c => match c with
  | _ => fun _ _ => True
def qCke_nameMet : Nat → List Int → zE → Int → zE → Prop := fun c => match c with
  | _ => fun _ _ _ _ => True
def iCke_nameMet : List Int → zE → Nat → List Int → zE → Prop := fun xs η0 c => match c with
  | _ => fun _ _ => True
def zVke_nameMet : List zIv := []
def zDke_nameMet : List (List zK) := []
def zEke_nameMet : List (List zK) := [[(nat_lit 11, nat_lit 0, [(nat_lit 0, (.negSucc (nat_lit 0)))]), (nat_lit 6, nat_lit 1, [(nat_lit 1, (.ofNat (nat_lit 0))), (nat_lit 0, (.ofNat (nat_lit 1)))]), (nat_lit 4, nat_lit 0, [(nat_lit 0, (.ofNat (nat_lit 0))), (nat_lit 0, (.ofNat (nat_lit 8)))])],
  [(nat_lit 11, nat_lit 0, [(nat_lit 0, (.negSucc (nat_lit 0)))]), (nat_lit 6, nat_lit 2, [(nat_lit 2, (.ofNat (nat_lit 0))), (nat_lit 0, (.ofNat (nat_lit 13)))]), (nat_lit 4, nat_lit 0, [(nat_lit 0, (.ofNat (nat_lit 0))), (nat_lit 0, (.ofNat (nat_lit 9)))]), (nat_lit 6, nat_lit 0, [(nat_lit 1, (.ofNat (nat_lit 0))), (nat_lit 0, (.ofNat (nat_lit 1)))]), (nat_lit 4, nat_lit 0, [(nat_lit 0, (.ofNat (nat_lit 0))), (nat_lit 0, (.ofNat (nat_lit 8)))])]]
def zFke_nameMet : List (List zK) := [[(nat_lit 11, nat_lit 0, [(nat_lit 4, (.ofNat (nat_lit 0)))]), (nat_lit 0, nat_lit 2, [(nat_lit 3, (.ofNat (nat_lit 0))), (nat_lit 0, (.ofNat (nat_lit 13)))]), (nat_lit 4, nat_lit 0, [(nat_lit 0, (.ofNat (nat_lit 0))), (nat_lit 0, (.ofNat (nat_lit 9)))]), (nat_lit 6, nat_lit 3, [(nat_lit 2, (.ofNat (nat_lit 0))), (nat_lit 0, (.ofNat (nat_lit 13)))]), (nat_lit 4, nat_lit 0, [(nat_lit 0, (.ofNat (nat_lit 0))), (nat_lit 0, (.ofNat (nat_lit 9)))]), (nat_lit 6, nat_lit 0, [(nat_lit 1, (.ofNat (nat_lit 0))), (nat_lit 0, (.ofNat (nat_lit 1)))]), (nat_lit 4, nat_lit 0, [(nat_lit 0, (.ofNat (nat_lit 0))), (nat_lit 0, (.ofNat (nat_lit 8)))])]]
set_option maxHeartbeats 8000000 in
theorem zke_nameMet_o0 {ro : Nat → List Int32} (η : zE) (hp : sP wl_ke zTr zPke_nameMet [] η) (hpp : pPke_nameMet [] η) : ∀ x1 : Int, x1 = η 0 (Int.toNat 8) → zok 0 x1 → (¬ x1 = 1) → (fun (_ : Nat) (y : Int) (η' : zE) => pQke_nameMet [] η y η') 0 (-1) η := by
  intro x1 e1 r1 c1
  refine yj_a ?_ ?_
  · have w0_0_8 : (0 : Int) ≤ η 0 8 ∧ η 0 8 ≤ 6 := wf_ok (a := 8) (b := 8) (z := (0, 6)) hp.1 (by decide +kernel) (Nat.le_refl _) (Nat.le_refl _)
    replace e1 : x1 = η 0 8 := e1
    replace r1 : -2147483648 ≤ x1 ∧ x1 ≤ 2147483647 := r1
    have fr1_0 : ∀ j, η 1 j = η 1 j := fun _ => rfl
    have fr2 : ∀ j, η 2 j = η 2 j := fun _ => rfl
    have w0_0_7 : (0 : Int) ≤ η 0 7 ∧ η 0 7 ≤ 700 := wf_ok (a := 7) (b := 7) (z := (0, 700)) hp.1 (by decide +kernel) (Nat.le_refl _) (Nat.le_refl _)
    have f0_7 : η 0 7 = η 0 7 := rfl
    have w0_0_6 : (0 : Int) ≤ η 0 6 ∧ η 0 6 ≤ 700 := wf_ok (a := 6) (b := 6) (z := (0, 700)) hp.1 (by decide +kernel) (Nat.le_refl _) (Nat.le_refl _)
    have f0_6 : η 0 6 = η 0 6 := rfl
    have f0_8 : η 0 8 = η 0 8 := rfl
    have f0_9 : η 0 9 = η 0 9 := rfl
    exact ⟨hpp, fun w => by first | exact absurd w (by decide) | omega⟩
  · have e1 : x1 = η 0 8 := e1
    clear r1
    show (-1) = (yq_nm η) ∧ η = η
    subst e1
    refine ⟨?_, rfl⟩
    unfold yq_nm
    split <;> first | (exfalso; omega) | rfl
set_option maxHeartbeats 8000000 in
theorem zke_nameMet_o1 {ro : Nat → List Int32} (η : zE) (hp : sP wl_ke zTr zPke_nameMet [] η) (hpp : pPke_nameMet [] η) : ∀ x1 : Int, x1 = η 0 (Int.toNat 8) → zok 0 x1 → (x1 = 1) → ∀ x2 : Int, x2 = η 0 (Int.toNat 9) → zok 0 x2 → (x2 < 13) → (fun (_ : Nat) (y : Int) (η' : zE) => pQke_nameMet [] η y η') 0 (-1) η := by
  intro x1 e1 r1 c1 x2 e2 r2 c2
  refine yj_a ?_ ?_
  · have w0_0_8 : (0 : Int) ≤ η 0 8 ∧ η 0 8 ≤ 6 := wf_ok (a := 8) (b := 8) (z := (0, 6)) hp.1 (by decide +kernel) (Nat.le_refl _) (Nat.le_refl _)
    replace e1 : x1 = η 0 8 := e1
    replace r1 : -2147483648 ≤ x1 ∧ x1 ≤ 2147483647 := r1
    replace e2 : x2 = η 0 9 := e2
    replace r2 : -2147483648 ≤ x2 ∧ x2 ≤ 2147483647 := r2
    have fr1_0 : ∀ j, η 1 j = η 1 j := fun _ => rfl
    have fr2 : ∀ j, η 2 j = η 2 j := fun _ => rfl
    have w0_0_7 : (0 : Int) ≤ η 0 7 ∧ η 0 7 ≤ 700 := wf_ok (a := 7) (b := 7) (z := (0, 700)) hp.1 (by decide +kernel) (Nat.le_refl _) (Nat.le_refl _)
    have f0_7 : η 0 7 = η 0 7 := rfl
    have w0_0_6 : (0 : Int) ≤ η 0 6 ∧ η 0 6 ≤ 700 := wf_ok (a := 6) (b := 6) (z := (0, 700)) hp.1 (by decide +kernel) (Nat.le_refl _) (Nat.le_refl _)
    have f0_6 : η 0 6 = η 0 6 := rfl
    have f0_8 : η 0 8 = η 0 8 := rfl
    have f0_9 : η 0 9 = η 0 9 := rfl
    exact ⟨hpp, fun w => by first | exact absurd w (by decide) | omega⟩
  · have e1 : x1 = η 0 8 := e1
    clear r1
    have e2 : x2 = η 0 9 := e2
    clear r2
    show (-1) = (yq_nm η) ∧ η = η
    subst e1
    subst e2
    refine ⟨?_, rfl⟩
    unfold yq_nm
    split <;> first | (exfalso; omega) | rfl
set_option maxHeartbeats 8000000 in
theorem zke_nameMet_o2 {ro : Nat → List Int32} (η : zE) (hp : sP wl_ke zTr zPke_nameMet [] η) (hpp : pPke_nameMet [] η) : ∀ x1 : Int, x1 = η 0 (Int.toNat 8) → zok 0 x1 → (x1 = 1) → ∀ x2 : Int, x2 = η 0 (Int.toNat 9) → zok 0 x2 → (13 ≤ x2) → ∀ x3 : Int, x3 = η 0 (Int.toNat 9) → zok 0 x3 → ∀ x4 : Int, x4 = zd 0 2 x3 13 → (fun j y η1 => zsQ wl_ke zTr [zOke_nameMet] zMke_nameMet [] η j y η1 ∧ pQke_nameMet [] η y η1) 0 x4 η := by
  intro x1 e1 r1 c1 x2 e2 r2 c2 x3 e3 r3 x4 e4
  refine yj_b ?_ ?_
  · replace e4 := zEq_i e4
    have w0_0_8 : (0 : Int) ≤ η 0 8 ∧ η 0 8 ≤ 6 := wf_ok (a := 8) (b := 8) (z := (0, 6)) hp.1 (by decide +kernel) (Nat.le_refl _) (Nat.le_refl _)
    replace e1 : x1 = η 0 8 := e1
    replace r1 : -2147483648 ≤ x1 ∧ x1 ≤ 2147483647 := r1
    replace e2 : x2 = η 0 9 := e2
    replace r2 : -2147483648 ≤ x2 ∧ x2 ≤ 2147483647 := r2
    replace e3 : x3 = η 0 9 := e3
    replace r3 : -2147483648 ≤ x3 ∧ x3 ≤ 2147483647 := r3
    first
    | replace e4 : x4 = x3 - 13 := zd_s2 (zEq_o e4) (by clear e4; exact ⟨by omega, by omega⟩)
    | clear e4
    have fr1_0 : ∀ j, η 1 j = η 1 j := fun _ => rfl
    have fr2 : ∀ j, η 2 j = η 2 j := fun _ => rfl
    have w0_0_7 : (0 : Int) ≤ η 0 7 ∧ η 0 7 ≤ 700 := wf_ok (a := 7) (b := 7) (z := (0, 700)) hp.1 (by decide +kernel) (Nat.le_refl _) (Nat.le_refl _)
    have f0_7 : η 0 7 = η 0 7 := rfl
    have w0_0_6 : (0 : Int) ≤ η 0 6 ∧ η 0 6 ≤ 700 := wf_ok (a := 6) (b := 6) (z := (0, 700)) hp.1 (by decide +kernel) (Nat.le_refl _) (Nat.le_refl _)
    have f0_6 : η 0 6 = η 0 6 := rfl
    have f0_8 : η 0 8 = η 0 8 := rfl
    have f0_9 : η 0 9 = η 0 9 := rfl
    have q : -1 ≤ η 0 9 ∧ η 0 9 ≤ 19 := hpp.2.1.1 (by omega)
    exact ⟨⟨hp.1, ⟨show (-1 : Int) ≤ x4 by omega, show x4 ≤ 6 by omega⟩, (fun f hf => nomatch hf), zFm_rf, fun _ _ w => nomatch w⟩, hpp, fun _ => by omega⟩
  · have e1 : x1 = η 0 8 := e1
    clear r1
    have e2 : x2 = η 0 9 := e2
    clear r2
    have e3 : x3 = η 0 9 := e3
    clear r3
    show x4 = (yq_nm η) ∧ η = η
    subst e1
    subst e2
    subst e3
    subst e4
    refine ⟨?_, rfl⟩
    unfold yq_nm
    split <;> first | (exfalso; omega) | rfl
set_option maxHeartbeats 8000000 in
theorem zke_nameMet {ro : Nat → List Int32} : zMet pr_P pr_K pr_df ro (sm_X0 1 6) 0 146 tm_ke [(.inr (.inr (.inl (nat_lit 0))))] 1 [(nat_lit 0, nat_lit 0, nat_lit 1), (nat_lit 0, nat_lit 3, nat_lit 2), (nat_lit 0, nat_lit 20, nat_lit 3), (nat_lit 0, nat_lit 21, nat_lit 4), (nat_lit 0, nat_lit 22, nat_lit 5), (nat_lit 0, nat_lit 23, nat_lit 6), (nat_lit 0, nat_lit 24, nat_lit 7), (nat_lit 0, nat_lit 25, nat_lit 8), (nat_lit 0, nat_lit 26, nat_lit 9), (nat_lit 0, nat_lit 27, nat_lit 10), (nat_lit 0, nat_lit 28, nat_lit 11), (nat_lit 0, nat_lit 29, nat_lit 12), (nat_lit 0, nat_lit 30, nat_lit 13), (nat_lit 0, nat_lit 31, nat_lit 14), (nat_lit 0, nat_lit 32, nat_lit 15), (nat_lit 0, nat_lit 33, nat_lit 16), (nat_lit 0, nat_lit 34, nat_lit 17), (nat_lit 0, nat_lit 35, nat_lit 18), (nat_lit 0, nat_lit 36, nat_lit 19), (nat_lit 0, nat_lit 37, nat_lit 20), (nat_lit 0, nat_lit 38, nat_lit 21), (nat_lit 0, nat_lit 39, nat_lit 22), (nat_lit 0, nat_lit 40, nat_lit 23), (nat_lit 0, nat_lit 47, nat_lit 24), (nat_lit 0, nat_lit 48, nat_lit 25), (nat_lit 0, nat_lit 50, nat_lit 26), (nat_lit 0, nat_lit 51, nat_lit 27), (nat_lit 0, nat_lit 52, nat_lit 28), (nat_lit 0, nat_lit 53, nat_lit 29), (nat_lit 0, nat_lit 54, nat_lit 30), (nat_lit 0, nat_lit 55, nat_lit 31), (nat_lit 0, nat_lit 56, nat_lit 32), (nat_lit 0, nat_lit 57, nat_lit 33), (nat_lit 0, nat_lit 58, nat_lit 34), (nat_lit 0, nat_lit 59, nat_lit 35), (nat_lit 0, nat_lit 72, nat_lit 36), (nat_lit 0, nat_lit 73, nat_lit 37), (nat_lit 0, nat_lit 76, nat_lit 38), (nat_lit 0, nat_lit 77, nat_lit 39), (nat_lit 0, nat_lit 79, nat_lit 40), (nat_lit 0, nat_lit 81, nat_lit 41), (nat_lit 0, nat_lit 82, nat_lit 42)] [] (fun xs η => sP wl_ke zTr zPke_nameMet xs η ∧ pPke_nameMet xs η) (fun xs η y η' => sQ wl_ke zTr zOke_nameMet zMke_nameMet xs η y η' ∧ pQke_nameMet xs η y η') :=
  zmet_alt (zmea_gen (mi := (nat_lit 0, nat_lit 1, nat_lit 8, nat_lit 1, nat_lit 1, tX8_nameMet)) (cd := []) (cu := []) (cs := []) (iv := zVke_nameMet) (po := [zOke_nameMet]) (pr := zPke_nameMet) (mods := zMke_nameMet) (D7 := zDke_nameMet) (D0 := zEke_nameMet) (Dm := zFke_nameMet) (f0 := 18) pCke_nameMet qCke_nameMet iCke_nameMet pPke_nameMet (fun xs η _ y η' => pQke_nameMet xs η y η') zX_low pr_mtR rfl (fun _ h => nomatch h) (by decide +kernel) (by decide +kernel) (by decide +kernel)
    (by
      intro xs η hr hl hp hpp
      match xs, hl, hp, hpp with
      | [], _, hp, hpp =>
        refine List.forall_mem_cons.mpr ⟨?_, List.forall_mem_cons.mpr ⟨?_, fun _ h => nomatch h⟩⟩
        · refine zden_L (n := 1) (ρ := [0]) rfl ?_
          exact zke_nameMet_o0 (ro := ro)  η hp hpp
        · refine zden_L (n := 1) (ρ := [0]) rfl ?_
          exact zke_nameMet_o1 (ro := ro)  η hp hpp
      )
    (by
      intro xs η hr hl hp hpp
      match xs, hl, hp, hpp with
      | [], _, hp, hpp =>
        refine List.forall_mem_cons.mpr ⟨?_, fun _ h => nomatch h⟩
        · refine zden_L (n := 1) (ρ := [0]) rfl ?_
          exact zke_nameMet_o2 (ro := ro)  η hp hpp
      )
    (fun _ h => nomatch h))
def zPke_number : zPq := ([((.negSucc (nat_lit 2147483647)), (.ofNat (nat_lit 2147483647))), ((.negSucc (nat_lit 2147483647)), (.ofNat (nat_lit 2147483647)))], [])
def zOke_number : zPo := (((.ofNat (nat_lit 0)), (.ofNat (nat_lit 1))), [], [])
def zMke_number : List zCe := [(nat_lit 0, nat_lit 8), (nat_lit 0, nat_lit 9), (nat_lit 0, nat_lit 10), (nat_lit 0, nat_lit 11), (nat_lit 0, nat_lit 5), (nat_lit 0, nat_lit 6), (nat_lit 0, nat_lit 12)]
def pPke_number : List Int → zE → Prop := (fun _ η => G_ke η)
def oQke_number : List Int → zE → Int → zE → Prop := fun _ η y η' => G_k η' ∧ (¬ y = 0 → 10 * (η' 0 6 - η' 0 7) + η' 0 8 < 10 * (η 0 6 - η 0 7) + η 0 8)
def fQke_number : List Int → zE → Int → zE → Prop := fun xs η y η' => y = (yq_ny (xs.getD 0 0) (xs.getD 1 0) η) ∧ η' = (yq_ns (xs.getD 0 0) (xs.getD 1 0) η)
def pQke_number : List Int → zE → Int → zE → Prop := fun xs η y η' => oQke_number xs η y η' ∧ fQke_number xs η y η'
def pCke_number : Nat → List Int → zE → Prop := fun c => match c with
  | 0 => pPke_wrong
  | 1 => pPke_isIn
  | 2 => pPke_token
  | _ => fun _ _ => True
def qCke_number : Nat → List Int → zE → Int → zE → Prop := fun c => match c with
  | 0 => pQke_wrong
  | 1 => pQke_isIn
  | 2 => pQke_token
  | _ => fun _ _ _ _ => True
def iCke_number : List Int → zE → Nat → List Int → zE → Prop := fun xs η0 c => match c with
  | _ => fun _ _ => True
def zVke_number : List zIv := []
def zDke_number : List (List zK) := [[(nat_lit 7, nat_lit 2, [(nat_lit 0, (.ofNat (nat_lit 1)))]), (nat_lit 8, nat_lit 2, []), (nat_lit 5, nat_lit 0, [(nat_lit 0, (.ofNat (nat_lit 0))), (nat_lit 0, (.ofNat (nat_lit 11))), (nat_lit 6, (.ofNat (nat_lit 0)))]), (nat_lit 4, nat_lit 0, [(nat_lit 0, (.ofNat (nat_lit 0))), (nat_lit 0, (.ofNat (nat_lit 9)))]), (nat_lit 6, nat_lit 1, [(nat_lit 5, (.ofNat (nat_lit 0))), (nat_lit 0, (.ofNat (nat_lit 0)))]), (nat_lit 8, nat_lit 1, [(nat_lit 4, (.ofNat (nat_lit 0))), (nat_lit 1, (.ofNat (nat_lit 0))), (nat_lit 2, (.ofNat (nat_lit 0)))]), (nat_lit 4, nat_lit 0, [(nat_lit 0, (.ofNat (nat_lit 0))), (nat_lit 0, (.ofNat (nat_lit 9)))]), (nat_lit 6, nat_lit 0, [(nat_lit 3, (.ofNat (nat_lit 0))), (nat_lit 0, (.ofNat (nat_lit 3)))]), (nat_lit 4, nat_lit 0, [(nat_lit 0, (.ofNat (nat_lit 0))), (nat_lit 0, (.ofNat (nat_lit 8)))])],
  [(nat_lit 7, nat_lit 2, [(nat_lit 6, (.ofNat (nat_lit 0)))]), (nat_lit 8, nat_lit 0, [(nat_lit 0, (.ofNat (nat_lit 2)))]), (nat_lit 6, nat_lit 0, [(nat_lit 5, (.ofNat (nat_lit 0))), (nat_lit 0, (.ofNat (nat_lit 0)))]), (nat_lit 8, nat_lit 1, [(nat_lit 4, (.ofNat (nat_lit 0))), (nat_lit 1, (.ofNat (nat_lit 0))), (nat_lit 2, (.ofNat (nat_lit 0)))]), (nat_lit 4, nat_lit 0, [(nat_lit 0, (.ofNat (nat_lit 0))), (nat_lit 0, (.ofNat (nat_lit 9)))]), (nat_lit 6, nat_lit 0, [(nat_lit 3, (.ofNat (nat_lit 0))), (nat_lit 0, (.ofNat (nat_lit 3)))]), (nat_lit 4, nat_lit 0, [(nat_lit 0, (.ofNat (nat_lit 0))), (nat_lit 0, (.ofNat (nat_lit 8)))])],
  [(nat_lit 7, nat_lit 2, [(nat_lit 4, (.ofNat (nat_lit 0)))]), (nat_lit 8, nat_lit 0, [(nat_lit 0, (.ofNat (nat_lit 1)))]), (nat_lit 6, nat_lit 1, [(nat_lit 3, (.ofNat (nat_lit 0))), (nat_lit 0, (.ofNat (nat_lit 3)))]), (nat_lit 4, nat_lit 0, [(nat_lit 0, (.ofNat (nat_lit 0))), (nat_lit 0, (.ofNat (nat_lit 8)))])]]
def zEke_number : List (List zK) := [[(nat_lit 13, nat_lit 1, [(nat_lit 4, (.ofNat (nat_lit 0))), (nat_lit 1, (.ofNat (nat_lit 0))), (nat_lit 2, (.ofNat (nat_lit 0)))]), (nat_lit 4, nat_lit 0, [(nat_lit 0, (.ofNat (nat_lit 0))), (nat_lit 0, (.ofNat (nat_lit 9)))]), (nat_lit 6, nat_lit 0, [(nat_lit 3, (.ofNat (nat_lit 0))), (nat_lit 0, (.ofNat (nat_lit 3)))]), (nat_lit 4, nat_lit 0, [(nat_lit 0, (.ofNat (nat_lit 0))), (nat_lit 0, (.ofNat (nat_lit 8)))])],
  [(nat_lit 13, nat_lit 2, []), (nat_lit 5, nat_lit 0, [(nat_lit 0, (.ofNat (nat_lit 0))), (nat_lit 0, (.ofNat (nat_lit 11))), (nat_lit 6, (.ofNat (nat_lit 0)))]), (nat_lit 4, nat_lit 0, [(nat_lit 0, (.ofNat (nat_lit 0))), (nat_lit 0, (.ofNat (nat_lit 9)))]), (nat_lit 6, nat_lit 1, [(nat_lit 5, (.ofNat (nat_lit 0))), (nat_lit 0, (.ofNat (nat_lit 0)))]), (nat_lit 8, nat_lit 1, [(nat_lit 4, (.ofNat (nat_lit 0))), (nat_lit 1, (.ofNat (nat_lit 0))), (nat_lit 2, (.ofNat (nat_lit 0)))]), (nat_lit 4, nat_lit 0, [(nat_lit 0, (.ofNat (nat_lit 0))), (nat_lit 0, (.ofNat (nat_lit 9)))]), (nat_lit 6, nat_lit 0, [(nat_lit 3, (.ofNat (nat_lit 0))), (nat_lit 0, (.ofNat (nat_lit 3)))]), (nat_lit 4, nat_lit 0, [(nat_lit 0, (.ofNat (nat_lit 0))), (nat_lit 0, (.ofNat (nat_lit 8)))])],
  [(nat_lit 11, nat_lit 0, [(nat_lit 0, (.ofNat (nat_lit 1)))]), (nat_lit 8, nat_lit 2, []), (nat_lit 5, nat_lit 0, [(nat_lit 0, (.ofNat (nat_lit 0))), (nat_lit 0, (.ofNat (nat_lit 11))), (nat_lit 6, (.ofNat (nat_lit 0)))]), (nat_lit 4, nat_lit 0, [(nat_lit 0, (.ofNat (nat_lit 0))), (nat_lit 0, (.ofNat (nat_lit 9)))]), (nat_lit 6, nat_lit 1, [(nat_lit 5, (.ofNat (nat_lit 0))), (nat_lit 0, (.ofNat (nat_lit 0)))]), (nat_lit 8, nat_lit 1, [(nat_lit 4, (.ofNat (nat_lit 0))), (nat_lit 1, (.ofNat (nat_lit 0))), (nat_lit 2, (.ofNat (nat_lit 0)))]), (nat_lit 4, nat_lit 0, [(nat_lit 0, (.ofNat (nat_lit 0))), (nat_lit 0, (.ofNat (nat_lit 9)))]), (nat_lit 6, nat_lit 0, [(nat_lit 3, (.ofNat (nat_lit 0))), (nat_lit 0, (.ofNat (nat_lit 3)))]), (nat_lit 4, nat_lit 0, [(nat_lit 0, (.ofNat (nat_lit 0))), (nat_lit 0, (.ofNat (nat_lit 8)))])],
  [(nat_lit 13, nat_lit 0, [(nat_lit 0, (.ofNat (nat_lit 2)))]), (nat_lit 6, nat_lit 0, [(nat_lit 5, (.ofNat (nat_lit 0))), (nat_lit 0, (.ofNat (nat_lit 0)))]), (nat_lit 8, nat_lit 1, [(nat_lit 4, (.ofNat (nat_lit 0))), (nat_lit 1, (.ofNat (nat_lit 0))), (nat_lit 2, (.ofNat (nat_lit 0)))]), (nat_lit 4, nat_lit 0, [(nat_lit 0, (.ofNat (nat_lit 0))), (nat_lit 0, (.ofNat (nat_lit 9)))]), (nat_lit 6, nat_lit 0, [(nat_lit 3, (.ofNat (nat_lit 0))), (nat_lit 0, (.ofNat (nat_lit 3)))]), (nat_lit 4, nat_lit 0, [(nat_lit 0, (.ofNat (nat_lit 0))), (nat_lit 0, (.ofNat (nat_lit 8)))])],
  [(nat_lit 11, nat_lit 0, [(nat_lit 6, (.ofNat (nat_lit 0)))]), (nat_lit 8, nat_lit 0, [(nat_lit 0, (.ofNat (nat_lit 2)))]), (nat_lit 6, nat_lit 0, [(nat_lit 5, (.ofNat (nat_lit 0))), (nat_lit 0, (.ofNat (nat_lit 0)))]), (nat_lit 8, nat_lit 1, [(nat_lit 4, (.ofNat (nat_lit 0))), (nat_lit 1, (.ofNat (nat_lit 0))), (nat_lit 2, (.ofNat (nat_lit 0)))]), (nat_lit 4, nat_lit 0, [(nat_lit 0, (.ofNat (nat_lit 0))), (nat_lit 0, (.ofNat (nat_lit 9)))]), (nat_lit 6, nat_lit 0, [(nat_lit 3, (.ofNat (nat_lit 0))), (nat_lit 0, (.ofNat (nat_lit 3)))]), (nat_lit 4, nat_lit 0, [(nat_lit 0, (.ofNat (nat_lit 0))), (nat_lit 0, (.ofNat (nat_lit 8)))])],
  [(nat_lit 13, nat_lit 0, [(nat_lit 0, (.ofNat (nat_lit 1)))]), (nat_lit 6, nat_lit 1, [(nat_lit 3, (.ofNat (nat_lit 0))), (nat_lit 0, (.ofNat (nat_lit 3)))]), (nat_lit 4, nat_lit 0, [(nat_lit 0, (.ofNat (nat_lit 0))), (nat_lit 0, (.ofNat (nat_lit 8)))])],
  [(nat_lit 11, nat_lit 0, [(nat_lit 4, (.ofNat (nat_lit 0)))]), (nat_lit 8, nat_lit 0, [(nat_lit 0, (.ofNat (nat_lit 1)))]), (nat_lit 6, nat_lit 1, [(nat_lit 3, (.ofNat (nat_lit 0))), (nat_lit 0, (.ofNat (nat_lit 3)))]), (nat_lit 4, nat_lit 0, [(nat_lit 0, (.ofNat (nat_lit 0))), (nat_lit 0, (.ofNat (nat_lit 8)))])]]
def zFke_number : List (List zK) := []
set_option maxHeartbeats 8000000 in
theorem zke_number_o0 {ro : Nat → List Int32} (x1 x2 : Int) (η : zE) (hp : sP wl_ke zTr zPke_number [x1, x2] η) (hpp : pPke_number [x1, x2] η) : ∀ x3 : Int, x3 = η 0 (Int.toNat 8) → zok 0 x3 → (x3 = 3) → ∀ x4 : Int, x4 = η 0 (Int.toNat 9) → zok 0 x4 → ∀ (x5 : Int) (η1 : zE), ((gC2 wl_ke [(nat_lit 0, zPke_wrong, zOke_wrong, zMke_wrong), (nat_lit 1, zPke_isIn, zOke_isIn, zMke_isIn), (nat_lit 2, zPke_token, zOke_token, zMke_token)] pCke_number qCke_number) 1).2 [x4, x1, x2] η x5 η1 → (¬ x5 = 0) → ∀ x6 : Int, x6 = η1 0 (Int.toNat 9) → zok 0 x6 → ∀ η2 : zE, η2 = zup η1 0 (Int.toNat 11) x6 → ((gC2 wl_ke [(nat_lit 0, zPke_wrong, zOke_wrong, zMke_wrong), (nat_lit 1, zPke_isIn, zOke_isIn, zMke_isIn), (nat_lit 2, zPke_token, zOke_token, zMke_token)] pCke_number qCke_number) 2).1 [] η2 := by
  intro x3 e3 r3 c1 x4 e4 r4 x5 η1 h5 c2 x6 e6 r6 η2 eη2
  have y5 : fQke_isIn [x4, x1, x2] η x5 η1 := h5.2.2
  have k5 : sQ wl_ke zTr zOke_isIn zMke_isIn [x4, x1, x2] η x5 η1 ∧ oQke_isIn [x4, x1, x2] η x5 η1 := ⟨h5.1, h5.2.1⟩
  have g1 : G_ke η2 := by rw [eη2]; exact zGk_upc gk_ke k5.2 (by decide +kernel)
  exact g1
set_option maxHeartbeats 8000000 in
theorem zke_number_o1 {ro : Nat → List Int32} (x1 x2 : Int) (η : zE) (hp : sP wl_ke zTr zPke_number [x1, x2] η) (hpp : pPke_number [x1, x2] η) : ∀ x3 : Int, x3 = η 0 (Int.toNat 8) → zok 0 x3 → (x3 = 3) → ∀ x4 : Int, x4 = η 0 (Int.toNat 9) → zok 0 x4 → ∀ (x5 : Int) (η1 : zE), ((gC2 wl_ke [(nat_lit 0, zPke_wrong, zOke_wrong, zMke_wrong), (nat_lit 1, zPke_isIn, zOke_isIn, zMke_isIn), (nat_lit 2, zPke_token, zOke_token, zMke_token)] pCke_number qCke_number) 1).2 [x4, x1, x2] η x5 η1 → (¬ x5 = 0) → ∀ x6 : Int, x6 = η1 0 (Int.toNat 9) → zok 0 x6 → ∀ η2 : zE, η2 = zup η1 0 (Int.toNat 11) x6 → ∀ (x7 : Int) (η3 : zE), ((gC2 wl_ke [(nat_lit 0, zPke_wrong, zOke_wrong, zMke_wrong), (nat_lit 1, zPke_isIn, zOke_isIn, zMke_isIn), (nat_lit 2, zPke_token, zOke_token, zMke_token)] pCke_number qCke_number) 2).2 [] η2 x7 η3 → (fun (_ : Nat) (y : Int) (η' : zE) => pQke_number [x1, x2] η y η') 0 1 η3 := by
  intro x3 e3 r3 c1 x4 e4 r4 x5 η1 h5 c2 x6 e6 r6 η2 eη2 x7 η3 h7
  have y5 : fQke_isIn [x4, x1, x2] η x5 η1 := h5.2.2
  have k5 : sQ wl_ke zTr zOke_isIn zMke_isIn [x4, x1, x2] η x5 η1 ∧ oQke_isIn [x4, x1, x2] η x5 η1 := ⟨h5.1, h5.2.1⟩
  have y7 : fQke_token [] η2 x7 η3 := h7.2.2
  have k7 : sQ wl_ke zTr zOke_token zMke_token [] η2 x7 η3 ∧ oQke_token [] η2 x7 η3 := ⟨h7.1, h7.2.1⟩
  refine yj_a ?_ ?_
  · have y5 : fQke_isIn [x4, x1, x2] η x5 η1 := h5.2.2
    have k5 : sQ wl_ke zTr zOke_isIn zMke_isIn [x4, x1, x2] η x5 η1 ∧ oQke_isIn [x4, x1, x2] η x5 η1 := ⟨h5.1, h5.2.1⟩
    have y7 : fQke_token [] η2 x7 η3 := h7.2.2
    have k7 : sQ wl_ke zTr zOke_token zMke_token [] η2 x7 η3 ∧ oQke_token [] η2 x7 η3 := ⟨h7.1, h7.2.1⟩
    have bx1 : ((-2147483648) : Int) ≤ x1 ∧ x1 ≤ 2147483647 := hp.2.1.1
    have bx2 : ((-2147483648) : Int) ≤ x2 ∧ x2 ≤ 2147483647 := hp.2.1.2.1
    have w0_0_8 : (0 : Int) ≤ η 0 8 ∧ η 0 8 ≤ 6 := wf_ok (a := 8) (b := 8) (z := (0, 6)) hp.1 (by decide +kernel) (Nat.le_refl _) (Nat.le_refl _)
    replace e3 : x3 = η 0 8 := e3
    replace r3 : -2147483648 ≤ x3 ∧ x3 ≤ 2147483647 := r3
    replace e4 : x4 = η 0 9 := e4
    replace r4 : -2147483648 ≤ x4 ∧ x4 ≤ 2147483647 := r4
    have w0_0_7 : (0 : Int) ≤ η 0 7 ∧ η 0 7 ≤ 700 := wf_ok (a := 7) (b := 7) (z := (0, 700)) hp.1 (by decide +kernel) (Nat.le_refl _) (Nat.le_refl _)
    have c0_0_7 : η 0 7 = η 0 7 := rfl
    have w0_0_6 : (0 : Int) ≤ η 0 6 ∧ η 0 6 ≤ 700 := wf_ok (a := 6) (b := 6) (z := (0, 700)) hp.1 (by decide +kernel) (Nat.le_refl _) (Nat.le_refl _)
    have c0_0_6 : η 0 6 = η 0 6 := rfl
    have c0_0_8 : η 0 8 = η 0 8 := rfl
    have c0_0_9 : η 0 9 = η 0 9 := rfl
    have bx5 : (0 : Int) ≤ x5 ∧ x5 ≤ 1 := k5.1.2.1
    have v4 : zEq (η1 0 9) (η 0 9) := (k5.1.2.2.2.1 0 9 (by decide +kernel)).trans rfl
    replace e6 : x6 = η 0 9 := e6.trans v4
    replace r6 : -2147483648 ≤ x6 ∧ x6 ≤ 2147483647 := r6
    have v5 : zEq (η1 0 7) (η 0 7) := (k5.1.2.2.2.1 0 7 (by decide +kernel)).trans rfl
    have v6 : zEq (η2 0 7) (η 0 7) := by rw [eη2]; exact (zup_ne (fun _ e => absurd e (by decide))).trans v5
    have c2_0_7 : η2 0 7 = η 0 7 := v6
    have v7 : zEq (η1 0 6) (η 0 6) := (k5.1.2.2.2.1 0 6 (by decide +kernel)).trans rfl
    have v8 : zEq (η2 0 6) (η 0 6) := by rw [eη2]; exact (zup_ne (fun _ e => absurd e (by decide))).trans v7
    have c2_0_6 : η2 0 6 = η 0 6 := v8
    have v9 : zEq (η1 0 8) (η 0 8) := (k5.1.2.2.2.1 0 8 (by decide +kernel)).trans rfl
    have v10 : zEq (η2 0 8) (η 0 8) := by rw [eη2]; exact (zup_ne (fun _ e => absurd e (by decide))).trans v9
    have c2_0_8 : η2 0 8 = η 0 8 := v10
    have v11 : zEq (η2 0 9) (η 0 9) := by rw [eη2]; exact (zup_ne (fun _ e => absurd e (by decide))).trans v4
    have c2_0_9 : η2 0 9 = η 0 9 := v11
    have bx7 : (0 : Int) ≤ x7 ∧ x7 ≤ 0 := k7.1.2.1
    have fr1_0 : ∀ j, η 1 j = η 1 j := fun _ => rfl
    have v12 : ∀ j, η1 1 j = η 1 j := fun j => k5.1.2.2.2.1 1 _ (zinr_not (by decide +kernel))
    have fr1_1 : ∀ j, η1 1 j = η 1 j := v12
    have v13 : ∀ j, η2 1 j = η 1 j := fun j => by rw [eη2]; exact (zup_ne (fun e _ => absurd e (by decide))).trans (v12 j)
    have fr1_2 : ∀ j, η2 1 j = η 1 j := v13
    have v14 : ∀ j, η3 1 j = η 1 j := fun j => (k7.1.2.2.2.1 1 _ (zinr_not (by decide +kernel))).trans (v13 j)
    have fr1_3 : ∀ j, η3 1 j = η 1 j := v14
    have v15 : ∀ j, η1 2 j = η 2 j := fun j => k5.1.2.2.2.1 2 _ (zinr_not (by decide +kernel))
    have v16 : ∀ j, η2 2 j = η 2 j := fun j => by rw [eη2]; exact (zup_ne (fun e _ => absurd e (by decide))).trans (v15 j)
    have v17 : ∀ j, η3 2 j = η 2 j := fun j => (k7.1.2.2.2.1 2 _ (zinr_not (by decide +kernel))).trans (v16 j)
    have fr2 : ∀ j, η3 2 j = η 2 j := v17
    have w3_0_7 : (0 : Int) ≤ η3 0 7 ∧ η3 0 7 ≤ 700 := wf_ok (a := 7) (b := 7) (z := (0, 700)) k7.1.1 (by decide +kernel) (Nat.le_refl _) (Nat.le_refl _)
    have f0_7 : η3 0 7 = η3 0 7 := rfl
    have v19 : zEq (η3 0 6) (η 0 6) := (k7.1.2.2.2.1 0 6 (by decide +kernel)).trans v8
    have f0_6 : η3 0 6 = η 0 6 := v19
    have w3_0_8 : (0 : Int) ≤ η3 0 8 ∧ η3 0 8 ≤ 6 := wf_ok (a := 8) (b := 8) (z := (0, 6)) k7.1.1 (by decide +kernel) (Nat.le_refl _) (Nat.le_refl _)
    have f0_8 : η3 0 8 = η3 0 8 := rfl
    have f0_9 : η3 0 9 = η3 0 9 := rfl
    have g2 : G_k η2 := by rw [eη2]; exact zGk_upc gk_k k5.2 (by decide +kernel)
    have qt : ¬ η2 0 8 = 0 → 10 * (η3 0 6 - η3 0 7) + η3 0 8 < 10 * (η2 0 6 - η2 0 7) + η2 0 8 := k7.2.2
    exact ⟨k7.2.1, fun _ => show 10 * (η3 0 6 - η3 0 7) + η3 0 8 < 10 * (η 0 6 - η 0 7) + η 0 8 by omega⟩
  · have e3 : x3 = η 0 8 := e3
    clear r3
    have e4 : x4 = η 0 9 := e4
    clear r4
    obtain ⟨a5, b5⟩ : x5 = (yq_in x4 x1 x2) ∧ η1 = η := y5
    clear k5 h5
    have e6 : x6 = η1 0 9 := e6
    clear r6
    have eη2 : η2 = zup η1 0 11 x6 := eη2
    have b7 : η3 = (yq_tok η2) := y7
    clear k7 h7
    show 1 = (yq_ny x1 x2 η) ∧ η3 = (yq_ns x1 x2 η)
    subst e3
    subst e4
    subst a5; subst b5
    subst e6
    subst eη2
    subst b7
    have q := in_1 c2
    refine ⟨?_, ?_⟩
    · unfold yq_ny
      (repeat' split) <;> first | (exfalso; omega) | rfl
    · unfold yq_ns
      (repeat' split) <;> first | (exfalso; omega) | rfl
set_option maxHeartbeats 8000000 in
theorem zke_number_o2 {ro : Nat → List Int32} (x1 x2 : Int) (η : zE) (hp : sP wl_ke zTr zPke_number [x1, x2] η) (hpp : pPke_number [x1, x2] η) : ∀ x3 : Int, x3 = η 0 (Int.toNat 8) → zok 0 x3 → (x3 = 3) → ∀ x4 : Int, x4 = η 0 (Int.toNat 9) → zok 0 x4 → ∀ (x5 : Int) (η1 : zE), ((gC2 wl_ke [(nat_lit 0, zPke_wrong, zOke_wrong, zMke_wrong), (nat_lit 1, zPke_isIn, zOke_isIn, zMke_isIn), (nat_lit 2, zPke_token, zOke_token, zMke_token)] pCke_number qCke_number) 1).2 [x4, x1, x2] η x5 η1 → (x5 = 0) → ((gC2 wl_ke [(nat_lit 0, zPke_wrong, zOke_wrong, zMke_wrong), (nat_lit 1, zPke_isIn, zOke_isIn, zMke_isIn), (nat_lit 2, zPke_token, zOke_token, zMke_token)] pCke_number qCke_number) 0).1 [2] η1 := by
  intro x3 e3 r3 c1 x4 e4 r4 x5 η1 h5 c2
  have y5 : fQke_isIn [x4, x1, x2] η x5 η1 := h5.2.2
  have k5 : sQ wl_ke zTr zOke_isIn zMke_isIn [x4, x1, x2] η x5 η1 ∧ oQke_isIn [x4, x1, x2] η x5 η1 := ⟨h5.1, h5.2.1⟩
  exact k5.2
set_option maxHeartbeats 8000000 in
theorem zke_number_o3 {ro : Nat → List Int32} (x1 x2 : Int) (η : zE) (hp : sP wl_ke zTr zPke_number [x1, x2] η) (hpp : pPke_number [x1, x2] η) : ∀ x3 : Int, x3 = η 0 (Int.toNat 8) → zok 0 x3 → (x3 = 3) → ∀ x4 : Int, x4 = η 0 (Int.toNat 9) → zok 0 x4 → ∀ (x5 : Int) (η1 : zE), ((gC2 wl_ke [(nat_lit 0, zPke_wrong, zOke_wrong, zMke_wrong), (nat_lit 1, zPke_isIn, zOke_isIn, zMke_isIn), (nat_lit 2, zPke_token, zOke_token, zMke_token)] pCke_number qCke_number) 1).2 [x4, x1, x2] η x5 η1 → (x5 = 0) → ∀ (x6 : Int) (η2 : zE), ((gC2 wl_ke [(nat_lit 0, zPke_wrong, zOke_wrong, zMke_wrong), (nat_lit 1, zPke_isIn, zOke_isIn, zMke_isIn), (nat_lit 2, zPke_token, zOke_token, zMke_token)] pCke_number qCke_number) 0).2 [2] η1 x6 η2 → (fun (_ : Nat) (y : Int) (η' : zE) => pQke_number [x1, x2] η y η') 0 x6 η2 := by
  intro x3 e3 r3 c1 x4 e4 r4 x5 η1 h5 c2 x6 η2 h6
  have y5 : fQke_isIn [x4, x1, x2] η x5 η1 := h5.2.2
  have k5 : sQ wl_ke zTr zOke_isIn zMke_isIn [x4, x1, x2] η x5 η1 ∧ oQke_isIn [x4, x1, x2] η x5 η1 := ⟨h5.1, h5.2.1⟩
  have y6 : fQke_wrong [2] η1 x6 η2 := h6.2.2
  have k6 : sQ wl_ke zTr zOke_wrong zMke_wrong [2] η1 x6 η2 ∧ oQke_wrong [2] η1 x6 η2 := ⟨h6.1, h6.2.1⟩
  refine yj_a ?_ ?_
  · have y5 : fQke_isIn [x4, x1, x2] η x5 η1 := h5.2.2
    have k5 : sQ wl_ke zTr zOke_isIn zMke_isIn [x4, x1, x2] η x5 η1 ∧ oQke_isIn [x4, x1, x2] η x5 η1 := ⟨h5.1, h5.2.1⟩
    have y6 : fQke_wrong [2] η1 x6 η2 := h6.2.2
    have k6 : sQ wl_ke zTr zOke_wrong zMke_wrong [2] η1 x6 η2 ∧ oQke_wrong [2] η1 x6 η2 := ⟨h6.1, h6.2.1⟩
    have bx1 : ((-2147483648) : Int) ≤ x1 ∧ x1 ≤ 2147483647 := hp.2.1.1
    have bx2 : ((-2147483648) : Int) ≤ x2 ∧ x2 ≤ 2147483647 := hp.2.1.2.1
    have w0_0_8 : (0 : Int) ≤ η 0 8 ∧ η 0 8 ≤ 6 := wf_ok (a := 8) (b := 8) (z := (0, 6)) hp.1 (by decide +kernel) (Nat.le_refl _) (Nat.le_refl _)
    replace e3 : x3 = η 0 8 := e3
    replace r3 : -2147483648 ≤ x3 ∧ x3 ≤ 2147483647 := r3
    replace e4 : x4 = η 0 9 := e4
    replace r4 : -2147483648 ≤ x4 ∧ x4 ≤ 2147483647 := r4
    have w0_0_7 : (0 : Int) ≤ η 0 7 ∧ η 0 7 ≤ 700 := wf_ok (a := 7) (b := 7) (z := (0, 700)) hp.1 (by decide +kernel) (Nat.le_refl _) (Nat.le_refl _)
    have c0_0_7 : η 0 7 = η 0 7 := rfl
    have w0_0_6 : (0 : Int) ≤ η 0 6 ∧ η 0 6 ≤ 700 := wf_ok (a := 6) (b := 6) (z := (0, 700)) hp.1 (by decide +kernel) (Nat.le_refl _) (Nat.le_refl _)
    have c0_0_6 : η 0 6 = η 0 6 := rfl
    have c0_0_8 : η 0 8 = η 0 8 := rfl
    have c0_0_9 : η 0 9 = η 0 9 := rfl
    have bx5 : (0 : Int) ≤ x5 ∧ x5 ≤ 1 := k5.1.2.1
    have v4 : zEq (η1 0 7) (η 0 7) := (k5.1.2.2.2.1 0 7 (by decide +kernel)).trans rfl
    have c1_0_7 : η1 0 7 = η 0 7 := v4
    have v5 : zEq (η1 0 6) (η 0 6) := (k5.1.2.2.2.1 0 6 (by decide +kernel)).trans rfl
    have c1_0_6 : η1 0 6 = η 0 6 := v5
    have v6 : zEq (η1 0 8) (η 0 8) := (k5.1.2.2.2.1 0 8 (by decide +kernel)).trans rfl
    have c1_0_8 : η1 0 8 = η 0 8 := v6
    have v7 : zEq (η1 0 9) (η 0 9) := (k5.1.2.2.2.1 0 9 (by decide +kernel)).trans rfl
    have c1_0_9 : η1 0 9 = η 0 9 := v7
    have bx6 : (0 : Int) ≤ x6 ∧ x6 ≤ 0 := k6.1.2.1
    have fr1_0 : ∀ j, η 1 j = η 1 j := fun _ => rfl
    have v8 : ∀ j, η1 1 j = η 1 j := fun j => k5.1.2.2.2.1 1 _ (zinr_not (by decide +kernel))
    have fr1_1 : ∀ j, η1 1 j = η 1 j := v8
    have v9 : ∀ j, η2 1 j = η 1 j := fun j => (k6.1.2.2.2.1 1 _ (zinr_not (by decide +kernel))).trans (v8 j)
    have fr1_2 : ∀ j, η2 1 j = η 1 j := v9
    have v10 : ∀ j, η1 2 j = η 2 j := fun j => k5.1.2.2.2.1 2 _ (zinr_not (by decide +kernel))
    have v11 : ∀ j, η2 2 j = η 2 j := fun j => (k6.1.2.2.2.1 2 _ (zinr_not (by decide +kernel))).trans (v10 j)
    have fr2 : ∀ j, η2 2 j = η 2 j := v11
    have v12 : zEq (η2 0 7) (η 0 7) := (k6.1.2.2.2.1 0 7 (by decide +kernel)).trans v4
    have f0_7 : η2 0 7 = η 0 7 := v12
    have v13 : zEq (η2 0 6) (η 0 6) := (k6.1.2.2.2.1 0 6 (by decide +kernel)).trans v5
    have f0_6 : η2 0 6 = η 0 6 := v13
    have v14 : zEq (η2 0 8) (η 0 8) := (k6.1.2.2.2.1 0 8 (by decide +kernel)).trans v6
    have f0_8 : η2 0 8 = η 0 8 := v14
    have v15 : zEq (η2 0 9) (η 0 9) := (k6.1.2.2.2.1 0 9 (by decide +kernel)).trans v7
    have f0_9 : η2 0 9 = η 0 9 := v15
    exact ⟨k6.2, fun w => absurd (show (x6 : Int) = 0 by omega) w⟩
  · have e3 : x3 = η 0 8 := e3
    clear r3
    have e4 : x4 = η 0 9 := e4
    clear r4
    obtain ⟨a5, b5⟩ : x5 = (yq_in x4 x1 x2) ∧ η1 = η := y5
    clear k5 h5
    obtain ⟨a6, b6⟩ : x6 = 0 ∧ η2 = (yq_wr 2 η1) := y6
    clear k6 h6
    show x6 = (yq_ny x1 x2 η) ∧ η2 = (yq_ns x1 x2 η)
    subst e3
    subst e4
    subst a5; subst b5
    subst a6; subst b6
    have q := in_0 c2
    refine ⟨?_, ?_⟩
    · unfold yq_ny
      (repeat' split) <;> first | (exfalso; omega) | rfl
    · unfold yq_ns
      (repeat' split) <;> first | (exfalso; omega) | rfl
set_option maxHeartbeats 8000000 in
theorem zke_number_o4 {ro : Nat → List Int32} (x1 x2 : Int) (η : zE) (hp : sP wl_ke zTr zPke_number [x1, x2] η) (hpp : pPke_number [x1, x2] η) : ∀ x3 : Int, x3 = η 0 (Int.toNat 8) → zok 0 x3 → (¬ x3 = 3) → ∀ (x4 : Int) (η1 : zE), ((gC2 wl_ke [(nat_lit 0, zPke_wrong, zOke_wrong, zMke_wrong), (nat_lit 1, zPke_isIn, zOke_isIn, zMke_isIn), (nat_lit 2, zPke_token, zOke_token, zMke_token)] pCke_number qCke_number) 0).2 [1] η x4 η1 → (fun (_ : Nat) (y : Int) (η' : zE) => pQke_number [x1, x2] η y η') 0 x4 η1 := by
  intro x3 e3 r3 c1 x4 η1 h4
  have y4 : fQke_wrong [1] η x4 η1 := h4.2.2
  have k4 : sQ wl_ke zTr zOke_wrong zMke_wrong [1] η x4 η1 ∧ oQke_wrong [1] η x4 η1 := ⟨h4.1, h4.2.1⟩
  refine yj_a ?_ ?_
  · have y4 : fQke_wrong [1] η x4 η1 := h4.2.2
    have k4 : sQ wl_ke zTr zOke_wrong zMke_wrong [1] η x4 η1 ∧ oQke_wrong [1] η x4 η1 := ⟨h4.1, h4.2.1⟩
    have bx1 : ((-2147483648) : Int) ≤ x1 ∧ x1 ≤ 2147483647 := hp.2.1.1
    have bx2 : ((-2147483648) : Int) ≤ x2 ∧ x2 ≤ 2147483647 := hp.2.1.2.1
    have w0_0_8 : (0 : Int) ≤ η 0 8 ∧ η 0 8 ≤ 6 := wf_ok (a := 8) (b := 8) (z := (0, 6)) hp.1 (by decide +kernel) (Nat.le_refl _) (Nat.le_refl _)
    replace e3 : x3 = η 0 8 := e3
    replace r3 : -2147483648 ≤ x3 ∧ x3 ≤ 2147483647 := r3
    have w0_0_7 : (0 : Int) ≤ η 0 7 ∧ η 0 7 ≤ 700 := wf_ok (a := 7) (b := 7) (z := (0, 700)) hp.1 (by decide +kernel) (Nat.le_refl _) (Nat.le_refl _)
    have c0_0_7 : η 0 7 = η 0 7 := rfl
    have w0_0_6 : (0 : Int) ≤ η 0 6 ∧ η 0 6 ≤ 700 := wf_ok (a := 6) (b := 6) (z := (0, 700)) hp.1 (by decide +kernel) (Nat.le_refl _) (Nat.le_refl _)
    have c0_0_6 : η 0 6 = η 0 6 := rfl
    have c0_0_8 : η 0 8 = η 0 8 := rfl
    have c0_0_9 : η 0 9 = η 0 9 := rfl
    have bx4 : (0 : Int) ≤ x4 ∧ x4 ≤ 0 := k4.1.2.1
    have fr1_0 : ∀ j, η 1 j = η 1 j := fun _ => rfl
    have v4 : ∀ j, η1 1 j = η 1 j := fun j => k4.1.2.2.2.1 1 _ (zinr_not (by decide +kernel))
    have fr1_1 : ∀ j, η1 1 j = η 1 j := v4
    have v5 : ∀ j, η1 2 j = η 2 j := fun j => k4.1.2.2.2.1 2 _ (zinr_not (by decide +kernel))
    have fr2 : ∀ j, η1 2 j = η 2 j := v5
    have v6 : zEq (η1 0 7) (η 0 7) := (k4.1.2.2.2.1 0 7 (by decide +kernel)).trans rfl
    have f0_7 : η1 0 7 = η 0 7 := v6
    have v7 : zEq (η1 0 6) (η 0 6) := (k4.1.2.2.2.1 0 6 (by decide +kernel)).trans rfl
    have f0_6 : η1 0 6 = η 0 6 := v7
    have v8 : zEq (η1 0 8) (η 0 8) := (k4.1.2.2.2.1 0 8 (by decide +kernel)).trans rfl
    have f0_8 : η1 0 8 = η 0 8 := v8
    have v9 : zEq (η1 0 9) (η 0 9) := (k4.1.2.2.2.1 0 9 (by decide +kernel)).trans rfl
    have f0_9 : η1 0 9 = η 0 9 := v9
    exact ⟨k4.2, fun w => absurd (show (x4 : Int) = 0 by omega) w⟩
  · have e3 : x3 = η 0 8 := e3
    clear r3
    obtain ⟨a4, b4⟩ : x4 = 0 ∧ η1 = (yq_wr 1 η) := y4
    clear k4 h4
    show x4 = (yq_ny x1 x2 η) ∧ η1 = (yq_ns x1 x2 η)
    subst e3
    subst a4; subst b4
    refine ⟨?_, ?_⟩
    · unfold yq_ny
      (repeat' split) <;> first | (exfalso; omega) | rfl
    · unfold yq_ns
      (repeat' split) <;> first | (exfalso; omega) | rfl
set_option maxHeartbeats 8000000 in
theorem zke_number {ro : Nat → List Int32} : zMet pr_P pr_K pr_df ro (sm_X0 1 6) 2 127 tm_ke [(.inr (.inr (.inl (nat_lit 0)))), (.inl (nat_lit 1, (.ofNat (nat_lit 0)))), (.inl (nat_lit 2, (.ofNat (nat_lit 0))))] 2 [(nat_lit 0, nat_lit 0, nat_lit 1), (nat_lit 0, nat_lit 3, nat_lit 2), (nat_lit 0, nat_lit 20, nat_lit 3), (nat_lit 0, nat_lit 21, nat_lit 4), (nat_lit 0, nat_lit 22, nat_lit 5), (nat_lit 0, nat_lit 23, nat_lit 6), (nat_lit 0, nat_lit 24, nat_lit 7), (nat_lit 0, nat_lit 25, nat_lit 8), (nat_lit 0, nat_lit 26, nat_lit 9), (nat_lit 0, nat_lit 27, nat_lit 10), (nat_lit 0, nat_lit 28, nat_lit 11), (nat_lit 0, nat_lit 29, nat_lit 12), (nat_lit 0, nat_lit 30, nat_lit 13), (nat_lit 0, nat_lit 31, nat_lit 14), (nat_lit 0, nat_lit 32, nat_lit 15), (nat_lit 0, nat_lit 33, nat_lit 16), (nat_lit 0, nat_lit 34, nat_lit 17), (nat_lit 0, nat_lit 35, nat_lit 18), (nat_lit 0, nat_lit 36, nat_lit 19), (nat_lit 0, nat_lit 37, nat_lit 20), (nat_lit 0, nat_lit 38, nat_lit 21), (nat_lit 0, nat_lit 39, nat_lit 22), (nat_lit 0, nat_lit 40, nat_lit 23), (nat_lit 0, nat_lit 47, nat_lit 24), (nat_lit 0, nat_lit 48, nat_lit 25), (nat_lit 0, nat_lit 50, nat_lit 26), (nat_lit 0, nat_lit 51, nat_lit 27), (nat_lit 0, nat_lit 52, nat_lit 28), (nat_lit 0, nat_lit 53, nat_lit 29), (nat_lit 0, nat_lit 54, nat_lit 30), (nat_lit 0, nat_lit 55, nat_lit 31), (nat_lit 0, nat_lit 56, nat_lit 32), (nat_lit 0, nat_lit 57, nat_lit 33), (nat_lit 0, nat_lit 58, nat_lit 34), (nat_lit 0, nat_lit 59, nat_lit 35), (nat_lit 0, nat_lit 72, nat_lit 36), (nat_lit 0, nat_lit 73, nat_lit 37), (nat_lit 0, nat_lit 76, nat_lit 38), (nat_lit 0, nat_lit 77, nat_lit 39), (nat_lit 0, nat_lit 79, nat_lit 40), (nat_lit 0, nat_lit 81, nat_lit 41), (nat_lit 0, nat_lit 82, nat_lit 42)] [] (fun xs η => sP wl_ke zTr zPke_number xs η ∧ pPke_number xs η) (fun xs η y η' => sQ wl_ke zTr zOke_number zMke_number xs η y η' ∧ pQke_number xs η y η') :=
  zmet_alt (zmea_gen (mi := (nat_lit 2, nat_lit 1, nat_lit 8, nat_lit 3, nat_lit 2, tX8_number)) (cd := [(nat_lit 118, nat_lit 0, nat_lit 0, [(.inr (.inr (.inl (nat_lit 0)))), (.inl (nat_lit 1, (.ofNat (nat_lit 0))))], nat_lit 2, [(nat_lit 0, nat_lit 0, nat_lit 1), (nat_lit 0, nat_lit 3, nat_lit 2), (nat_lit 0, nat_lit 20, nat_lit 3), (nat_lit 0, nat_lit 21, nat_lit 4), (nat_lit 0, nat_lit 22, nat_lit 5), (nat_lit 0, nat_lit 23, nat_lit 6), (nat_lit 0, nat_lit 24, nat_lit 7), (nat_lit 0, nat_lit 25, nat_lit 8), (nat_lit 0, nat_lit 26, nat_lit 9), (nat_lit 0, nat_lit 27, nat_lit 10), (nat_lit 0, nat_lit 28, nat_lit 11), (nat_lit 0, nat_lit 29, nat_lit 12), (nat_lit 0, nat_lit 30, nat_lit 13), (nat_lit 0, nat_lit 31, nat_lit 14), (nat_lit 0, nat_lit 32, nat_lit 15), (nat_lit 0, nat_lit 33, nat_lit 16), (nat_lit 0, nat_lit 34, nat_lit 17), (nat_lit 0, nat_lit 35, nat_lit 18), (nat_lit 0, nat_lit 36, nat_lit 19), (nat_lit 0, nat_lit 37, nat_lit 20), (nat_lit 0, nat_lit 38, nat_lit 21), (nat_lit 0, nat_lit 39, nat_lit 22), (nat_lit 0, nat_lit 40, nat_lit 23), (nat_lit 0, nat_lit 47, nat_lit 24), (nat_lit 0, nat_lit 48, nat_lit 25), (nat_lit 0, nat_lit 50, nat_lit 26), (nat_lit 0, nat_lit 51, nat_lit 27), (nat_lit 0, nat_lit 52, nat_lit 28), (nat_lit 0, nat_lit 53, nat_lit 29), (nat_lit 0, nat_lit 54, nat_lit 30), (nat_lit 0, nat_lit 55, nat_lit 31), (nat_lit 0, nat_lit 56, nat_lit 32), (nat_lit 0, nat_lit 57, nat_lit 33), (nat_lit 0, nat_lit 58, nat_lit 34), (nat_lit 0, nat_lit 59, nat_lit 35), (nat_lit 0, nat_lit 72, nat_lit 36), (nat_lit 0, nat_lit 73, nat_lit 37), (nat_lit 0, nat_lit 76, nat_lit 38), (nat_lit 0, nat_lit 77, nat_lit 39), (nat_lit 0, nat_lit 79, nat_lit 40), (nat_lit 0, nat_lit 81, nat_lit 41), (nat_lit 0, nat_lit 82, nat_lit 42)], []), (nat_lit 117, nat_lit 1, nat_lit 0, [(.inl (nat_lit 1, (.ofNat (nat_lit 0)))), (.inl (nat_lit 2, (.ofNat (nat_lit 0)))), (.inl (nat_lit 3, (.ofNat (nat_lit 0))))], nat_lit 2, [(nat_lit 0, nat_lit 0, nat_lit 1), (nat_lit 0, nat_lit 3, nat_lit 2), (nat_lit 0, nat_lit 20, nat_lit 3), (nat_lit 0, nat_lit 21, nat_lit 4), (nat_lit 0, nat_lit 22, nat_lit 5), (nat_lit 0, nat_lit 23, nat_lit 6), (nat_lit 0, nat_lit 24, nat_lit 7), (nat_lit 0, nat_lit 25, nat_lit 8), (nat_lit 0, nat_lit 26, nat_lit 9), (nat_lit 0, nat_lit 27, nat_lit 10), (nat_lit 0, nat_lit 28, nat_lit 11), (nat_lit 0, nat_lit 29, nat_lit 12), (nat_lit 0, nat_lit 30, nat_lit 13), (nat_lit 0, nat_lit 31, nat_lit 14), (nat_lit 0, nat_lit 32, nat_lit 15), (nat_lit 0, nat_lit 33, nat_lit 16), (nat_lit 0, nat_lit 34, nat_lit 17), (nat_lit 0, nat_lit 35, nat_lit 18), (nat_lit 0, nat_lit 36, nat_lit 19), (nat_lit 0, nat_lit 37, nat_lit 20), (nat_lit 0, nat_lit 38, nat_lit 21), (nat_lit 0, nat_lit 39, nat_lit 22), (nat_lit 0, nat_lit 40, nat_lit 23), (nat_lit 0, nat_lit 47, nat_lit 24), (nat_lit 0, nat_lit 48, nat_lit 25), (nat_lit 0, nat_lit 50, nat_lit 26), (nat_lit 0, nat_lit 51, nat_lit 27), (nat_lit 0, nat_lit 52, nat_lit 28), (nat_lit 0, nat_lit 53, nat_lit 29), (nat_lit 0, nat_lit 54, nat_lit 30), (nat_lit 0, nat_lit 55, nat_lit 31), (nat_lit 0, nat_lit 56, nat_lit 32), (nat_lit 0, nat_lit 57, nat_lit 33), (nat_lit 0, nat_lit 58, nat_lit 34), (nat_lit 0, nat_lit 59, nat_lit 35), (nat_lit 0, nat_lit 72, nat_lit 36), (nat_lit 0, nat_lit 73, nat_lit 37), (nat_lit 0, nat_lit 76, nat_lit 38), (nat_lit 0, nat_lit 77, nat_lit 39), (nat_lit 0, nat_lit 79, nat_lit 40), (nat_lit 0, nat_lit 81, nat_lit 41), (nat_lit 0, nat_lit 82, nat_lit 42)], []), (nat_lit 122, nat_lit 2, nat_lit 1, [(.inr (.inr (.inl (nat_lit 0))))], nat_lit 0, [(nat_lit 0, nat_lit 0, nat_lit 1), (nat_lit 0, nat_lit 3, nat_lit 2), (nat_lit 0, nat_lit 20, nat_lit 3), (nat_lit 0, nat_lit 21, nat_lit 4), (nat_lit 0, nat_lit 22, nat_lit 5), (nat_lit 0, nat_lit 23, nat_lit 6), (nat_lit 0, nat_lit 24, nat_lit 7), (nat_lit 0, nat_lit 25, nat_lit 8), (nat_lit 0, nat_lit 26, nat_lit 9), (nat_lit 0, nat_lit 27, nat_lit 10), (nat_lit 0, nat_lit 28, nat_lit 11), (nat_lit 0, nat_lit 29, nat_lit 12), (nat_lit 0, nat_lit 30, nat_lit 13), (nat_lit 0, nat_lit 31, nat_lit 14), (nat_lit 0, nat_lit 32, nat_lit 15), (nat_lit 0, nat_lit 33, nat_lit 16), (nat_lit 0, nat_lit 34, nat_lit 17), (nat_lit 0, nat_lit 35, nat_lit 18), (nat_lit 0, nat_lit 36, nat_lit 19), (nat_lit 0, nat_lit 37, nat_lit 20), (nat_lit 0, nat_lit 38, nat_lit 21), (nat_lit 0, nat_lit 39, nat_lit 22), (nat_lit 0, nat_lit 40, nat_lit 23), (nat_lit 0, nat_lit 47, nat_lit 24), (nat_lit 0, nat_lit 48, nat_lit 25), (nat_lit 0, nat_lit 50, nat_lit 26), (nat_lit 0, nat_lit 51, nat_lit 27), (nat_lit 0, nat_lit 52, nat_lit 28), (nat_lit 0, nat_lit 53, nat_lit 29), (nat_lit 0, nat_lit 54, nat_lit 30), (nat_lit 0, nat_lit 55, nat_lit 31), (nat_lit 0, nat_lit 56, nat_lit 32), (nat_lit 0, nat_lit 57, nat_lit 33), (nat_lit 0, nat_lit 58, nat_lit 34), (nat_lit 0, nat_lit 59, nat_lit 35), (nat_lit 0, nat_lit 72, nat_lit 36), (nat_lit 0, nat_lit 73, nat_lit 37), (nat_lit 0, nat_lit 76, nat_lit 38), (nat_lit 0, nat_lit 77, nat_lit 39), (nat_lit 0, nat_lit 79, nat_lit 40), (nat_lit 0, nat_lit 81, nat_lit 41), (nat_lit 0, nat_lit 82, nat_lit 42)], [])]) (cu := []) (cs := [(nat_lit 0, zPke_wrong, zOke_wrong, zMke_wrong), (nat_lit 1, zPke_isIn, zOke_isIn, zMke_isIn), (nat_lit 2, zPke_token, zOke_token, zMke_token)]) (iv := zVke_number) (po := [zOke_number]) (pr := zPke_number) (mods := zMke_number) (D7 := zDke_number) (D0 := zEke_number) (Dm := zFke_number) (f0 := 22) pCke_number qCke_number iCke_number pPke_number (fun xs η _ y η' => pQke_number xs η y η') zX_low pr_mtR rfl (List.forall_mem_cons.mpr ⟨zke_wrong, List.forall_mem_cons.mpr ⟨zke_isIn, List.forall_mem_cons.mpr ⟨zke_token, fun _ h => nomatch h⟩⟩⟩) (by decide +kernel) (by decide +kernel) (by decide +kernel)
    (by
      intro xs η hr hl hp hpp
      match xs, hl, hp, hpp with
      | [x1, x2], _, hp, hpp =>
        refine List.forall_mem_cons.mpr ⟨?_, List.forall_mem_cons.mpr ⟨?_, List.forall_mem_cons.mpr ⟨?_, List.forall_mem_cons.mpr ⟨?_, List.forall_mem_cons.mpr ⟨?_, List.forall_mem_cons.mpr ⟨?_, List.forall_mem_cons.mpr ⟨?_, fun _ h => nomatch h⟩⟩⟩⟩⟩⟩⟩
        · refine zden_L (n := 3) (ρ := [x2, x1, 0]) rfl ?_
          show ∀ x3 : Int, x3 = η 0 (Int.toNat 8) → zok 0 x3 → (x3 = 3) → ∀ x4 : Int, x4 = η 0 (Int.toNat 9) → zok 0 x4 → ((gC2 wl_ke [(nat_lit 0, zPke_wrong, zOke_wrong, zMke_wrong), (nat_lit 1, zPke_isIn, zOke_isIn, zMke_isIn), (nat_lit 2, zPke_token, zOke_token, zMke_token)] pCke_number qCke_number) 1).1 [x4, x1, x2] η
          intro x3 e3 r3 c1 x4 e4 r4
          exact hpp
        · refine zden_L (n := 3) (ρ := [x2, x1, 0]) rfl ?_
          exact zke_number_o0 (ro := ro) x1 x2 η hp hpp
        · refine zden_L (n := 3) (ρ := [x2, x1, 0]) rfl ?_
          exact zke_number_o1 (ro := ro) x1 x2 η hp hpp
        · refine zden_L (n := 3) (ρ := [x2, x1, 0]) rfl ?_
          exact zke_number_o2 (ro := ro) x1 x2 η hp hpp
        · refine zden_L (n := 3) (ρ := [x2, x1, 0]) rfl ?_
          exact zke_number_o3 (ro := ro) x1 x2 η hp hpp
        · refine zden_L (n := 3) (ρ := [x2, x1, 0]) rfl ?_
          show ∀ x3 : Int, x3 = η 0 (Int.toNat 8) → zok 0 x3 → (¬ x3 = 3) → ((gC2 wl_ke [(nat_lit 0, zPke_wrong, zOke_wrong, zMke_wrong), (nat_lit 1, zPke_isIn, zOke_isIn, zMke_isIn), (nat_lit 2, zPke_token, zOke_token, zMke_token)] pCke_number qCke_number) 0).1 [1] η
          intro x3 e3 r3 c1
          exact hpp
        · refine zden_L (n := 3) (ρ := [x2, x1, 0]) rfl ?_
          exact zke_number_o4 (ro := ro) x1 x2 η hp hpp
      )
    (fun _ _ _ _ _ _ _ h => nomatch h)
    (fun _ h => nomatch h))
