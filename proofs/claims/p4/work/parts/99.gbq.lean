def zPqe_text : zPq := ([((.negSucc (nat_lit 2147483647)), (.ofNat (nat_lit 2147483647)))], [])
def zMqe_text : List zCe := [(nat_lit 33, nat_lit 0), (nat_lit 34, nat_lit 0), (nat_lit 35, nat_lit 0), (nat_lit 37, nat_lit 0), (nat_lit 38, nat_lit 0), (nat_lit 39, nat_lit 0), (nat_lit 40, nat_lit 0), (nat_lit 42, nat_lit 0), (nat_lit 43, nat_lit 0), (nat_lit 44, nat_lit 0), (nat_lit 45, nat_lit 0), (nat_lit 46, nat_lit 0), (nat_lit 47, nat_lit 0), (nat_lit 48, nat_lit 0), (nat_lit 49, nat_lit 0), (nat_lit 50, nat_lit 0), (nat_lit 60, nat_lit 1), (nat_lit 60, nat_lit 2), (nat_lit 60, nat_lit 13), (nat_lit 60, nat_lit 14), (nat_lit 60, nat_lit 6), (nat_lit 60, nat_lit 7), (nat_lit 60, nat_lit 8), (nat_lit 60, nat_lit 9), (nat_lit 61, nat_lit 0), (nat_lit 63, nat_lit 0), (nat_lit 32, nat_lit 0), (nat_lit 60, nat_lit 5), (nat_lit 0, nat_lit 0), (nat_lit 70, nat_lit 0), (nat_lit 71, nat_lit 0), (nat_lit 72, nat_lit 0), (nat_lit 73, nat_lit 0), (nat_lit 95, nat_lit 0), (nat_lit 91, nat_lit 0)]
def zQqe_text : List zPo := [(((.negSucc (nat_lit 1)), (.negSucc (nat_lit 0))), [], []), (((.negSucc (nat_lit 2147483647)), (.ofNat (nat_lit 2147483647))), [], [])]
def oPqe_text : List Int → zE → Prop := fun _ η => GA_q η ∧ G_r η
def pPqe_text : List Int → zE → Prop := fun xs η => oPqe_text xs η ∧ yp_wk η
def pWqe_text : List Int → zE → Nat → Int → zE → Prop := fun xs η j y η' => match j with
  | 0 => (GA_q η' ∧ G_r η' ∧ FC_q (xs.getD 0 0) η η') ∧ yp_t0 (xs.getD 0 0) η y η'
  | 1 => (GB_q η' ∧ G_r η' ∧ FC_q (xs.getD 0 0) η η') ∧ yp_t1 (xs.getD 0 0) η y η'
  | _ => False
def pCqe_text : Nat → List Int → zE → Prop := fun c => match c with
  | 0 => pPqe_read
  | 1 => pPqe_startB
  | 2 => pPqe_tapeWipe
  | _ => fun _ _ => True
def qCqe_text : Nat → List Int → zE → Int → zE → Prop := fun c => match c with
  | 0 => pQqe_read
  | 1 => pQqe_startB
  | 2 => pQqe_tapeWipe
  | _ => fun _ _ _ _ => True
def iCqe_text : List Int → zE → Nat → List Int → zE → Prop := fun xs η0 c => match c with
  | _ => fun _ _ => True
def zVqe_text : List zIv := []
def zDqe_text : List (List zK) := [[(nat_lit 7, nat_lit 2, [(nat_lit 0, (.ofNat (nat_lit 0)))]), (nat_lit 5, nat_lit 0, [(nat_lit 91, (.ofNat (nat_lit 0))), (nat_lit 0, (.ofNat (nat_lit 0))), (nat_lit 0, (.ofNat (nat_lit 0)))]), (nat_lit 8, nat_lit 2, []), (nat_lit 8, nat_lit 1, []), (nat_lit 6, nat_lit 1, [(nat_lit 3, (.ofNat (nat_lit 0))), (nat_lit 0, (.ofNat (nat_lit 0)))]), (nat_lit 5, nat_lit 0, [(nat_lit 0, (.ofNat (nat_lit 0))), (nat_lit 0, (.ofNat (nat_lit 3))), (nat_lit 5, (.ofNat (nat_lit 0)))]), (nat_lit 4, nat_lit 0, [(nat_lit 60, (.ofNat (nat_lit 0))), (nat_lit 0, (.ofNat (nat_lit 1)))]), (nat_lit 5, nat_lit 0, [(nat_lit 0, (.ofNat (nat_lit 0))), (nat_lit 0, (.ofNat (nat_lit 2))), (nat_lit 4, (.ofNat (nat_lit 0)))]), (nat_lit 4, nat_lit 0, [(nat_lit 60, (.ofNat (nat_lit 0))), (nat_lit 0, (.ofNat (nat_lit 0)))]), (nat_lit 5, nat_lit 0, [(nat_lit 0, (.ofNat (nat_lit 0))), (nat_lit 0, (.ofNat (nat_lit 1))), (nat_lit 0, (.ofNat (nat_lit 0)))]), (nat_lit 8, nat_lit 0, [(nat_lit 1, (.ofNat (nat_lit 0)))]), (nat_lit 6, nat_lit 5, [(nat_lit 1, (.ofNat (nat_lit 0))), (nat_lit 2, (.ofNat (nat_lit 0)))]), (nat_lit 4, nat_lit 0, [(nat_lit 0, (.ofNat (nat_lit 0))), (nat_lit 0, (.ofNat (nat_lit 1)))]), (nat_lit 6, nat_lit 3, [(nat_lit 1, (.ofNat (nat_lit 0))), (nat_lit 0, (.ofNat (nat_lit 0)))])]]
def zEqe_text : List (List zK) := [[(nat_lit 11, nat_lit 0, [(nat_lit 0, (.negSucc (nat_lit 1)))]), (nat_lit 6, nat_lit 2, [(nat_lit 1, (.ofNat (nat_lit 0))), (nat_lit 0, (.ofNat (nat_lit 0)))])],
  [(nat_lit 13, nat_lit 0, [(nat_lit 1, (.ofNat (nat_lit 0)))]), (nat_lit 6, nat_lit 5, [(nat_lit 1, (.ofNat (nat_lit 0))), (nat_lit 2, (.ofNat (nat_lit 0)))]), (nat_lit 4, nat_lit 0, [(nat_lit 0, (.ofNat (nat_lit 0))), (nat_lit 0, (.ofNat (nat_lit 1)))]), (nat_lit 6, nat_lit 3, [(nat_lit 1, (.ofNat (nat_lit 0))), (nat_lit 0, (.ofNat (nat_lit 0)))])],
  [(nat_lit 13, nat_lit 1, []), (nat_lit 6, nat_lit 1, [(nat_lit 3, (.ofNat (nat_lit 0))), (nat_lit 0, (.ofNat (nat_lit 0)))]), (nat_lit 5, nat_lit 0, [(nat_lit 0, (.ofNat (nat_lit 0))), (nat_lit 0, (.ofNat (nat_lit 3))), (nat_lit 5, (.ofNat (nat_lit 0)))]), (nat_lit 4, nat_lit 0, [(nat_lit 60, (.ofNat (nat_lit 0))), (nat_lit 0, (.ofNat (nat_lit 1)))]), (nat_lit 5, nat_lit 0, [(nat_lit 0, (.ofNat (nat_lit 0))), (nat_lit 0, (.ofNat (nat_lit 2))), (nat_lit 4, (.ofNat (nat_lit 0)))]), (nat_lit 4, nat_lit 0, [(nat_lit 60, (.ofNat (nat_lit 0))), (nat_lit 0, (.ofNat (nat_lit 0)))]), (nat_lit 5, nat_lit 0, [(nat_lit 0, (.ofNat (nat_lit 0))), (nat_lit 0, (.ofNat (nat_lit 1))), (nat_lit 0, (.ofNat (nat_lit 0)))]), (nat_lit 8, nat_lit 0, [(nat_lit 1, (.ofNat (nat_lit 0)))]), (nat_lit 6, nat_lit 5, [(nat_lit 1, (.ofNat (nat_lit 0))), (nat_lit 2, (.ofNat (nat_lit 0)))]), (nat_lit 4, nat_lit 0, [(nat_lit 0, (.ofNat (nat_lit 0))), (nat_lit 0, (.ofNat (nat_lit 1)))]), (nat_lit 6, nat_lit 3, [(nat_lit 1, (.ofNat (nat_lit 0))), (nat_lit 0, (.ofNat (nat_lit 0)))])],
  [(nat_lit 13, nat_lit 2, []), (nat_lit 8, nat_lit 1, []), (nat_lit 6, nat_lit 1, [(nat_lit 3, (.ofNat (nat_lit 0))), (nat_lit 0, (.ofNat (nat_lit 0)))]), (nat_lit 5, nat_lit 0, [(nat_lit 0, (.ofNat (nat_lit 0))), (nat_lit 0, (.ofNat (nat_lit 3))), (nat_lit 5, (.ofNat (nat_lit 0)))]), (nat_lit 4, nat_lit 0, [(nat_lit 60, (.ofNat (nat_lit 0))), (nat_lit 0, (.ofNat (nat_lit 1)))]), (nat_lit 5, nat_lit 0, [(nat_lit 0, (.ofNat (nat_lit 0))), (nat_lit 0, (.ofNat (nat_lit 2))), (nat_lit 4, (.ofNat (nat_lit 0)))]), (nat_lit 4, nat_lit 0, [(nat_lit 60, (.ofNat (nat_lit 0))), (nat_lit 0, (.ofNat (nat_lit 0)))]), (nat_lit 5, nat_lit 0, [(nat_lit 0, (.ofNat (nat_lit 0))), (nat_lit 0, (.ofNat (nat_lit 1))), (nat_lit 0, (.ofNat (nat_lit 0)))]), (nat_lit 8, nat_lit 0, [(nat_lit 1, (.ofNat (nat_lit 0)))]), (nat_lit 6, nat_lit 5, [(nat_lit 1, (.ofNat (nat_lit 0))), (nat_lit 2, (.ofNat (nat_lit 0)))]), (nat_lit 4, nat_lit 0, [(nat_lit 0, (.ofNat (nat_lit 0))), (nat_lit 0, (.ofNat (nat_lit 1)))]), (nat_lit 6, nat_lit 3, [(nat_lit 1, (.ofNat (nat_lit 0))), (nat_lit 0, (.ofNat (nat_lit 0)))])],
  [(nat_lit 11, nat_lit 1, [(nat_lit 8, (.ofNat (nat_lit 0)))]), (nat_lit 4, nat_lit 0, [(nat_lit 32, (.ofNat (nat_lit 0))), (nat_lit 0, (.ofNat (nat_lit 0)))]), (nat_lit 5, nat_lit 1, [(nat_lit 0, (.ofNat (nat_lit 0))), (nat_lit 0, (.ofNat (nat_lit 9))), (nat_lit 0, (.ofNat (nat_lit 0)))]), (nat_lit 5, nat_lit 0, [(nat_lit 91, (.ofNat (nat_lit 0))), (nat_lit 0, (.ofNat (nat_lit 0))), (nat_lit 0, (.ofNat (nat_lit 0)))]), (nat_lit 8, nat_lit 2, []), (nat_lit 8, nat_lit 1, []), (nat_lit 6, nat_lit 1, [(nat_lit 3, (.ofNat (nat_lit 0))), (nat_lit 0, (.ofNat (nat_lit 0)))]), (nat_lit 5, nat_lit 0, [(nat_lit 0, (.ofNat (nat_lit 0))), (nat_lit 0, (.ofNat (nat_lit 3))), (nat_lit 5, (.ofNat (nat_lit 0)))]), (nat_lit 4, nat_lit 0, [(nat_lit 60, (.ofNat (nat_lit 0))), (nat_lit 0, (.ofNat (nat_lit 1)))]), (nat_lit 5, nat_lit 0, [(nat_lit 0, (.ofNat (nat_lit 0))), (nat_lit 0, (.ofNat (nat_lit 2))), (nat_lit 4, (.ofNat (nat_lit 0)))]), (nat_lit 4, nat_lit 0, [(nat_lit 60, (.ofNat (nat_lit 0))), (nat_lit 0, (.ofNat (nat_lit 0)))]), (nat_lit 5, nat_lit 0, [(nat_lit 0, (.ofNat (nat_lit 0))), (nat_lit 0, (.ofNat (nat_lit 1))), (nat_lit 0, (.ofNat (nat_lit 0)))]), (nat_lit 8, nat_lit 0, [(nat_lit 1, (.ofNat (nat_lit 0)))]), (nat_lit 6, nat_lit 5, [(nat_lit 1, (.ofNat (nat_lit 0))), (nat_lit 2, (.ofNat (nat_lit 0)))]), (nat_lit 4, nat_lit 0, [(nat_lit 0, (.ofNat (nat_lit 0))), (nat_lit 0, (.ofNat (nat_lit 1)))]), (nat_lit 6, nat_lit 3, [(nat_lit 1, (.ofNat (nat_lit 0))), (nat_lit 0, (.ofNat (nat_lit 0)))])],
  [(nat_lit 11, nat_lit 0, [(nat_lit 0, (.negSucc (nat_lit 0)))]), (nat_lit 6, nat_lit 0, [(nat_lit 3, (.ofNat (nat_lit 0))), (nat_lit 0, (.ofNat (nat_lit 0)))]), (nat_lit 5, nat_lit 0, [(nat_lit 0, (.ofNat (nat_lit 0))), (nat_lit 0, (.ofNat (nat_lit 3))), (nat_lit 5, (.ofNat (nat_lit 0)))]), (nat_lit 4, nat_lit 0, [(nat_lit 60, (.ofNat (nat_lit 0))), (nat_lit 0, (.ofNat (nat_lit 1)))]), (nat_lit 5, nat_lit 0, [(nat_lit 0, (.ofNat (nat_lit 0))), (nat_lit 0, (.ofNat (nat_lit 2))), (nat_lit 4, (.ofNat (nat_lit 0)))]), (nat_lit 4, nat_lit 0, [(nat_lit 60, (.ofNat (nat_lit 0))), (nat_lit 0, (.ofNat (nat_lit 0)))]), (nat_lit 5, nat_lit 0, [(nat_lit 0, (.ofNat (nat_lit 0))), (nat_lit 0, (.ofNat (nat_lit 1))), (nat_lit 0, (.ofNat (nat_lit 0)))]), (nat_lit 8, nat_lit 0, [(nat_lit 1, (.ofNat (nat_lit 0)))]), (nat_lit 6, nat_lit 5, [(nat_lit 1, (.ofNat (nat_lit 0))), (nat_lit 2, (.ofNat (nat_lit 0)))]), (nat_lit 4, nat_lit 0, [(nat_lit 0, (.ofNat (nat_lit 0))), (nat_lit 0, (.ofNat (nat_lit 1)))]), (nat_lit 6, nat_lit 3, [(nat_lit 1, (.ofNat (nat_lit 0))), (nat_lit 0, (.ofNat (nat_lit 0)))])],
  [(nat_lit 11, nat_lit 0, [(nat_lit 0, (.negSucc (nat_lit 1)))]), (nat_lit 6, nat_lit 4, [(nat_lit 1, (.ofNat (nat_lit 0))), (nat_lit 2, (.ofNat (nat_lit 0)))]), (nat_lit 4, nat_lit 0, [(nat_lit 0, (.ofNat (nat_lit 0))), (nat_lit 0, (.ofNat (nat_lit 1)))]), (nat_lit 6, nat_lit 3, [(nat_lit 1, (.ofNat (nat_lit 0))), (nat_lit 0, (.ofNat (nat_lit 0)))])]]
def zFqe_text : List (List zK) := []
set_option maxHeartbeats 8000000 in
theorem zqe_text {ro : Nat → List Int32} (hro : ro 2 = [0, 1, 2, 3, 4, 4, 4, 4, 4, 4, 5, 5, 6, 6]) : zMea pr_P pr_K pr_df ro (sm_X0 1 6) 7 66 tm_qe [(.inr (.inr (.inl (nat_lit 0)))), (.inl (nat_lit 1, (.ofNat (nat_lit 0))))] 1 [(nat_lit 0, nat_lit 0, nat_lit 1), (nat_lit 0, nat_lit 4, nat_lit 2), (nat_lit 0, nat_lit 5, nat_lit 32), (nat_lit 0, nat_lit 6, nat_lit 60), (nat_lit 0, nat_lit 7, nat_lit 70), (nat_lit 0, nat_lit 8, nat_lit 74), (nat_lit 0, nat_lit 11, nat_lit 78), (nat_lit 0, nat_lit 12, nat_lit 82), (nat_lit 0, nat_lit 13, nat_lit 90), (nat_lit 0, nat_lit 14, nat_lit 91), (nat_lit 0, nat_lit 15, nat_lit 95), (nat_lit 0, nat_lit 16, nat_lit 101), (nat_lit 2, nat_lit 8, nat_lit 3), (nat_lit 2, nat_lit 9, nat_lit 4), (nat_lit 2, nat_lit 10, nat_lit 5), (nat_lit 2, nat_lit 11, nat_lit 6), (nat_lit 2, nat_lit 12, nat_lit 11), (nat_lit 2, nat_lit 13, nat_lit 16), (nat_lit 2, nat_lit 14, nat_lit 17), (nat_lit 6, nat_lit 0, nat_lit 7), (nat_lit 11, nat_lit 0, nat_lit 12), (nat_lit 6, nat_lit 1, nat_lit 8), (nat_lit 11, nat_lit 1, nat_lit 13), (nat_lit 6, nat_lit 2, nat_lit 9), (nat_lit 11, nat_lit 2, nat_lit 14), (nat_lit 6, nat_lit 3, nat_lit 10), (nat_lit 11, nat_lit 3, nat_lit 15), (nat_lit 17, nat_lit 2, nat_lit 18), (nat_lit 17, nat_lit 3, nat_lit 19), (nat_lit 17, nat_lit 4, nat_lit 20), (nat_lit 17, nat_lit 5, nat_lit 21), (nat_lit 17, nat_lit 6, nat_lit 22), (nat_lit 32, nat_lit 8, nat_lit 33), (nat_lit 32, nat_lit 9, nat_lit 34), (nat_lit 32, nat_lit 10, nat_lit 35), (nat_lit 32, nat_lit 11, nat_lit 36), (nat_lit 32, nat_lit 12, nat_lit 41), (nat_lit 32, nat_lit 13, nat_lit 46), (nat_lit 32, nat_lit 14, nat_lit 47), (nat_lit 36, nat_lit 0, nat_lit 37), (nat_lit 41, nat_lit 0, nat_lit 42), (nat_lit 36, nat_lit 1, nat_lit 38), (nat_lit 41, nat_lit 1, nat_lit 43), (nat_lit 36, nat_lit 2, nat_lit 39), (nat_lit 41, nat_lit 2, nat_lit 44), (nat_lit 36, nat_lit 3, nat_lit 40), (nat_lit 41, nat_lit 3, nat_lit 45), (nat_lit 47, nat_lit 2, nat_lit 48), (nat_lit 47, nat_lit 3, nat_lit 49), (nat_lit 47, nat_lit 4, nat_lit 50), (nat_lit 47, nat_lit 5, nat_lit 51), (nat_lit 47, nat_lit 6, nat_lit 52), (nat_lit 60, nat_lit 3, nat_lit 1), (nat_lit 60, nat_lit 9, nat_lit 61), (nat_lit 60, nat_lit 10, nat_lit 62), (nat_lit 60, nat_lit 11, nat_lit 63), (nat_lit 70, nat_lit 8, nat_lit 71), (nat_lit 70, nat_lit 9, nat_lit 72), (nat_lit 70, nat_lit 10, nat_lit 73), (nat_lit 74, nat_lit 8, nat_lit 75), (nat_lit 74, nat_lit 9, nat_lit 76), (nat_lit 74, nat_lit 10, nat_lit 77), (nat_lit 78, nat_lit 8, nat_lit 79), (nat_lit 78, nat_lit 9, nat_lit 80), (nat_lit 78, nat_lit 10, nat_lit 81), (nat_lit 82, nat_lit 8, nat_lit 83), (nat_lit 82, nat_lit 9, nat_lit 84), (nat_lit 82, nat_lit 10, nat_lit 85), (nat_lit 91, nat_lit 1, nat_lit 92), (nat_lit 91, nat_lit 2, nat_lit 93), (nat_lit 91, nat_lit 3, nat_lit 94), (nat_lit 95, nat_lit 2, nat_lit 96), (nat_lit 95, nat_lit 3, nat_lit 97), (nat_lit 95, nat_lit 4, nat_lit 98), (nat_lit 95, nat_lit 5, nat_lit 99), (nat_lit 95, nat_lit 6, nat_lit 100)] [[], [(nat_lit 0, nat_lit 5, nat_lit 2), (nat_lit 0, nat_lit 4, nat_lit 32)]] [(nat_lit 90, nat_lit 0), (nat_lit 90, nat_lit 1), (nat_lit 60, nat_lit 2)] (fun xs η => sP wl_qe zTr zPqe_text xs η ∧ pPqe_text xs η) (fun j xs η y η' => zsQ wl_qe zTr zQqe_text zMqe_text xs η j y η' ∧ pWqe_text xs η j y η') :=
  (zmea_gen (mi := (nat_lit 1, nat_lit 1, nat_lit 7, nat_lit 4, nat_lit 1, tX7_text)) (cd := [(nat_lit 30, nat_lit 0, nat_lit 6, [(.inr (.inr (.inl (nat_lit 60)))), (.inl (nat_lit 1, (.ofNat (nat_lit 0)))), (.inr (.inr (.inl (nat_lit 32))))], nat_lit 2, [(nat_lit 60, nat_lit 3, nat_lit 1), (nat_lit 60, nat_lit 9, nat_lit 61), (nat_lit 60, nat_lit 10, nat_lit 62), (nat_lit 60, nat_lit 11, nat_lit 63), (nat_lit 32, nat_lit 8, nat_lit 33), (nat_lit 32, nat_lit 9, nat_lit 34), (nat_lit 32, nat_lit 10, nat_lit 35), (nat_lit 32, nat_lit 11, nat_lit 36), (nat_lit 32, nat_lit 12, nat_lit 41), (nat_lit 32, nat_lit 13, nat_lit 46), (nat_lit 32, nat_lit 14, nat_lit 47), (nat_lit 36, nat_lit 0, nat_lit 37), (nat_lit 41, nat_lit 0, nat_lit 42), (nat_lit 36, nat_lit 1, nat_lit 38), (nat_lit 41, nat_lit 1, nat_lit 43), (nat_lit 36, nat_lit 2, nat_lit 39), (nat_lit 41, nat_lit 2, nat_lit 44), (nat_lit 36, nat_lit 3, nat_lit 40), (nat_lit 41, nat_lit 3, nat_lit 45), (nat_lit 47, nat_lit 2, nat_lit 48), (nat_lit 47, nat_lit 3, nat_lit 49), (nat_lit 47, nat_lit 4, nat_lit 50), (nat_lit 47, nat_lit 5, nat_lit 51), (nat_lit 47, nat_lit 6, nat_lit 52)], [(nat_lit 60, nat_lit 2, nat_lit 32)]), (nat_lit 7, nat_lit 1, nat_lit 1, [(.inr (.inr (.inl (nat_lit 70)))), (.inr (.inr (.inl (nat_lit 32))))], nat_lit 0, [(nat_lit 70, nat_lit 8, nat_lit 71), (nat_lit 70, nat_lit 9, nat_lit 72), (nat_lit 70, nat_lit 10, nat_lit 73)], []), (nat_lit 58, nat_lit 2, nat_lit 0, [(.inr (.inr (.inl (nat_lit 95))))], nat_lit 0, [(nat_lit 95, nat_lit 2, nat_lit 96), (nat_lit 95, nat_lit 3, nat_lit 97), (nat_lit 95, nat_lit 4, nat_lit 98), (nat_lit 95, nat_lit 5, nat_lit 99), (nat_lit 95, nat_lit 6, nat_lit 100)], [])]) (cu := []) (cs := [(nat_lit 0, zPqe_read, zOqe_read, zMqe_read), (nat_lit 1, zPqe_startB, zOqe_startB, zMqe_startB), (nat_lit 2, zPqe_tapeWipe, zOqe_tapeWipe, zMqe_tapeWipe)]) (iv := zVqe_text) (po := zQqe_text) (pr := zPqe_text) (mods := zMqe_text) (D7 := zDqe_text) (D0 := zEqe_text) (Dm := zFqe_text) (f0 := 61) pCqe_text qCqe_text iCqe_text pPqe_text pWqe_text zX_low pr_mtR rfl (List.forall_mem_cons.mpr ⟨zqe_read hro, List.forall_mem_cons.mpr ⟨zqe_startB, List.forall_mem_cons.mpr ⟨zqe_tapeWipe, fun _ h => nomatch h⟩⟩⟩) (by decide +kernel) (by decide +kernel) (by decide +kernel)
    (by
      intro xs η hr hl hp hpp
      match xs, hl, hp, hpp with
      | [x1], _, hp, hpp =>
        refine List.forall_mem_cons.mpr ⟨?_, List.forall_mem_cons.mpr ⟨?_, List.forall_mem_cons.mpr ⟨?_, List.forall_mem_cons.mpr ⟨?_, List.forall_mem_cons.mpr ⟨?_, List.forall_mem_cons.mpr ⟨?_, List.forall_mem_cons.mpr ⟨?_, fun _ h => nomatch h⟩⟩⟩⟩⟩⟩⟩
        · show (x1 < 0) → (pWqe_text [x1] η) 0 (-2) η
          have wk0 : yp_wk η := hpp.2
          have hpp := hpp.1
          intro c1
          refine yj_a ?_ ?_
          · exact ⟨hpp.1, hpp.2, fun _ => rfl, fun (a : 0 ≤ x1) _ => by omega⟩
          · show yp_t0 x1 η _ _
            exact ⟨fun _ => ⟨rfl, rfl, rfl⟩, fun a b => by omega⟩
        · show (0 ≤ x1) → ∀ x2 : Int, x2 = η 0 (Int.toNat 1) → zok 0 x2 → (x1 ≤ x2) → ((gC2 wl_qe [(nat_lit 0, zPqe_read, zOqe_read, zMqe_read), (nat_lit 1, zPqe_startB, zOqe_startB, zMqe_startB), (nat_lit 2, zPqe_tapeWipe, zOqe_tapeWipe, zMqe_tapeWipe)] pCqe_text qCqe_text) 0).1 [x1] η
          have wk0 : yp_wk η := hpp.2
          have hpp := hpp.1
          intro c1 x2 e2 r2 c2
          refine yj_a ?_ ?_
          · exact hpp.2
          · exact wk0
        · show (0 ≤ x1) → ∀ x2 : Int, x2 = η 0 (Int.toNat 1) → zok 0 x2 → (x1 ≤ x2) → ∀ (x3 : Int) (η1 : zE), ((gC2 wl_qe [(nat_lit 0, zPqe_read, zOqe_read, zMqe_read), (nat_lit 1, zPqe_startB, zOqe_startB, zMqe_startB), (nat_lit 2, zPqe_tapeWipe, zOqe_tapeWipe, zMqe_tapeWipe)] pCqe_text qCqe_text) 0).2 [x1] η x3 η1 → ∀ η2 : zE, η2 = zup η1 0 (Int.toNat 1) 0 → ∀ x4 : Int, x4 = η2 60 (Int.toNat 0) → zok 0 x4 → ∀ η3 : zE, η3 = zup η2 0 (Int.toNat 2) x4 → ∀ x5 : Int, x5 = η3 60 (Int.toNat 1) → zok 0 x5 → ∀ η4 : zE, η4 = zup η3 0 (Int.toNat 3) x5 → (¬ x3 = 0) → ((gC2 wl_qe [(nat_lit 0, zPqe_read, zOqe_read, zMqe_read), (nat_lit 1, zPqe_startB, zOqe_startB, zMqe_startB), (nat_lit 2, zPqe_tapeWipe, zOqe_tapeWipe, zMqe_tapeWipe)] pCqe_text qCqe_text) 1).1 [] η4
          have wk0 : yp_wk η := hpp.2
          have hpp := hpp.1
          intro c1 x2 e2 r2 c2 x3 η1 h3 η2 eη2 x4 e4 r4 η3 eη3 x5 e5 r5 η4 eη4 c3
          have y3 : fQqe_read [x1] η x3 η1 := h3.2.2
          have k3 : sQ wl_qe zTr zOqe_read zMqe_read [x1] η x3 η1 ∧ oQqe_read [x1] η x3 η1 := ⟨h3.1, h3.2.1⟩
          have g : GB_q η1 := gb_of k3.2.1 (k3.2.2 c3)
          refine ⟨?_, ?_⟩
          · rw [eη4, eη3, eη2]
            exact zGk_up gkB_q (zGk_up gkB_q (zGk_up gkB_q g (by decide +kernel)) (by decide +kernel)) (by decide +kernel)
          · rw [eη4, eη3, eη2]
            exact zGk_up gk_r (zGk_up gk_r (zGk_up gk_r k3.2.1.1 (by decide +kernel)) (by decide +kernel)) (by decide +kernel)
        · show (0 ≤ x1) → ∀ x2 : Int, x2 = η 0 (Int.toNat 1) → zok 0 x2 → (x1 ≤ x2) → ∀ (x3 : Int) (η1 : zE), ((gC2 wl_qe [(nat_lit 0, zPqe_read, zOqe_read, zMqe_read), (nat_lit 1, zPqe_startB, zOqe_startB, zMqe_startB), (nat_lit 2, zPqe_tapeWipe, zOqe_tapeWipe, zMqe_tapeWipe)] pCqe_text qCqe_text) 0).2 [x1] η x3 η1 → ∀ η2 : zE, η2 = zup η1 0 (Int.toNat 1) 0 → ∀ x4 : Int, x4 = η2 60 (Int.toNat 0) → zok 0 x4 → ∀ η3 : zE, η3 = zup η2 0 (Int.toNat 2) x4 → ∀ x5 : Int, x5 = η3 60 (Int.toNat 1) → zok 0 x5 → ∀ η4 : zE, η4 = zup η3 0 (Int.toNat 3) x5 → (¬ x3 = 0) → ∀ (x6 : Int) (η5 : zE), ((gC2 wl_qe [(nat_lit 0, zPqe_read, zOqe_read, zMqe_read), (nat_lit 1, zPqe_startB, zOqe_startB, zMqe_startB), (nat_lit 2, zPqe_tapeWipe, zOqe_tapeWipe, zMqe_tapeWipe)] pCqe_text qCqe_text) 1).2 [] η4 x6 η5 → ((gC2 wl_qe [(nat_lit 0, zPqe_read, zOqe_read, zMqe_read), (nat_lit 1, zPqe_startB, zOqe_startB, zMqe_startB), (nat_lit 2, zPqe_tapeWipe, zOqe_tapeWipe, zMqe_tapeWipe)] pCqe_text qCqe_text) 2).1 [] η5
          have wk0 : yp_wk η := hpp.2
          have hpp := hpp.1
          intro c1 x2 e2 r2 c2 x3 η1 h3 η2 eη2 x4 e4 r4 η3 eη3 x5 e5 r5 η4 eη4 c3 x6 η5 h6
          have y3 : fQqe_read [x1] η x3 η1 := h3.2.2
          have k3 : sQ wl_qe zTr zOqe_read zMqe_read [x1] η x3 η1 ∧ oQqe_read [x1] η x3 η1 := ⟨h3.1, h3.2.1⟩
          have k6 : sQ wl_qe zTr zOqe_startB zMqe_startB [] η4 x6 η5 ∧ pQqe_startB [] η4 x6 η5 := h6
          exact k6.2
        · show (0 ≤ x1) → ∀ x2 : Int, x2 = η 0 (Int.toNat 1) → zok 0 x2 → (x1 ≤ x2) → ∀ (x3 : Int) (η1 : zE), ((gC2 wl_qe [(nat_lit 0, zPqe_read, zOqe_read, zMqe_read), (nat_lit 1, zPqe_startB, zOqe_startB, zMqe_startB), (nat_lit 2, zPqe_tapeWipe, zOqe_tapeWipe, zMqe_tapeWipe)] pCqe_text qCqe_text) 0).2 [x1] η x3 η1 → ∀ η2 : zE, η2 = zup η1 0 (Int.toNat 1) 0 → ∀ x4 : Int, x4 = η2 60 (Int.toNat 0) → zok 0 x4 → ∀ η3 : zE, η3 = zup η2 0 (Int.toNat 2) x4 → ∀ x5 : Int, x5 = η3 60 (Int.toNat 1) → zok 0 x5 → ∀ η4 : zE, η4 = zup η3 0 (Int.toNat 3) x5 → (¬ x3 = 0) → ∀ (x6 : Int) (η5 : zE), ((gC2 wl_qe [(nat_lit 0, zPqe_read, zOqe_read, zMqe_read), (nat_lit 1, zPqe_startB, zOqe_startB, zMqe_startB), (nat_lit 2, zPqe_tapeWipe, zOqe_tapeWipe, zMqe_tapeWipe)] pCqe_text qCqe_text) 1).2 [] η4 x6 η5 → ∀ (x7 : Int) (η6 : zE), ((gC2 wl_qe [(nat_lit 0, zPqe_read, zOqe_read, zMqe_read), (nat_lit 1, zPqe_startB, zOqe_startB, zMqe_startB), (nat_lit 2, zPqe_tapeWipe, zOqe_tapeWipe, zMqe_tapeWipe)] pCqe_text qCqe_text) 2).2 [] η5 x7 η6 → ∀ η7 : zE, η7 = zup η6 91 (Int.toNat 0) 0 → ∀ η8 : zE, η8 = zup η7 0 (Int.toNat 9) 0 → ∀ x8 : Int, x8 = η8 32 (Int.toNat 0) → zok 0 x8 → (pWqe_text [x1] η) 1 x8 η8
          have wk0 : yp_wk η := hpp.2
          have hpp := hpp.1
          intro c1 x2 e2 r2 c2 x3 η1 h3 η2 eη2 x4 e4 r4 η3 eη3 x5 e5 r5 η4 eη4 c3 x6 η5 h6 x7 η6 h7 η7 eη7 η8 eη8 x8 e8 r8
          have y3 : fQqe_read [x1] η x3 η1 := h3.2.2
          have k3 : sQ wl_qe zTr zOqe_read zMqe_read [x1] η x3 η1 ∧ oQqe_read [x1] η x3 η1 := ⟨h3.1, h3.2.1⟩
          have k6 : sQ wl_qe zTr zOqe_startB zMqe_startB [] η4 x6 η5 ∧ pQqe_startB [] η4 x6 η5 := h6
          have k7 : sQ wl_qe zTr zOqe_tapeWipe zMqe_tapeWipe [] η5 x7 η6 ∧ pQqe_tapeWipe [] η5 x7 η6 := h7
          refine yj_a ?_ ?_
          · have y3 : fQqe_read [x1] η x3 η1 := h3.2.2
            have k3 : sQ wl_qe zTr zOqe_read zMqe_read [x1] η x3 η1 ∧ oQqe_read [x1] η x3 η1 := ⟨h3.1, h3.2.1⟩
            have k6 : sQ wl_qe zTr zOqe_startB zMqe_startB [] η4 x6 η5 ∧ pQqe_startB [] η4 x6 η5 := h6
            have k7 : sQ wl_qe zTr zOqe_tapeWipe zMqe_tapeWipe [] η5 x7 η6 ∧ pQqe_tapeWipe [] η5 x7 η6 := h7
            have z4 : η4 0 1 = 0 := by rw [eη4, zup_ne (fun _ e => absurd e (by decide)), eη3, zup_ne (fun _ e => absurd e (by decide)), eη2]; exact zup_eq
            have e2 : x2 = η 0 1 := e2
            have z5 : η5 0 1 = η4 0 1 := k6.1.2.2.2.1 _ _ (by decide +kernel)
            have z6 : η6 0 1 = η5 0 1 := k7.1.2.2.2.1 _ _ (by decide +kernel)
            have z8 : η8 0 1 = 0 := by rw [eη8, zup_ne (fun _ e => absurd e (by decide)), eη7, zup_ne (fun e _ => absurd e (by decide)), z6, z5, z4]
            refine ⟨?_, ?_, fun (w : x1 < 0 ∨ η 0 1 < x1) => by omega, fun _ _ => z8⟩
            · rw [eη8, eη7]
              exact zGk_up gkB_q (zGk_up gkB_q k7.2.1 (by decide +kernel)) (by decide +kernel)
            · rw [eη8, eη7]
              exact zGk_up gk_r (zGk_up gk_r k7.2.2 (by decide +kernel)) (by decide +kernel)
          · have e2 : x2 = η 0 1 := e2
            obtain ⟨y, z⟩ : x3 = (if yp_R x1 η 60 0 = 0 then 1 else 0) ∧ η1 = yp_R x1 η := y3
            have e4 : x4 = η2 60 0 := e4
            have e5 : x5 = η3 60 1 := e5
            have q0 : x4 = yp_R x1 η 60 0 := by rw [e4, eη2, ← z]; rfl
            have q1 : x5 = yp_R x1 η 60 1 := by rw [e5, eη3, eη2, ← z]; rfl
            have f2 : η4 0 2 = yp_R x1 η 60 0 := by rw [eη4, eη3, ← q0]; rfl
            have f3 : η4 0 3 = yp_R x1 η 60 1 := by rw [eη4, ← q1]; rfl
            have hn : yp_R x1 η 60 0 = 0 := by
              by_cases w : yp_R x1 η 60 0 = 0
              · exact w
              · rw [if_neg w] at y
                omega
            have fr : ∀ r j, 32 ≤ r → r ≤ 50 → η8 r j = yp_R x1 η r j := fun r j a b => by
              rw [eη8, zup_ne (fun e _ => by omega), eη7, zup_ne (fun e _ => by omega), k7.1.2.2.2.1 r j (in_no (by decide) a b), k6.1.2.2.2.1 r j (in_no (by decide) a b), eη4, zup_ne (fun e _ => by omega), eη3, zup_ne (fun e _ => by omega), eη2, zup_ne (fun e _ => by omega), z]
            have g2 : η8 0 2 = η4 0 2 := by
              rw [eη8, zup_ne (fun _ e => by omega), eη7, zup_ne (fun e _ => by omega), k7.1.2.2.2.1 0 2 (by decide +kernel), k6.1.2.2.2.1 0 2 (by decide +kernel)]
            have g3 : η8 0 3 = η4 0 3 := by
              rw [eη8, zup_ne (fun _ e => by omega), eη7, zup_ne (fun e _ => by omega), k7.1.2.2.2.1 0 3 (by decide +kernel), k6.1.2.2.2.1 0 3 (by decide +kernel)]
            have e8 : x8 = η8 32 0 := e8
            show yp_t1 x1 η _ _
            exact ⟨by omega, by omega, hn, e8.trans (fr 32 0 (by decide) (by decide)), g2.trans f2, g3.trans f3, fr⟩
        · show (0 ≤ x1) → ∀ x2 : Int, x2 = η 0 (Int.toNat 1) → zok 0 x2 → (x1 ≤ x2) → ∀ (x3 : Int) (η1 : zE), ((gC2 wl_qe [(nat_lit 0, zPqe_read, zOqe_read, zMqe_read), (nat_lit 1, zPqe_startB, zOqe_startB, zMqe_startB), (nat_lit 2, zPqe_tapeWipe, zOqe_tapeWipe, zMqe_tapeWipe)] pCqe_text qCqe_text) 0).2 [x1] η x3 η1 → ∀ η2 : zE, η2 = zup η1 0 (Int.toNat 1) 0 → ∀ x4 : Int, x4 = η2 60 (Int.toNat 0) → zok 0 x4 → ∀ η3 : zE, η3 = zup η2 0 (Int.toNat 2) x4 → ∀ x5 : Int, x5 = η3 60 (Int.toNat 1) → zok 0 x5 → ∀ η4 : zE, η4 = zup η3 0 (Int.toNat 3) x5 → (x3 = 0) → (pWqe_text [x1] η) 0 (-1) η4
          have wk0 : yp_wk η := hpp.2
          have hpp := hpp.1
          intro c1 x2 e2 r2 c2 x3 η1 h3 η2 eη2 x4 e4 r4 η3 eη3 x5 e5 r5 η4 eη4 c3
          have y3 : fQqe_read [x1] η x3 η1 := h3.2.2
          have k3 : sQ wl_qe zTr zOqe_read zMqe_read [x1] η x3 η1 ∧ oQqe_read [x1] η x3 η1 := ⟨h3.1, h3.2.1⟩
          refine yj_a ?_ ?_
          · have y3 : fQqe_read [x1] η x3 η1 := h3.2.2
            have k3 : sQ wl_qe zTr zOqe_read zMqe_read [x1] η x3 η1 ∧ oQqe_read [x1] η x3 η1 := ⟨h3.1, h3.2.1⟩
            have z4 : η4 0 1 = 0 := by rw [eη4, zup_ne (fun _ e => absurd e (by decide)), eη3, zup_ne (fun _ e => absurd e (by decide)), eη2]; exact zup_eq
            have e2 : x2 = η 0 1 := e2
            have g : GA_q η1 := zGk_fm gkA_q hpp.1 k3.1.2.2.2.1 (by decide +kernel)
            refine ⟨?_, ?_, fun (w : x1 < 0 ∨ η 0 1 < x1) => by omega, fun _ _ => z4⟩
            · rw [eη4, eη3, eη2]
              exact zGk_up gkA_q (zGk_up gkA_q (zGk_up gkA_q g (by decide +kernel)) (by decide +kernel)) (by decide +kernel)
            · rw [eη4, eη3, eη2]
              exact zGk_up gk_r (zGk_up gk_r (zGk_up gk_r k3.2.1.1 (by decide +kernel)) (by decide +kernel)) (by decide +kernel)
          · have e2 : x2 = η 0 1 := e2
            obtain ⟨y, z⟩ : x3 = (if yp_R x1 η 60 0 = 0 then 1 else 0) ∧ η1 = yp_R x1 η := y3
            have e4 : x4 = η2 60 0 := e4
            have e5 : x5 = η3 60 1 := e5
            have q0 : x4 = yp_R x1 η 60 0 := by rw [e4, eη2, ← z]; rfl
            have q1 : x5 = yp_R x1 η 60 1 := by rw [e5, eη3, eη2, ← z]; rfl
            have f2 : η4 0 2 = yp_R x1 η 60 0 := by rw [eη4, eη3, ← q0]; rfl
            have f3 : η4 0 3 = yp_R x1 η 60 1 := by rw [eη4, ← q1]; rfl
            have hn : ¬ yp_R x1 η 60 0 = 0 := fun w => by
              rw [if_pos w] at y
              omega
            show yp_t0 x1 η _ _
            exact ⟨fun a => by omega, fun _ _ => ⟨rfl, hn, f2, f3⟩⟩
        · show (0 ≤ x1) → ∀ x2 : Int, x2 = η 0 (Int.toNat 1) → zok 0 x2 → (x2 < x1) → (pWqe_text [x1] η) 0 (-2) η
          have wk0 : yp_wk η := hpp.2
          have hpp := hpp.1
          intro c1 x2 e2 r2 c2
          refine yj_a ?_ ?_
          · have e2 : x2 = η 0 1 := e2
            exact ⟨hpp.1, hpp.2, fun _ => rfl, fun _ (b : x1 ≤ η 0 1) => by omega⟩
          · have e2 : x2 = η 0 1 := e2
            show yp_t0 x1 η _ _
            exact ⟨fun _ => ⟨rfl, rfl, rfl⟩, fun a b => by omega⟩
      )
    (fun _ _ _ _ _ _ _ h => nomatch h)
    (fun _ h => nomatch h))
