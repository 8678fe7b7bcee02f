def tm_qe : zTm := tm_u
def wl_qe : wL := wl_u
def G_qe : zE → Prop := G_q
theorem gr_wip {s : zE} (h : G_r s) : G_r (yp_wip s) := h
theorem in_no {m : List zCe} {r j : Nat} (h : m.all (fun q => Nat.blt q.1 32 || Nat.blt 50 q.1) = true) (a : 32 ≤ r) (b : r ≤ 50) : zin2 m r j = false := by
  refine Bool.eq_false_iff.mpr (fun w => ?_)
  obtain ⟨q, q1, q2, q3⟩ := zin2_mem w
  have := List.all_eq_true.mp h q q1
  have e : q.1 = r := q2
  rcases (Bool.or_eq_true _ _).mp this with g | g
  · have := Nat.le_of_ble_eq_true g; omega
  · have := Nat.le_of_ble_eq_true g; omega
def zPqe_next : zPq := zPu_next
def zOqe_next : zPo := zOu_next
def zMqe_next : List zCe := zMu_next
def oPqe_next : List Int → zE → Prop := fun _ η => G_q η
def pPqe_next : List Int → zE → Prop := fun xs η => oPqe_next xs η ∧ yp_wk η
def oQqe_next : List Int → zE → Int → zE → Prop := fun _ _ _ η' => G_q η'
def fQqe_next : List Int → zE → Int → zE → Prop := fun xs η _ η' => η' = (yp_adv η)
def pQqe_next : List Int → zE → Int → zE → Prop := fun xs η y η' => oQqe_next xs η y η' ∧ fQqe_next xs η y η'
theorem zqe_next {ro : Nat → List Int32} : zMet pr_P pr_K pr_df ro (sm_X0 1 6) 2 45 tm_qe [(.inr (.inr (.inl (nat_lit 60))))] 0 [(nat_lit 60, nat_lit 3, nat_lit 1), (nat_lit 60, nat_lit 9, nat_lit 61), (nat_lit 60, nat_lit 10, nat_lit 62), (nat_lit 60, nat_lit 11, nat_lit 63), (nat_lit 60, nat_lit 2, nat_lit 32), (nat_lit 32, nat_lit 8, nat_lit 33), (nat_lit 32, nat_lit 9, nat_lit 34), (nat_lit 32, nat_lit 10, nat_lit 35), (nat_lit 32, nat_lit 11, nat_lit 36), (nat_lit 32, nat_lit 12, nat_lit 41), (nat_lit 32, nat_lit 13, nat_lit 46), (nat_lit 32, nat_lit 14, nat_lit 47), (nat_lit 36, nat_lit 0, nat_lit 37), (nat_lit 41, nat_lit 0, nat_lit 42), (nat_lit 36, nat_lit 1, nat_lit 38), (nat_lit 41, nat_lit 1, nat_lit 43), (nat_lit 36, nat_lit 2, nat_lit 39), (nat_lit 41, nat_lit 2, nat_lit 44), (nat_lit 36, nat_lit 3, nat_lit 40), (nat_lit 41, nat_lit 3, nat_lit 45), (nat_lit 47, nat_lit 2, nat_lit 48), (nat_lit 47, nat_lit 3, nat_lit 49), (nat_lit 47, nat_lit 4, nat_lit 50), (nat_lit 47, nat_lit 5, nat_lit 51), (nat_lit 47, nat_lit 6, nat_lit 52)] [] (fun xs η => sP wl_qe zTr zPqe_next xs η ∧ pPqe_next xs η) (fun xs η y η' => sQ wl_qe zTr zOqe_next zMqe_next xs η y η' ∧ pQqe_next xs η y η') :=
  zmet_w (L := wl_u) (P1 := pPu_next) (Q1 := pQu_next) zu_next (fun xs η _ _ => trivial) (fun xs η y η' p hh g q => by
    have h := hh.1
    have ex : η' = (yp_adv η) := q hh.2
    have w : G_r η' := by rw [ex]; exact gr_adv
    exact ⟨⟨w, hk_q η η' (fun r j hr => g.2.2.2.1 r j (zdj_ok (by decide +kernel) hr)) h.2⟩, ex⟩)
def zPqe_flaw : zPq := zPu_flaw
def zOqe_flaw : zPo := zOu_flaw
def zMqe_flaw : List zCe := zMu_flaw
def oPqe_flaw : List Int → zE → Prop := fun _ η => G_q η
def pPqe_flaw : List Int → zE → Prop := fun xs η => oPqe_flaw xs η ∧ yp_wk η
def oQqe_flaw : List Int → zE → Int → zE → Prop := fun _ _ _ η' => G_q η'
def fQqe_flaw : List Int → zE → Int → zE → Prop := fun xs η _ η' => η' = yp_flw (xs.getD 0 0) (xs.getD 1 0) η
def pQqe_flaw : List Int → zE → Int → zE → Prop := fun xs η y η' => oQqe_flaw xs η y η' ∧ fQqe_flaw xs η y η'
theorem zqe_flaw {ro : Nat → List Int32} : zMet pr_P pr_K pr_df ro (sm_X0 1 6) 0 31 tm_qe [(.inr (.inr (.inl (nat_lit 60)))), (.inl (nat_lit 1, (.ofNat (nat_lit 0)))), (.inl (nat_lit 2, (.ofNat (nat_lit 0))))] 0 [(nat_lit 60, nat_lit 3, nat_lit 1), (nat_lit 60, nat_lit 9, nat_lit 61), (nat_lit 60, nat_lit 10, nat_lit 62), (nat_lit 60, nat_lit 11, nat_lit 63), (nat_lit 60, nat_lit 2, nat_lit 32), (nat_lit 32, nat_lit 8, nat_lit 33), (nat_lit 32, nat_lit 9, nat_lit 34), (nat_lit 32, nat_lit 10, nat_lit 35), (nat_lit 32, nat_lit 11, nat_lit 36), (nat_lit 32, nat_lit 12, nat_lit 41), (nat_lit 32, nat_lit 13, nat_lit 46), (nat_lit 32, nat_lit 14, nat_lit 47), (nat_lit 36, nat_lit 0, nat_lit 37), (nat_lit 41, nat_lit 0, nat_lit 42), (nat_lit 36, nat_lit 1, nat_lit 38), (nat_lit 41, nat_lit 1, nat_lit 43), (nat_lit 36, nat_lit 2, nat_lit 39), (nat_lit 41, nat_lit 2, nat_lit 44), (nat_lit 36, nat_lit 3, nat_lit 40), (nat_lit 41, nat_lit 3, nat_lit 45), (nat_lit 47, nat_lit 2, nat_lit 48), (nat_lit 47, nat_lit 3, nat_lit 49), (nat_lit 47, nat_lit 4, nat_lit 50), (nat_lit 47, nat_lit 5, nat_lit 51), (nat_lit 47, nat_lit 6, nat_lit 52)] [] (fun xs η => sP wl_qe zTr zPqe_flaw xs η ∧ pPqe_flaw xs η) (fun xs η y η' => sQ wl_qe zTr zOqe_flaw zMqe_flaw xs η y η' ∧ pQqe_flaw xs η y η') :=
  zmet_w (L := wl_u) (P1 := pPu_flaw) (Q1 := pQu_flaw) zu_flaw (fun xs η _ _ => trivial) (fun xs η y η' p hh g q => by
    have h := hh.1
    have ex : η' = yp_flw (xs.getD 0 0) (xs.getD 1 0) η := q
    have w : G_r η' := by rw [ex]; exact gr_flw h.1
    exact ⟨⟨w, H_fault h.2 (fun e => by have q : (1 : Int) ≤ η' 60 0 ∧ η' 60 0 ≤ 3 := g.2.2.1 _ (List.mem_of_getElem? (i := 0) rfl); omega) (fun j => g.2.2.2.1 _ _ (zinr_not (by decide +kernel))) (fun j => g.2.2.2.1 _ _ (zinr_not (by decide +kernel)))⟩, ex⟩)
def zPqe_add : zPq := ([((.negSucc (nat_lit 2147483647)), (.ofNat (nat_lit 2147483647)))], [])
def zOqe_add : zPo := (((.ofNat (nat_lit 0)), (.ofNat (nat_lit 0))), [], [])
def zMqe_add : List zCe := [(nat_lit 47, nat_lit 2), (nat_lit 48, nat_lit 0)]
def oPqe_add : List Int → zE → Prop := fun xs η => G_q η ∧ (η 60 0 = 0 → -13 ≤ xs.getD 0 0 ∧ xs.getD 0 0 ≤ 10006)
def pPqe_add : List Int → zE → Prop := fun xs η => oPqe_add xs η ∧ yp_wk η
def oQqe_add : List Int → zE → Int → zE → Prop := (fun _ _ _ η' => G_qe η')
def fQqe_add : List Int → zE → Int → zE → Prop := fun xs η y η' => η' = (yp_add (xs.getD 0 0) η)
def pQqe_add : List Int → zE → Int → zE → Prop := fun xs η y η' => oQqe_add xs η y η' ∧ fQqe_add xs η y η'
def pCqe_add : Nat → List Int → zE → Prop := fun c => match c with
  | _ => fun _ _ => True
def qCqe_add : Nat → List Int → zE → Int → zE → Prop := fun c => match c with
  | _ => fun _ _ _ _ => True
def iCqe_add : List Int → zE → Nat → List Int → zE → Prop := fun xs η0 c => match c with
  | _ => fun _ _ => True
def zVqe_add : List zIv := []
def zDqe_add : List (List zK) := [[(nat_lit 7, nat_lit 0, [(nat_lit 3, (.ofNat (nat_lit 0))), (nat_lit 0, (.ofNat (nat_lit 64)))]), (nat_lit 4, nat_lit 0, [(nat_lit 47, (.ofNat (nat_lit 0))), (nat_lit 0, (.ofNat (nat_lit 1)))]), (nat_lit 6, nat_lit 2, [(nat_lit 2, (.ofNat (nat_lit 0))), (nat_lit 0, (.ofNat (nat_lit 64)))]), (nat_lit 4, nat_lit 0, [(nat_lit 47, (.ofNat (nat_lit 0))), (nat_lit 0, (.ofNat (nat_lit 1)))])]]
def zEqe_add : List (List zK) := [[(nat_lit 11, nat_lit 0, [(nat_lit 0, (.ofNat (nat_lit 0)))]), (nat_lit 6, nat_lit 3, [(nat_lit 2, (.ofNat (nat_lit 0))), (nat_lit 0, (.ofNat (nat_lit 64)))]), (nat_lit 4, nat_lit 0, [(nat_lit 47, (.ofNat (nat_lit 0))), (nat_lit 0, (.ofNat (nat_lit 1)))])],
  [(nat_lit 11, nat_lit 0, [(nat_lit 0, (.ofNat (nat_lit 0)))]), (nat_lit 5, nat_lit 0, [(nat_lit 47, (.ofNat (nat_lit 0))), (nat_lit 0, (.ofNat (nat_lit 1))), (nat_lit 5, (.ofNat (nat_lit 0)))]), (nat_lit 0, nat_lit 1, [(nat_lit 4, (.ofNat (nat_lit 0))), (nat_lit 0, (.ofNat (nat_lit 1)))]), (nat_lit 4, nat_lit 0, [(nat_lit 47, (.ofNat (nat_lit 0))), (nat_lit 0, (.ofNat (nat_lit 1)))]), (nat_lit 5, nat_lit 0, [(nat_lit 48, (.ofNat (nat_lit 0))), (nat_lit 3, (.ofNat (nat_lit 0))), (nat_lit 1, (.ofNat (nat_lit 0)))]), (nat_lit 4, nat_lit 0, [(nat_lit 47, (.ofNat (nat_lit 0))), (nat_lit 0, (.ofNat (nat_lit 1)))]), (nat_lit 6, nat_lit 2, [(nat_lit 2, (.ofNat (nat_lit 0))), (nat_lit 0, (.ofNat (nat_lit 64)))]), (nat_lit 4, nat_lit 0, [(nat_lit 47, (.ofNat (nat_lit 0))), (nat_lit 0, (.ofNat (nat_lit 1)))])]]
def zFqe_add : List (List zK) := []
set_option maxHeartbeats 8000000 in
theorem zqe_add {ro : Nat → List Int32} : zMet pr_P pr_K pr_df ro (sm_X0 1 6) 0 3 tm_qe [(.inr (.inr (.inl (nat_lit 47)))), (.inl (nat_lit 1, (.ofNat (nat_lit 0))))] 0 [(nat_lit 47, nat_lit 2, nat_lit 48), (nat_lit 47, nat_lit 3, nat_lit 49), (nat_lit 47, nat_lit 4, nat_lit 50), (nat_lit 47, nat_lit 5, nat_lit 51), (nat_lit 47, nat_lit 6, nat_lit 52)] [] (fun xs η => sP wl_qe zTr zPqe_add xs η ∧ pPqe_add xs η) (fun xs η y η' => sQ wl_qe zTr zOqe_add zMqe_add xs η y η' ∧ pQqe_add xs η y η') :=
  zmet_alt (zmea_gen (mi := (nat_lit 1, nat_lit 1, nat_lit 0, nat_lit 2, nat_lit 0, tX0_add)) (cd := []) (cu := []) (cs := []) (iv := zVqe_add) (po := [zOqe_add]) (pr := zPqe_add) (mods := zMqe_add) (D7 := zDqe_add) (D0 := zEqe_add) (Dm := zFqe_add) (f0 := 21) pCqe_add qCqe_add iCqe_add pPqe_add (fun xs η _ y η' => pQqe_add xs η y η') zX_low pr_mtR rfl (fun _ h => nomatch h) (by decide +kernel) (by decide +kernel) (by decide +kernel)
    (by
      intro xs η hr hl hp hpp
      match xs, hl, hp, hpp with
      | [x1], _, hp, hpp =>
        refine List.forall_mem_cons.mpr ⟨?_, List.forall_mem_cons.mpr ⟨?_, fun _ h => nomatch h⟩⟩
        · show ∀ x2 : Int, x2 = η 47 (Int.toNat 1) → zok 0 x2 → (64 ≤ x2) → (fun (_ : Nat) (y : Int) (η' : zE) => pQqe_add [x1] η y η') 0 0 η
          have wk0 : yp_wk η := hpp.2
          have hpp := hpp.1
          intro x2 e2 r2 c1
          refine yj_a ?_ ?_
          · exact hpp.1
          · have e2 : x2 = η 47 1 := e2
            clear r2
            show η = (yp_add x1 η)
            subst e2
            unfold yp_add
            (repeat' split) <;> first | (exfalso; omega) | rfl
        · show ∀ x2 : Int, x2 = η 47 (Int.toNat 1) → zok 0 x2 → (x2 < 64) → ∀ x3 : Int, x3 = η 47 (Int.toNat 1) → zok 0 x3 → ∀ η1 : zE, η1 = zup η 48 (Int.toNat x3) x1 → ∀ x4 : Int, x4 = η1 47 (Int.toNat 1) → zok 0 x4 → ∀ x5 : Int, x5 = zd 0 1 x4 1 → ∀ η2 : zE, η2 = zup η1 47 (Int.toNat 1) x5 → (fun (_ : Nat) (y : Int) (η' : zE) => pQqe_add [x1] η y η') 0 0 η2
          have wk0 : yp_wk η := hpp.2
          have hpp := hpp.1
          intro x2 e2 r2 c1 x3 e3 r3 η1 eη1 x4 e4 r4 x5 e5 η2 eη2
          refine yj_a ?_ ?_
          · have b1 : (0 : Int) ≤ η 47 1 ∧ η 47 1 ≤ 64 := wf_ok (a := 1) (b := 1) (z := (0, 64)) hp.1 (by decide +kernel) (Nat.le_refl _) (Nat.le_refl _)
            have e3 : x3 = η 47 1 := e3
            have q1 : η1 47 1 = η 47 1 := by rw [eη1]; exact zup_ne (fun e _ => absurd e (by decide))
            have e4 : x4 = η1 47 1 := e4
            have h5 : x5 = η 47 1 + 1 := by rw [e5, e4, q1]; exact zd_a ⟨by omega, by omega⟩
            show G_q η2
            rw [eη2, eη1, h5, e3]
            exact add_q hpp.1 hpp.2 b1.1
          · have e2 : x2 = η 47 1 := e2
            clear r2
            have e3 : x3 = η 47 1 := e3
            clear r3
            have eη1 : η1 = zup η 48 (Int.toNat x3) x1 := eη1
            have e4 : x4 = η1 47 1 := e4
            clear r4
            have eη2 : η2 = zup η1 47 1 x5 := eη2
            show η2 = (yp_add x1 η)
            subst e2
            subst e3
            subst eη1
            subst e4
            subst e5
            subst eη2
            unfold yp_add
            (repeat' split) <;> first | (exfalso; omega) | rfl
      )
    (fun _ _ _ _ _ _ _ h => nomatch h)
    (fun _ h => nomatch h))
def zPqe_tie : zPq := ([], [])
def zOqe_tie : zPo := (((.ofNat (nat_lit 0)), (.ofNat (nat_lit 0))), [], [])
def zMqe_tie : List zCe := [(nat_lit 60, nat_lit 1), (nat_lit 60, nat_lit 2), (nat_lit 47, nat_lit 1)]
def oPqe_tie : List Int → zE → Prop := (fun _ η => G_qe η)
def pPqe_tie : List Int → zE → Prop := fun xs η => oPqe_tie xs η ∧ yp_wk η
def oQqe_tie : List Int → zE → Int → zE → Prop := fun _ η _ η' => Gd_q 0 1 η' ∧ (¬ η 60 0 = 0 → ¬ η' 60 0 = 0)
def fQqe_tie : List Int → zE → Int → zE → Prop := fun xs η y η' => η' = (yp_tie η)
def pQqe_tie : List Int → zE → Int → zE → Prop := fun xs η y η' => oQqe_tie xs η y η' ∧ fQqe_tie xs η y η'
def pCqe_tie : Nat → List Int → zE → Prop := fun c => match c with
  | 0 => pPqe_flaw
  | _ => fun _ _ => True
def qCqe_tie : Nat → List Int → zE → Int → zE → Prop := fun c => match c with
  | 0 => pQqe_flaw
  | _ => fun _ _ _ _ => True
def iCqe_tie : List Int → zE → Nat → List Int → zE → Prop := fun xs η0 c => match c with
  | _ => fun _ _ => True
def zVqe_tie : List zIv := []
def zDqe_tie : List (List zK) := []
def zEqe_tie : List (List zK) := [[(nat_lit 11, nat_lit 0, [(nat_lit 0, (.ofNat (nat_lit 0)))]), (nat_lit 5, nat_lit 0, [(nat_lit 47, (.ofNat (nat_lit 0))), (nat_lit 0, (.ofNat (nat_lit 0))), (nat_lit 3, (.ofNat (nat_lit 0)))]), (nat_lit 0, nat_lit 1, [(nat_lit 2, (.ofNat (nat_lit 0))), (nat_lit 0, (.ofNat (nat_lit 1)))]), (nat_lit 4, nat_lit 0, [(nat_lit 47, (.ofNat (nat_lit 0))), (nat_lit 0, (.ofNat (nat_lit 0)))]), (nat_lit 6, nat_lit 2, [(nat_lit 1, (.ofNat (nat_lit 0))), (nat_lit 0, (.ofNat (nat_lit 64)))]), (nat_lit 4, nat_lit 0, [(nat_lit 47, (.ofNat (nat_lit 0))), (nat_lit 0, (.ofNat (nat_lit 0)))])],
  [(nat_lit 13, nat_lit 0, [(nat_lit 0, (.ofNat (nat_lit 2))), (nat_lit 2, (.ofNat (nat_lit 0)))]), (nat_lit 4, nat_lit 0, [(nat_lit 60, (.ofNat (nat_lit 0))), (nat_lit 0, (.ofNat (nat_lit 7)))]), (nat_lit 6, nat_lit 3, [(nat_lit 1, (.ofNat (nat_lit 0))), (nat_lit 0, (.ofNat (nat_lit 64)))]), (nat_lit 4, nat_lit 0, [(nat_lit 47, (.ofNat (nat_lit 0))), (nat_lit 0, (.ofNat (nat_lit 0)))])],
  [(nat_lit 11, nat_lit 0, [(nat_lit 0, (.ofNat (nat_lit 0)))]), (nat_lit 8, nat_lit 0, [(nat_lit 0, (.ofNat (nat_lit 2))), (nat_lit 2, (.ofNat (nat_lit 0)))]), (nat_lit 4, nat_lit 0, [(nat_lit 60, (.ofNat (nat_lit 0))), (nat_lit 0, (.ofNat (nat_lit 7)))]), (nat_lit 6, nat_lit 3, [(nat_lit 1, (.ofNat (nat_lit 0))), (nat_lit 0, (.ofNat (nat_lit 64)))]), (nat_lit 4, nat_lit 0, [(nat_lit 47, (.ofNat (nat_lit 0))), (nat_lit 0, (.ofNat (nat_lit 0)))])]]
def zFqe_tie : List (List zK) := []
set_option maxHeartbeats 8000000 in
theorem zqe_tie {ro : Nat → List Int32} : zMet pr_P pr_K pr_df ro (sm_X0 1 6) 1 44 tm_qe [(.inr (.inr (.inl (nat_lit 60))))] 0 [(nat_lit 60, nat_lit 3, nat_lit 1), (nat_lit 60, nat_lit 9, nat_lit 61), (nat_lit 60, nat_lit 10, nat_lit 62), (nat_lit 60, nat_lit 11, nat_lit 63), (nat_lit 60, nat_lit 2, nat_lit 32), (nat_lit 32, nat_lit 8, nat_lit 33), (nat_lit 32, nat_lit 9, nat_lit 34), (nat_lit 32, nat_lit 10, nat_lit 35), (nat_lit 32, nat_lit 11, nat_lit 36), (nat_lit 32, nat_lit 12, nat_lit 41), (nat_lit 32, nat_lit 13, nat_lit 46), (nat_lit 32, nat_lit 14, nat_lit 47), (nat_lit 36, nat_lit 0, nat_lit 37), (nat_lit 41, nat_lit 0, nat_lit 42), (nat_lit 36, nat_lit 1, nat_lit 38), (nat_lit 41, nat_lit 1, nat_lit 43), (nat_lit 36, nat_lit 2, nat_lit 39), (nat_lit 41, nat_lit 2, nat_lit 44), (nat_lit 36, nat_lit 3, nat_lit 40), (nat_lit 41, nat_lit 3, nat_lit 45), (nat_lit 47, nat_lit 2, nat_lit 48), (nat_lit 47, nat_lit 3, nat_lit 49), (nat_lit 47, nat_lit 4, nat_lit 50), (nat_lit 47, nat_lit 5, nat_lit 51), (nat_lit 47, nat_lit 6, nat_lit 52)] [] (fun xs η => sP wl_qe zTr zPqe_tie xs η ∧ pPqe_tie xs η) (fun xs η y η' => sQ wl_qe zTr zOqe_tie zMqe_tie xs η y η' ∧ pQqe_tie xs η y η') :=
  zmet_alt (zmea_gen (mi := (nat_lit 0, nat_lit 1, nat_lit 3, nat_lit 1, nat_lit 0, tX3_tie)) (cd := [(nat_lit 31, nat_lit 0, nat_lit 0, [(.inr (.inr (.inl (nat_lit 60)))), (.inl (nat_lit 1, (.ofNat (nat_lit 0)))), (.inl (nat_lit 2, (.ofNat (nat_lit 0))))], nat_lit 0, [(nat_lit 60, nat_lit 3, nat_lit 1), (nat_lit 60, nat_lit 9, nat_lit 61), (nat_lit 60, nat_lit 10, nat_lit 62), (nat_lit 60, nat_lit 11, nat_lit 63), (nat_lit 60, nat_lit 2, nat_lit 32), (nat_lit 32, nat_lit 8, nat_lit 33), (nat_lit 32, nat_lit 9, nat_lit 34), (nat_lit 32, nat_lit 10, nat_lit 35), (nat_lit 32, nat_lit 11, nat_lit 36), (nat_lit 32, nat_lit 12, nat_lit 41), (nat_lit 32, nat_lit 13, nat_lit 46), (nat_lit 32, nat_lit 14, nat_lit 47), (nat_lit 36, nat_lit 0, nat_lit 37), (nat_lit 41, nat_lit 0, nat_lit 42), (nat_lit 36, nat_lit 1, nat_lit 38), (nat_lit 41, nat_lit 1, nat_lit 43), (nat_lit 36, nat_lit 2, nat_lit 39), (nat_lit 41, nat_lit 2, nat_lit 44), (nat_lit 36, nat_lit 3, nat_lit 40), (nat_lit 41, nat_lit 3, nat_lit 45), (nat_lit 47, nat_lit 2, nat_lit 48), (nat_lit 47, nat_lit 3, nat_lit 49), (nat_lit 47, nat_lit 4, nat_lit 50), (nat_lit 47, nat_lit 5, nat_lit 51), (nat_lit 47, nat_lit 6, nat_lit 52)], [])]) (cu := []) (cs := [(nat_lit 0, zPqe_flaw, zOqe_flaw, zMqe_flaw)]) (iv := zVqe_tie) (po := [zOqe_tie]) (pr := zPqe_tie) (mods := zMqe_tie) (D7 := zDqe_tie) (D0 := zEqe_tie) (Dm := zFqe_tie) (f0 := 19) pCqe_tie qCqe_tie iCqe_tie pPqe_tie (fun xs η _ y η' => pQqe_tie xs η y η') zX_low pr_mtR rfl (List.forall_mem_cons.mpr ⟨zqe_flaw, fun _ h => nomatch h⟩) (by decide +kernel) (by decide +kernel) (by decide +kernel)
    (by
      intro xs η hr hl hp hpp
      match xs, hl, hp, hpp with
      | [], _, hp, hpp =>
        refine List.forall_mem_cons.mpr ⟨?_, List.forall_mem_cons.mpr ⟨?_, List.forall_mem_cons.mpr ⟨?_, fun _ h => nomatch h⟩⟩⟩
        · show ∀ x1 : Int, x1 = η 47 (Int.toNat 0) → zok 0 x1 → (x1 < 64) → ∀ x2 : Int, x2 = η 47 (Int.toNat 0) → zok 0 x2 → ∀ x3 : Int, x3 = zd 0 1 x2 1 → ∀ η1 : zE, η1 = zup η 47 (Int.toNat 0) x3 → (fun (_ : Nat) (y : Int) (η' : zE) => pQqe_tie [] η y η') 0 0 η1
          have wk0 : yp_wk η := hpp.2
          have hpp := hpp.1
          intro x1 e1 r1 c1 x2 e2 r2 x3 e3 η1 eη1
          refine yj_a ?_ ?_
          · have b1 : (0 : Int) ≤ η 47 0 ∧ η 47 0 ≤ 64 := wf_ok (a := 0) (b := 0) (z := (0, 64)) hp.1 (by decide +kernel) (Nat.le_refl _) (Nat.le_refl _)
            have e2 : x2 = η 47 0 := e2
            have h3 : x3 = η 47 0 + 1 := by rw [e3, e2]; exact zd_a ⟨by omega, by omega⟩
            show Gd_q 0 1 η1 ∧ (¬ η 60 0 = 0 → ¬ η1 60 0 = 0)
            refine ⟨?_, fun w => ?_⟩
            · rw [eη1, h3]
              exact tie_q hpp
            · rw [eη1, zup_ne (fun e _ => absurd e (by decide))]
              exact w
          · have e1 : x1 = η 47 0 := e1
            clear r1
            have e2 : x2 = η 47 0 := e2
            clear r2
            have eη1 : η1 = zup η 47 0 x3 := eη1
            show η1 = (yp_tie η)
            subst e1
            subst e2
            subst e3
            subst eη1
            unfold yp_tie
            (repeat' split) <;> first | (exfalso; omega) | rfl
        · show ∀ x1 : Int, x1 = η 47 (Int.toNat 0) → zok 0 x1 → (64 ≤ x1) → ∀ x2 : Int, x2 = η 60 (Int.toNat 7) → zok 0 x2 → ((gC2 wl_qe [(nat_lit 0, zPqe_flaw, zOqe_flaw, zMqe_flaw)] pCqe_tie qCqe_tie) 0).1 [2, x2] η
          have wk0 : yp_wk η := hpp.2
          have hpp := hpp.1
          intro x1 e1 r1 c1 x2 e2 r2
          refine yj_a ?_ ?_
          · exact hpp
          · exact wk0
        · show ∀ x1 : Int, x1 = η 47 (Int.toNat 0) → zok 0 x1 → (64 ≤ x1) → ∀ x2 : Int, x2 = η 60 (Int.toNat 7) → zok 0 x2 → ∀ (x3 : Int) (η1 : zE), ((gC2 wl_qe [(nat_lit 0, zPqe_flaw, zOqe_flaw, zMqe_flaw)] pCqe_tie qCqe_tie) 0).2 [2, x2] η x3 η1 → (fun (_ : Nat) (y : Int) (η' : zE) => pQqe_tie [] η y η') 0 0 η1
          have wk0 : yp_wk η := hpp.2
          have hpp := hpp.1
          intro x1 e1 r1 c1 x2 e2 r2 x3 η1 h3
          have y3 : fQqe_flaw [2, x2] η x3 η1 := h3.2.2
          have k3 : sQ wl_qe zTr zOqe_flaw zMqe_flaw [2, x2] η x3 η1 ∧ oQqe_flaw [2, x2] η x3 η1 := ⟨h3.1, h3.2.1⟩
          refine yj_a ?_ ?_
          · have y3 : fQqe_flaw [2, x2] η x3 η1 := h3.2.2
            have k3 : sQ wl_qe zTr zOqe_flaw zMqe_flaw [2, x2] η x3 η1 ∧ oQqe_flaw [2, x2] η x3 η1 := ⟨h3.1, h3.2.1⟩
            have hf : ¬ η1 60 0 = 0 := (fun e => by have q : (1 : Int) ≤ η1 60 0 ∧ η1 60 0 ≤ 3 := k3.1.2.2.1 _ (List.mem_of_getElem? (i := 0) rfl); omega)
            exact ⟨gd_f k3.2 hf, fun _ => hf⟩
          · have e1 : x1 = η 47 0 := e1
            clear r1
            have e2 : x2 = η 60 7 := e2
            clear r2
            have b3 : η1 = yp_flw 2 x2 η := y3
            clear k3 h3
            show η1 = (yp_tie η)
            subst e1
            subst e2
            subst b3
            unfold yp_tie
            (repeat' split) <;> first | (exfalso; omega) | rfl
      )
    (fun _ _ _ _ _ _ _ h => nomatch h)
    (fun _ h => nomatch h))
def zPqe_push0 : zPq := ([], [])
def zOqe_push0 : zPo := (((.ofNat (nat_lit 0)), (.ofNat (nat_lit 0))), [], [])
def zMqe_push0 : List zCe := [(nat_lit 60, nat_lit 13), (nat_lit 63, nat_lit 0)]
def oPqe_push0 : List Int → zE → Prop := fun _ η => Gd_q 1 1 η
def pPqe_push0 : List Int → zE → Prop := fun xs η => oPqe_push0 xs η ∧ yp_wk η
def oQqe_push0 : List Int → zE → Int → zE → Prop := (fun _ _ _ η' => G_qe η')
def fQqe_push0 : List Int → zE → Int → zE → Prop := fun xs η y η' => η' = (yp_psh 0 η)
def pQqe_push0 : List Int → zE → Int → zE → Prop := fun xs η y η' => oQqe_push0 xs η y η' ∧ fQqe_push0 xs η y η'
def pCqe_push0 : Nat → List Int → zE → Prop := fun c => match c with
  | _ => fun _ _ => True
def qCqe_push0 : Nat → List Int → zE → Int → zE → Prop := fun c => match c with
  | _ => fun _ _ _ _ => True
def iCqe_push0 : List Int → zE → Nat → List Int → zE → Prop := fun xs η0 c => match c with
  | _ => fun _ _ => True
def zVqe_push0 : List zIv := []
def zDqe_push0 : List (List zK) := [[(nat_lit 7, nat_lit 0, [(nat_lit 3, (.ofNat (nat_lit 0))), (nat_lit 0, (.ofNat (nat_lit 72)))]), (nat_lit 4, nat_lit 0, [(nat_lit 60, (.ofNat (nat_lit 0))), (nat_lit 0, (.ofNat (nat_lit 12)))]), (nat_lit 6, nat_lit 2, [(nat_lit 2, (.ofNat (nat_lit 0))), (nat_lit 0, (.ofNat (nat_lit 72)))]), (nat_lit 4, nat_lit 0, [(nat_lit 60, (.ofNat (nat_lit 0))), (nat_lit 0, (.ofNat (nat_lit 12)))]), (nat_lit 6, nat_lit 0, [(nat_lit 1, (.ofNat (nat_lit 0))), (nat_lit 0, (.ofNat (nat_lit 0)))]), (nat_lit 4, nat_lit 0, [(nat_lit 60, (.ofNat (nat_lit 0))), (nat_lit 0, (.ofNat (nat_lit 0)))])]]
def zEqe_push0 : List (List zK) := [[(nat_lit 11, nat_lit 0, [(nat_lit 0, (.ofNat (nat_lit 0)))]), (nat_lit 6, nat_lit 1, [(nat_lit 1, (.ofNat (nat_lit 0))), (nat_lit 0, (.ofNat (nat_lit 0)))]), (nat_lit 4, nat_lit 0, [(nat_lit 60, (.ofNat (nat_lit 0))), (nat_lit 0, (.ofNat (nat_lit 0)))])],
  [(nat_lit 11, nat_lit 0, [(nat_lit 0, (.ofNat (nat_lit 0)))]), (nat_lit 6, nat_lit 3, [(nat_lit 2, (.ofNat (nat_lit 0))), (nat_lit 0, (.ofNat (nat_lit 72)))]), (nat_lit 4, nat_lit 0, [(nat_lit 60, (.ofNat (nat_lit 0))), (nat_lit 0, (.ofNat (nat_lit 12)))]), (nat_lit 6, nat_lit 0, [(nat_lit 1, (.ofNat (nat_lit 0))), (nat_lit 0, (.ofNat (nat_lit 0)))]), (nat_lit 4, nat_lit 0, [(nat_lit 60, (.ofNat (nat_lit 0))), (nat_lit 0, (.ofNat (nat_lit 0)))])],
  [(nat_lit 11, nat_lit 0, [(nat_lit 0, (.ofNat (nat_lit 0)))]), (nat_lit 5, nat_lit 0, [(nat_lit 60, (.ofNat (nat_lit 0))), (nat_lit 0, (.ofNat (nat_lit 12))), (nat_lit 5, (.ofNat (nat_lit 0)))]), (nat_lit 0, nat_lit 1, [(nat_lit 4, (.ofNat (nat_lit 0))), (nat_lit 0, (.ofNat (nat_lit 1)))]), (nat_lit 4, nat_lit 0, [(nat_lit 60, (.ofNat (nat_lit 0))), (nat_lit 0, (.ofNat (nat_lit 12)))]), (nat_lit 5, nat_lit 0, [(nat_lit 63, (.ofNat (nat_lit 0))), (nat_lit 3, (.ofNat (nat_lit 0))), (nat_lit 0, (.ofNat (nat_lit 0)))]), (nat_lit 4, nat_lit 0, [(nat_lit 60, (.ofNat (nat_lit 0))), (nat_lit 0, (.ofNat (nat_lit 12)))]), (nat_lit 6, nat_lit 2, [(nat_lit 2, (.ofNat (nat_lit 0))), (nat_lit 0, (.ofNat (nat_lit 72)))]), (nat_lit 4, nat_lit 0, [(nat_lit 60, (.ofNat (nat_lit 0))), (nat_lit 0, (.ofNat (nat_lit 12)))]), (nat_lit 6, nat_lit 0, [(nat_lit 1, (.ofNat (nat_lit 0))), (nat_lit 0, (.ofNat (nat_lit 0)))]), (nat_lit 4, nat_lit 0, [(nat_lit 60, (.ofNat (nat_lit 0))), (nat_lit 0, (.ofNat (nat_lit 0)))])]]
def zFqe_push0 : List (List zK) := []
set_option maxHeartbeats 8000000 in
theorem zqe_push0 {ro : Nat → List Int32} : zMet pr_P pr_K pr_df ro (sm_X0 1 6) 0 43 tm_qe [(.inr (.inr (.inl (nat_lit 60)))), (.inl (nat_lit 0, (.ofNat (nat_lit 0))))] 0 [(nat_lit 60, nat_lit 3, nat_lit 1), (nat_lit 60, nat_lit 9, nat_lit 61), (nat_lit 60, nat_lit 10, nat_lit 62), (nat_lit 60, nat_lit 11, nat_lit 63), (nat_lit 60, nat_lit 2, nat_lit 32), (nat_lit 32, nat_lit 8, nat_lit 33), (nat_lit 32, nat_lit 9, nat_lit 34), (nat_lit 32, nat_lit 10, nat_lit 35), (nat_lit 32, nat_lit 11, nat_lit 36), (nat_lit 32, nat_lit 12, nat_lit 41), (nat_lit 32, nat_lit 13, nat_lit 46), (nat_lit 32, nat_lit 14, nat_lit 47), (nat_lit 36, nat_lit 0, nat_lit 37), (nat_lit 41, nat_lit 0, nat_lit 42), (nat_lit 36, nat_lit 1, nat_lit 38), (nat_lit 41, nat_lit 1, nat_lit 43), (nat_lit 36, nat_lit 2, nat_lit 39), (nat_lit 41, nat_lit 2, nat_lit 44), (nat_lit 36, nat_lit 3, nat_lit 40), (nat_lit 41, nat_lit 3, nat_lit 45), (nat_lit 47, nat_lit 2, nat_lit 48), (nat_lit 47, nat_lit 3, nat_lit 49), (nat_lit 47, nat_lit 4, nat_lit 50), (nat_lit 47, nat_lit 5, nat_lit 51), (nat_lit 47, nat_lit 6, nat_lit 52)] [] (fun xs η => sP wl_qe zTr zPqe_push0 xs η ∧ pPqe_push0 xs η) (fun xs η y η' => sQ wl_qe zTr zOqe_push0 zMqe_push0 xs η y η' ∧ pQqe_push0 xs η y η') :=
  zmet_alt (zmea_gen (mi := (nat_lit 1, nat_lit 1, nat_lit 3, nat_lit 2, nat_lit 0, tX3_push)) (cd := []) (cu := []) (cs := []) (iv := zVqe_push0) (po := [zOqe_push0]) (pr := zPqe_push0) (mods := zMqe_push0) (D7 := zDqe_push0) (D0 := zEqe_push0) (Dm := zFqe_push0) (f0 := 26) pCqe_push0 qCqe_push0 iCqe_push0 pPqe_push0 (fun xs η _ y η' => pQqe_push0 xs η y η') zX_low pr_mtR rfl (fun _ h => nomatch h) (by decide +kernel) (by decide +kernel) (by decide +kernel)
    (by
      intro xs η hr hl hp hpp
      match xs, hl, hp, hpp with
      | [], _, hp, hpp =>
        refine List.forall_mem_cons.mpr ⟨?_, List.forall_mem_cons.mpr ⟨?_, List.forall_mem_cons.mpr ⟨?_, fun _ h => nomatch h⟩⟩⟩
        · show ∀ x1 : Int, x1 = η 60 (Int.toNat 0) → zok 0 x1 → (¬ x1 = 0) → (fun (_ : Nat) (y : Int) (η' : zE) => pQqe_push0 [] η y η') 0 0 η
          have wk0 : yp_wk η := hpp.2
          have hpp := hpp.1
          intro x1 e1 r1 c1
          refine yj_a ?_ ?_
          · exact gd_f hpp (fun w => c1 (e1.trans w))
          · have e1 : x1 = η 60 0 := e1
            clear r1
            show η = (yp_psh 0 η)
            subst e1
            unfold yp_psh
            (repeat' split) <;> first | (exfalso; omega) | rfl
        · show ∀ x1 : Int, x1 = η 60 (Int.toNat 0) → zok 0 x1 → (x1 = 0) → ∀ x2 : Int, x2 = η 60 (Int.toNat 12) → zok 0 x2 → (72 ≤ x2) → (fun (_ : Nat) (y : Int) (η' : zE) => pQqe_push0 [] η y η') 0 0 η
          have wk0 : yp_wk η := hpp.2
          have hpp := hpp.1
          intro x1 e1 r1 c1 x2 e2 r2 c2
          refine yj_a ?_ ?_
          · have b1 : (0 : Int) ≤ η 47 0 ∧ η 47 0 ≤ 64 := wf_ok (a := 0) (b := 0) (z := (0, 64)) hp.1 (by decide +kernel) (Nat.le_refl _) (Nat.le_refl _)
            have k := hpp.2.1 (e1.symm.trans c1)
            have e2 : x2 = η 60 12 := e2
            omega
          · have e1 : x1 = η 60 0 := e1
            clear r1
            have e2 : x2 = η 60 12 := e2
            clear r2
            show η = (yp_psh 0 η)
            subst e1
            subst e2
            unfold yp_psh
            (repeat' split) <;> first | (exfalso; omega) | rfl
        · show ∀ x1 : Int, x1 = η 60 (Int.toNat 0) → zok 0 x1 → (x1 = 0) → ∀ x2 : Int, x2 = η 60 (Int.toNat 12) → zok 0 x2 → (x2 < 72) → ∀ x3 : Int, x3 = η 60 (Int.toNat 12) → zok 0 x3 → ∀ η1 : zE, η1 = zup η 63 (Int.toNat x3) 0 → ∀ x4 : Int, x4 = η1 60 (Int.toNat 12) → zok 0 x4 → ∀ x5 : Int, x5 = zd 0 1 x4 1 → ∀ η2 : zE, η2 = zup η1 60 (Int.toNat 12) x5 → (fun (_ : Nat) (y : Int) (η' : zE) => pQqe_push0 [] η y η') 0 0 η2
          have wk0 : yp_wk η := hpp.2
          have hpp := hpp.1
          intro x1 e1 r1 c1 x2 e2 r2 c2 x3 e3 r3 η1 eη1 x4 e4 r4 x5 e5 η2 eη2
          refine yj_a ?_ ?_
          · have b1 : (0 : Int) ≤ η 60 12 ∧ η 60 12 ≤ 72 := wf_ok (a := 12) (b := 12) (z := (0, 72)) hp.1 (by decide +kernel) (Nat.le_refl _) (Nat.le_refl _)
            have e3 : x3 = η 60 12 := e3
            have q1 : η1 60 12 = η 60 12 := by rw [eη1]; exact zup_ne (fun e _ => absurd e (by decide))
            have e4 : x4 = η1 60 12 := e4
            have h5 : x5 = η 60 12 + 1 := by rw [e5, e4, q1]; exact zd_a ⟨by omega, by omega⟩
            show G_q η2
            rw [eη2, eη1, h5, e3]
            exact push_q hpp b1.1 (if_pos rfl) rfl
          · have e1 : x1 = η 60 0 := e1
            clear r1
            have e2 : x2 = η 60 12 := e2
            clear r2
            have e3 : x3 = η 60 12 := e3
            clear r3
            have eη1 : η1 = zup η 63 (Int.toNat x3) 0 := eη1
            have e4 : x4 = η1 60 12 := e4
            clear r4
            have eη2 : η2 = zup η1 60 12 x5 := eη2
            show η2 = (yp_psh 0 η)
            subst e1
            subst e2
            subst e3
            subst eη1
            subst e4
            subst e5
            subst eη2
            unfold yp_psh
            (repeat' split) <;> first | (exfalso; omega) | rfl
      )
    (fun _ _ _ _ _ _ _ h => nomatch h)
    (fun _ h => nomatch h))
def zPqe_push : zPq := ([((.ofNat (nat_lit 1)), (.ofNat (nat_lit 13)))], [])
def zOqe_push : zPo := (((.ofNat (nat_lit 0)), (.ofNat (nat_lit 0))), [], [])
def zMqe_push : List zCe := [(nat_lit 60, nat_lit 13), (nat_lit 63, nat_lit 0)]
def oPqe_push : List Int → zE → Prop := fun _ η => Gd_q 0 1 η
def pPqe_push : List Int → zE → Prop := fun xs η => oPqe_push xs η ∧ yp_wk η
def oQqe_push : List Int → zE → Int → zE → Prop := (fun _ _ _ η' => G_qe η')
def fQqe_push : List Int → zE → Int → zE → Prop := fun xs η y η' => η' = (yp_psh (xs.getD 0 0) η)
def pQqe_push : List Int → zE → Int → zE → Prop := fun xs η y η' => oQqe_push xs η y η' ∧ fQqe_push xs η y η'
def pCqe_push : Nat → List Int → zE → Prop := fun c => match c with
  | _ => fun _ _ => True
def qCqe_push : Nat → List Int → zE → Int → zE → Prop := fun c => match c with
  | _ => fun _ _ _ _ => True
def iCqe_push : List Int → zE → Nat → List Int → zE → Prop := fun xs η0 c => match c with
  | _ => fun _ _ => True
def zVqe_push : List zIv := []
def zDqe_push : List (List zK) := [[(nat_lit 7, nat_lit 0, [(nat_lit 4, (.ofNat (nat_lit 0))), (nat_lit 0, (.ofNat (nat_lit 72)))]), (nat_lit 4, nat_lit 0, [(nat_lit 60, (.ofNat (nat_lit 0))), (nat_lit 0, (.ofNat (nat_lit 12)))]), (nat_lit 6, nat_lit 2, [(nat_lit 3, (.ofNat (nat_lit 0))), (nat_lit 0, (.ofNat (nat_lit 72)))]), (nat_lit 4, nat_lit 0, [(nat_lit 60, (.ofNat (nat_lit 0))), (nat_lit 0, (.ofNat (nat_lit 12)))]), (nat_lit 6, nat_lit 0, [(nat_lit 2, (.ofNat (nat_lit 0))), (nat_lit 0, (.ofNat (nat_lit 0)))]), (nat_lit 4, nat_lit 0, [(nat_lit 60, (.ofNat (nat_lit 0))), (nat_lit 0, (.ofNat (nat_lit 0)))])]]
def zEqe_push : List (List zK) := [[(nat_lit 11, nat_lit 0, [(nat_lit 0, (.ofNat (nat_lit 0)))]), (nat_lit 6, nat_lit 1, [(nat_lit 2, (.ofNat (nat_lit 0))), (nat_lit 0, (.ofNat (nat_lit 0)))]), (nat_lit 4, nat_lit 0, [(nat_lit 60, (.ofNat (nat_lit 0))), (nat_lit 0, (.ofNat (nat_lit 0)))])],
  [(nat_lit 11, nat_lit 0, [(nat_lit 0, (.ofNat (nat_lit 0)))]), (nat_lit 6, nat_lit 3, [(nat_lit 3, (.ofNat (nat_lit 0))), (nat_lit 0, (.ofNat (nat_lit 72)))]), (nat_lit 4, nat_lit 0, [(nat_lit 60, (.ofNat (nat_lit 0))), (nat_lit 0, (.ofNat (nat_lit 12)))]), (nat_lit 6, nat_lit 0, [(nat_lit 2, (.ofNat (nat_lit 0))), (nat_lit 0, (.ofNat (nat_lit 0)))]), (nat_lit 4, nat_lit 0, [(nat_lit 60, (.ofNat (nat_lit 0))), (nat_lit 0, (.ofNat (nat_lit 0)))])],
  [(nat_lit 11, nat_lit 0, [(nat_lit 0, (.ofNat (nat_lit 0)))]), (nat_lit 5, nat_lit 0, [(nat_lit 60, (.ofNat (nat_lit 0))), (nat_lit 0, (.ofNat (nat_lit 12))), (nat_lit 6, (.ofNat (nat_lit 0)))]), (nat_lit 0, nat_lit 1, [(nat_lit 5, (.ofNat (nat_lit 0))), (nat_lit 0, (.ofNat (nat_lit 1)))]), (nat_lit 4, nat_lit 0, [(nat_lit 60, (.ofNat (nat_lit 0))), (nat_lit 0, (.ofNat (nat_lit 12)))]), (nat_lit 5, nat_lit 0, [(nat_lit 63, (.ofNat (nat_lit 0))), (nat_lit 4, (.ofNat (nat_lit 0))), (nat_lit 1, (.ofNat (nat_lit 0)))]), (nat_lit 4, nat_lit 0, [(nat_lit 60, (.ofNat (nat_lit 0))), (nat_lit 0, (.ofNat (nat_lit 12)))]), (nat_lit 6, nat_lit 2, [(nat_lit 3, (.ofNat (nat_lit 0))), (nat_lit 0, (.ofNat (nat_lit 72)))]), (nat_lit 4, nat_lit 0, [(nat_lit 60, (.ofNat (nat_lit 0))), (nat_lit 0, (.ofNat (nat_lit 12)))]), (nat_lit 6, nat_lit 0, [(nat_lit 2, (.ofNat (nat_lit 0))), (nat_lit 0, (.ofNat (nat_lit 0)))]), (nat_lit 4, nat_lit 0, [(nat_lit 60, (.ofNat (nat_lit 0))), (nat_lit 0, (.ofNat (nat_lit 0)))])]]
def zFqe_push : List (List zK) := []
set_option maxHeartbeats 8000000 in
theorem zqe_push {ro : Nat → List Int32} : zMet pr_P pr_K pr_df ro (sm_X0 1 6) 0 43 tm_qe [(.inr (.inr (.inl (nat_lit 60)))), (.inl (nat_lit 1, (.ofNat (nat_lit 0))))] 0 [(nat_lit 60, nat_lit 3, nat_lit 1), (nat_lit 60, nat_lit 9, nat_lit 61), (nat_lit 60, nat_lit 10, nat_lit 62), (nat_lit 60, nat_lit 11, nat_lit 63), (nat_lit 60, nat_lit 2, nat_lit 32), (nat_lit 32, nat_lit 8, nat_lit 33), (nat_lit 32, nat_lit 9, nat_lit 34), (nat_lit 32, nat_lit 10, nat_lit 35), (nat_lit 32, nat_lit 11, nat_lit 36), (nat_lit 32, nat_lit 12, nat_lit 41), (nat_lit 32, nat_lit 13, nat_lit 46), (nat_lit 32, nat_lit 14, nat_lit 47), (nat_lit 36, nat_lit 0, nat_lit 37), (nat_lit 41, nat_lit 0, nat_lit 42), (nat_lit 36, nat_lit 1, nat_lit 38), (nat_lit 41, nat_lit 1, nat_lit 43), (nat_lit 36, nat_lit 2, nat_lit 39), (nat_lit 41, nat_lit 2, nat_lit 44), (nat_lit 36, nat_lit 3, nat_lit 40), (nat_lit 41, nat_lit 3, nat_lit 45), (nat_lit 47, nat_lit 2, nat_lit 48), (nat_lit 47, nat_lit 3, nat_lit 49), (nat_lit 47, nat_lit 4, nat_lit 50), (nat_lit 47, nat_lit 5, nat_lit 51), (nat_lit 47, nat_lit 6, nat_lit 52)] [] (fun xs η => sP wl_qe zTr zPqe_push xs η ∧ pPqe_push xs η) (fun xs η y η' => sQ wl_qe zTr zOqe_push zMqe_push xs η y η' ∧ pQqe_push xs η y η') :=
  zmet_alt (zmea_gen (mi := (nat_lit 1, nat_lit 1, nat_lit 3, nat_lit 2, nat_lit 0, tX3_push)) (cd := []) (cu := []) (cs := []) (iv := zVqe_push) (po := [zOqe_push]) (pr := zPqe_push) (mods := zMqe_push) (D7 := zDqe_push) (D0 := zEqe_push) (Dm := zFqe_push) (f0 := 26) pCqe_push qCqe_push iCqe_push pPqe_push (fun xs η _ y η' => pQqe_push xs η y η') zX_low pr_mtR rfl (fun _ h => nomatch h) (by decide +kernel) (by decide +kernel) (by decide +kernel)
    (by
      intro xs η hr hl hp hpp
      match xs, hl, hp, hpp with
      | [x1], _, hp, hpp =>
        refine List.forall_mem_cons.mpr ⟨?_, List.forall_mem_cons.mpr ⟨?_, List.forall_mem_cons.mpr ⟨?_, fun _ h => nomatch h⟩⟩⟩
        · show ∀ x2 : Int, x2 = η 60 (Int.toNat 0) → zok 0 x2 → (¬ x2 = 0) → (fun (_ : Nat) (y : Int) (η' : zE) => pQqe_push [x1] η y η') 0 0 η
          have wk0 : yp_wk η := hpp.2
          have hpp := hpp.1
          intro x2 e2 r2 c1
          refine yj_a ?_ ?_
          · exact gd_f hpp (fun w => c1 (e2.trans w))
          · have e2 : x2 = η 60 0 := e2
            clear r2
            show η = (yp_psh x1 η)
            subst e2
            unfold yp_psh
            (repeat' split) <;> first | (exfalso; omega) | rfl
        · show ∀ x2 : Int, x2 = η 60 (Int.toNat 0) → zok 0 x2 → (x2 = 0) → ∀ x3 : Int, x3 = η 60 (Int.toNat 12) → zok 0 x3 → (72 ≤ x3) → (fun (_ : Nat) (y : Int) (η' : zE) => pQqe_push [x1] η y η') 0 0 η
          have wk0 : yp_wk η := hpp.2
          have hpp := hpp.1
          intro x2 e2 r2 c1 x3 e3 r3 c2
          refine yj_a ?_ ?_
          · have b1 : (0 : Int) ≤ η 47 0 ∧ η 47 0 ≤ 64 := wf_ok (a := 0) (b := 0) (z := (0, 64)) hp.1 (by decide +kernel) (Nat.le_refl _) (Nat.le_refl _)
            have k := hpp.2.1 (e2.symm.trans c1)
            have e3 : x3 = η 60 12 := e3
            omega
          · have e2 : x2 = η 60 0 := e2
            clear r2
            have e3 : x3 = η 60 12 := e3
            clear r3
            show η = (yp_psh x1 η)
            subst e2
            subst e3
            unfold yp_psh
            (repeat' split) <;> first | (exfalso; omega) | rfl
        · show ∀ x2 : Int, x2 = η 60 (Int.toNat 0) → zok 0 x2 → (x2 = 0) → ∀ x3 : Int, x3 = η 60 (Int.toNat 12) → zok 0 x3 → (x3 < 72) → ∀ x4 : Int, x4 = η 60 (Int.toNat 12) → zok 0 x4 → ∀ η1 : zE, η1 = zup η 63 (Int.toNat x4) x1 → ∀ x5 : Int, x5 = η1 60 (Int.toNat 12) → zok 0 x5 → ∀ x6 : Int, x6 = zd 0 1 x5 1 → ∀ η2 : zE, η2 = zup η1 60 (Int.toNat 12) x6 → (fun (_ : Nat) (y : Int) (η' : zE) => pQqe_push [x1] η y η') 0 0 η2
          have wk0 : yp_wk η := hpp.2
          have hpp := hpp.1
          intro x2 e2 r2 c1 x3 e3 r3 c2 x4 e4 r4 η1 eη1 x5 e5 r5 x6 e6 η2 eη2
          refine yj_a ?_ ?_
          · have b1 : (0 : Int) ≤ η 60 12 ∧ η 60 12 ≤ 72 := wf_ok (a := 12) (b := 12) (z := (0, 72)) hp.1 (by decide +kernel) (Nat.le_refl _) (Nat.le_refl _)
            have e4 : x4 = η 60 12 := e4
            have q1 : η1 60 12 = η 60 12 := by rw [eη1]; exact zup_ne (fun e _ => absurd e (by decide))
            have e5 : x5 = η1 60 12 := e5
            have h5 : x6 = η 60 12 + 1 := by rw [e6, e5, q1]; exact zd_a ⟨by omega, by omega⟩
            show G_q η2
            rw [eη2, eη1, h5, e4]
            exact push_q hpp b1.1 (if_neg (fun w => by have q : (1 : Int) ≤ x1 ∧ x1 ≤ 13 := hp.2.1.1; omega)) rfl
          · have e2 : x2 = η 60 0 := e2
            clear r2
            have e3 : x3 = η 60 12 := e3
            clear r3
            have e4 : x4 = η 60 12 := e4
            clear r4
            have eη1 : η1 = zup η 63 (Int.toNat x4) x1 := eη1
            have e5 : x5 = η1 60 12 := e5
            clear r5
            have eη2 : η2 = zup η1 60 12 x6 := eη2
            show η2 = (yp_psh x1 η)
            subst e2
            subst e3
            subst e4
            subst eη1
            subst e5
            subst e6
            subst eη2
            unfold yp_psh
            (repeat' split) <;> first | (exfalso; omega) | rfl
      )
    (fun _ _ _ _ _ _ _ h => nomatch h)
    (fun _ h => nomatch h))
def zPqe_waitingRank : zPq := ([], [])
def zOqe_waitingRank : zPo := (((.negSucc (nat_lit 2147483647)), (.ofNat (nat_lit 2147483647))), [], [])
def zMqe_waitingRank : List zCe := []
def oPqe_waitingRank : List Int → zE → Prop := (fun _ η => G_qe η)
def pPqe_waitingRank : List Int → zE → Prop := fun xs η => oPqe_waitingRank xs η ∧ yp_wk η
def oQqe_waitingRank : List Int → zE → Int → zE → Prop := (fun _ _ _ η' => G_qe η')
def fQqe_waitingRank : List Int → zE → Int → zE → Prop := fun xs η y η' => y = (yp_top η) ∧ η' = η
def pQqe_waitingRank : List Int → zE → Int → zE → Prop := fun xs η y η' => oQqe_waitingRank xs η y η' ∧ fQqe_waitingRank xs η y η'
def pCqe_waitingRank : Nat → List Int → zE → Prop := fun c => match c with
  | _ => fun _ _ => True
def qCqe_waitingRank : Nat → List Int → zE → Int → zE → Prop := fun c => match c with
  | _ => fun _ _ _ _ => True
def iCqe_waitingRank : List Int → zE → Nat → List Int → zE → Prop := fun xs η0 c => match c with
  | _ => fun _ _ => True
def zVqe_waitingRank : List zIv := []
def zDqe_waitingRank : List (List zK) := [[(nat_lit 7, nat_lit 0, [(nat_lit 3, (.ofNat (nat_lit 0))), (nat_lit 0, (.ofNat (nat_lit 72)))]), (nat_lit 0, nat_lit 2, [(nat_lit 2, (.ofNat (nat_lit 0))), (nat_lit 0, (.ofNat (nat_lit 1)))]), (nat_lit 4, nat_lit 0, [(nat_lit 60, (.ofNat (nat_lit 0))), (nat_lit 0, (.ofNat (nat_lit 12)))]), (nat_lit 6, nat_lit 4, [(nat_lit 1, (.ofNat (nat_lit 0))), (nat_lit 0, (.ofNat (nat_lit 0)))]), (nat_lit 4, nat_lit 0, [(nat_lit 60, (.ofNat (nat_lit 0))), (nat_lit 0, (.ofNat (nat_lit 12)))])]]
def zEqe_waitingRank : List (List zK) := [[(nat_lit 11, nat_lit 0, [(nat_lit 0, (.ofNat (nat_lit 0)))]), (nat_lit 6, nat_lit 5, [(nat_lit 1, (.ofNat (nat_lit 0))), (nat_lit 0, (.ofNat (nat_lit 0)))]), (nat_lit 4, nat_lit 0, [(nat_lit 60, (.ofNat (nat_lit 0))), (nat_lit 0, (.ofNat (nat_lit 12)))])],
  [(nat_lit 11, nat_lit 0, [(nat_lit 5, (.ofNat (nat_lit 0)))]), (nat_lit 9, nat_lit 0, [(nat_lit 4, (.ofNat (nat_lit 0))), (nat_lit 2, (.ofNat (nat_lit 0)))]), (nat_lit 4, nat_lit 0, [(nat_lit 63, (.ofNat (nat_lit 0))), (nat_lit 3, (.ofNat (nat_lit 0)))]), (nat_lit 0, nat_lit 2, [(nat_lit 2, (.ofNat (nat_lit 0))), (nat_lit 0, (.ofNat (nat_lit 1)))]), (nat_lit 4, nat_lit 0, [(nat_lit 60, (.ofNat (nat_lit 0))), (nat_lit 0, (.ofNat (nat_lit 12)))]), (nat_lit 6, nat_lit 4, [(nat_lit 1, (.ofNat (nat_lit 0))), (nat_lit 0, (.ofNat (nat_lit 0)))]), (nat_lit 4, nat_lit 0, [(nat_lit 60, (.ofNat (nat_lit 0))), (nat_lit 0, (.ofNat (nat_lit 12)))])]]
def zFqe_waitingRank : List (List zK) := [[(nat_lit 7, nat_lit 4, [(nat_lit 4, (.ofNat (nat_lit 0))), (nat_lit 2, (.ofNat (nat_lit 0)))]), (nat_lit 4, nat_lit 0, [(nat_lit 63, (.ofNat (nat_lit 0))), (nat_lit 3, (.ofNat (nat_lit 0)))]), (nat_lit 0, nat_lit 2, [(nat_lit 2, (.ofNat (nat_lit 0))), (nat_lit 0, (.ofNat (nat_lit 1)))]), (nat_lit 4, nat_lit 0, [(nat_lit 60, (.ofNat (nat_lit 0))), (nat_lit 0, (.ofNat (nat_lit 12)))]), (nat_lit 6, nat_lit 4, [(nat_lit 1, (.ofNat (nat_lit 0))), (nat_lit 0, (.ofNat (nat_lit 0)))]), (nat_lit 4, nat_lit 0, [(nat_lit 60, (.ofNat (nat_lit 0))), (nat_lit 0, (.ofNat (nat_lit 12)))])]]
set_option maxHeartbeats 8000000 in
theorem zqe_waitingRank {ro : Nat → List Int32} (hro : ro 2 = [0, 1, 2, 3, 4, 4, 4, 4, 4, 4, 5, 5, 6, 6]) : zMet pr_P pr_K pr_df ro (sm_X0 1 6) 0 41 tm_qe [(.inr (.inr (.inl (nat_lit 60))))] 1 [(nat_lit 60, nat_lit 3, nat_lit 1), (nat_lit 60, nat_lit 9, nat_lit 61), (nat_lit 60, nat_lit 10, nat_lit 62), (nat_lit 60, nat_lit 11, nat_lit 63), (nat_lit 60, nat_lit 2, nat_lit 32), (nat_lit 32, nat_lit 8, nat_lit 33), (nat_lit 32, nat_lit 9, nat_lit 34), (nat_lit 32, nat_lit 10, nat_lit 35), (nat_lit 32, nat_lit 11, nat_lit 36), (nat_lit 32, nat_lit 12, nat_lit 41), (nat_lit 32, nat_lit 13, nat_lit 46), (nat_lit 32, nat_lit 14, nat_lit 47), (nat_lit 36, nat_lit 0, nat_lit 37), (nat_lit 41, nat_lit 0, nat_lit 42), (nat_lit 36, nat_lit 1, nat_lit 38), (nat_lit 41, nat_lit 1, nat_lit 43), (nat_lit 36, nat_lit 2, nat_lit 39), (nat_lit 41, nat_lit 2, nat_lit 44), (nat_lit 36, nat_lit 3, nat_lit 40), (nat_lit 41, nat_lit 3, nat_lit 45), (nat_lit 47, nat_lit 2, nat_lit 48), (nat_lit 47, nat_lit 3, nat_lit 49), (nat_lit 47, nat_lit 4, nat_lit 50), (nat_lit 47, nat_lit 5, nat_lit 51), (nat_lit 47, nat_lit 6, nat_lit 52)] [] (fun xs η => sP wl_qe zTr zPqe_waitingRank xs η ∧ pPqe_waitingRank xs η) (fun xs η y η' => sQ wl_qe zTr zOqe_waitingRank zMqe_waitingRank xs η y η' ∧ pQqe_waitingRank xs η y η') :=
  zmet_alt (zmea_gen (mi := (nat_lit 0, nat_lit 1, nat_lit 3, nat_lit 1, nat_lit 1, tX3_waitingRank)) (cd := []) (cu := []) (cs := []) (iv := zVqe_waitingRank) (po := [zOqe_waitingRank]) (pr := zPqe_waitingRank) (mods := zMqe_waitingRank) (D7 := zDqe_waitingRank) (D0 := zEqe_waitingRank) (Dm := zFqe_waitingRank) (f0 := 18) pCqe_waitingRank qCqe_waitingRank iCqe_waitingRank pPqe_waitingRank (fun xs η _ y η' => pQqe_waitingRank xs η y η') zX_low pr_mtR rfl (fun _ h => nomatch h) (by decide +kernel) (by decide +kernel) (by decide +kernel)
    (by
      intro xs η hr hl hp hpp
      match xs, hl, hp, hpp with
      | [], _, hp, hpp =>
        refine List.forall_mem_cons.mpr ⟨?_, List.forall_mem_cons.mpr ⟨?_, fun _ h => nomatch h⟩⟩
        · show ∀ x1 : Int, x1 = η 60 (Int.toNat 12) → zok 0 x1 → (x1 ≤ 0) → (fun (_ : Nat) (y : Int) (η' : zE) => pQqe_waitingRank [] η y η') 0 0 η
          have wk0 : yp_wk η := hpp.2
          have hpp := hpp.1
          intro x1 e1 r1 c1
          refine yj_a ?_ ?_
          · exact hpp
          · have e1 : x1 = η 60 12 := e1
            clear r1
            show 0 = (yp_top η) ∧ η = η
            subst e1
            refine ⟨?_, rfl⟩
            unfold yp_top
            (repeat' split) <;> first | (exfalso; omega) | (rw [hro]; rfl) | rfl
        · show ∀ x1 : Int, x1 = η 60 (Int.toNat 12) → zok 0 x1 → (0 < x1) → ∀ x2 : Int, x2 = η 60 (Int.toNat 12) → zok 0 x2 → ∀ x3 : Int, x3 = zd 0 2 x2 1 → ∀ x4 : Int, x4 = η 63 (Int.toNat x3) → zok 0 x4 → ∀ x5 : Int, x5 = ((ro 2).getD (Int.toNat x4) 0).toInt → (fun (_ : Nat) (y : Int) (η' : zE) => pQqe_waitingRank [] η y η') 0 x5 η
          have wk0 : yp_wk η := hpp.2
          have hpp := hpp.1
          intro x1 e1 r1 c1 x2 e2 r2 x3 e3 x4 e4 r4 x5 e5
          refine yj_a ?_ ?_
          · exact hpp
          · have e1 : x1 = η 60 12 := e1
            clear r1
            have e2 : x2 = η 60 12 := e2
            clear r2
            have e4 : x4 = η 63 (Int.toNat x3) := e4
            clear r4
            have e5 : x5 = yp_rk x4 := by rw [e5, hro]; rfl
            show x5 = (yp_top η) ∧ η = η
            subst e1
            subst e2
            subst e3
            subst e4
            subst e5
            refine ⟨?_, rfl⟩
            unfold yp_top
            (repeat' split) <;> first | (exfalso; omega) | (rw [hro]; rfl) | rfl
      )
    (by
      intro xs η hr hl hp hpp
      match xs, hl, hp, hpp with
      | [], _, hp, hpp =>
        refine List.forall_mem_cons.mpr ⟨?_, fun _ h => nomatch h⟩
        · show ∀ x1 : Int, x1 = η 60 (Int.toNat 12) → zok 0 x1 → (0 < x1) → ∀ x2 : Int, x2 = η 60 (Int.toNat 12) → zok 0 x2 → ∀ x3 : Int, x3 = zd 0 2 x2 1 → ∀ x4 : Int, x4 = η 63 (Int.toNat x3) → zok 0 x4 → (0 : Int) ≤ x4 ∧ x4 < ((ro 2).length : Int)
          have wk0 : yp_wk η := hpp.2
          have hpp := hpp.1
          intro x1 e1 r1 c1 x2 e2 r2 x3 e3 x4 e4 r4
          have b1 : (0 : Int) ≤ η 60 12 ∧ η 60 12 ≤ 72 := wf_ok (a := 12) (b := 12) (z := (0, 72)) hp.1 (by decide +kernel) (Nat.le_refl _) (Nat.le_refl _)
          have e2 : x2 = η 60 12 := e2
          have h3 : x3 = x2 - 1 := by rw [e3]; exact zd_s ⟨by omega, by omega⟩
          have b2 : (0 : Int) ≤ η 63 x3.toNat ∧ η 63 x3.toNat ≤ 13 := wf_ok (a := 0) (b := 71) (z := (0, 13)) hp.1 (by decide +kernel) (by omega) (by omega)
          have e4 : x4 = η 63 x3.toNat := e4
          rw [hro]
          show 0 ≤ x4 ∧ x4 < (14 : Int)
          omega
      )
    (fun _ h => nomatch h))
def zPqe_unwind : zPq := ([((.negSucc (nat_lit 2147483647)), (.ofNat (nat_lit 2147483647)))], [])
def zOqe_unwind : zPo := (((.ofNat (nat_lit 0)), (.ofNat (nat_lit 0))), [], [])
def zMqe_unwind : List zCe := [(nat_lit 60, nat_lit 13), (nat_lit 47, nat_lit 2), (nat_lit 48, nat_lit 0)]
def oPqe_unwind : List Int → zE → Prop := fun xs η => G_q η ∧ 1 ≤ xs.getD 0 0
def pPqe_unwind : List Int → zE → Prop := fun xs η => oPqe_unwind xs η ∧ yp_wk η
def oQqe_unwind : List Int → zE → Int → zE → Prop := fun xs _ _ η' => G_q η' ∧ (xs.getD 0 0 = 1 → η' 60 12 = 0 ∨ η' 63 (η' 60 12 - 1).toNat = 0)
def fQqe_unwind : List Int → zE → Int → zE → Prop := fun xs η y η' => η' = (yp_unw (xs.getD 0 0) η)
def pQqe_unwind : List Int → zE → Int → zE → Prop := fun xs η y η' => oQqe_unwind xs η y η' ∧ fQqe_unwind xs η y η'
def pCqe_unwind : Nat → List Int → zE → Prop := fun c => match c with
  | 0 => pPqe_add
  | _ => fun _ _ => True
def qCqe_unwind : Nat → List Int → zE → Int → zE → Prop := fun c => match c with
  | 0 => pQqe_add
  | _ => fun _ _ _ _ => True
def iCqe_unwind : List Int → zE → Nat → List Int → zE → Prop := fun xs η0 c => match c with
  | 0 => fun ys η => (G_q η ∧ ys.getD 0 0 = xs.getD 0 0 ∧ 1 ≤ xs.getD 0 0) ∧ (yp_unk (xs.getD 0 0) (η0 60 12).toNat η0 = yp_unk (xs.getD 0 0) (η 60 12).toNat η)
  | _ => fun _ _ => True
def zVqe_unwind : List zIv := [(nat_lit 0, ([((.negSucc (nat_lit 2147483647)), (.ofNat (nat_lit 2147483647)))], []), ((.ofNat (nat_lit 73)), [((.ofNat (nat_lit 1)), nat_lit 1, nat_lit 60, nat_lit 12)]))]
def zUqe_unwind : List zCu := [(nat_lit 0, nat_lit 0, [(nat_lit 0, (.inr (.inr (.inl (nat_lit 60))))), (nat_lit 1, (.inl (nat_lit 1, (.ofNat (nat_lit 0)))))], [])]
def zDqe_unwind : List (List zK) := []
def zEqe_unwind : List (List zK) := [[(nat_lit 12, nat_lit 0, [(nat_lit 1, (.ofNat (nat_lit 0)))])]]
def zFqe_unwind : List (List zK) := []
def zDqe_unwind_0 : List (List zK) := [[(nat_lit 7, nat_lit 0, [(nat_lit 4, (.ofNat (nat_lit 0))), (nat_lit 0, (.ofNat (nat_lit 72)))]), (nat_lit 0, nat_lit 2, [(nat_lit 3, (.ofNat (nat_lit 0))), (nat_lit 0, (.ofNat (nat_lit 1)))]), (nat_lit 4, nat_lit 0, [(nat_lit 60, (.ofNat (nat_lit 0))), (nat_lit 0, (.ofNat (nat_lit 12)))]), (nat_lit 6, nat_lit 4, [(nat_lit 2, (.ofNat (nat_lit 0))), (nat_lit 0, (.ofNat (nat_lit 0)))]), (nat_lit 4, nat_lit 0, [(nat_lit 60, (.ofNat (nat_lit 0))), (nat_lit 0, (.ofNat (nat_lit 12)))])],
  [(nat_lit 7, nat_lit 0, [(nat_lit 9, (.ofNat (nat_lit 0))), (nat_lit 0, (.ofNat (nat_lit 72)))]), (nat_lit 4, nat_lit 0, [(nat_lit 60, (.ofNat (nat_lit 0))), (nat_lit 0, (.ofNat (nat_lit 12)))]), (nat_lit 5, nat_lit 0, [(nat_lit 60, (.ofNat (nat_lit 0))), (nat_lit 0, (.ofNat (nat_lit 12))), (nat_lit 8, (.ofNat (nat_lit 0)))]), (nat_lit 0, nat_lit 2, [(nat_lit 7, (.ofNat (nat_lit 0))), (nat_lit 0, (.ofNat (nat_lit 1)))]), (nat_lit 4, nat_lit 0, [(nat_lit 60, (.ofNat (nat_lit 0))), (nat_lit 0, (.ofNat (nat_lit 12)))]), (nat_lit 6, nat_lit 3, [(nat_lit 6, (.ofNat (nat_lit 0))), (nat_lit 1, (.ofNat (nat_lit 0)))]), (nat_lit 9, nat_lit 0, [(nat_lit 5, (.ofNat (nat_lit 0))), (nat_lit 2, (.ofNat (nat_lit 0)))]), (nat_lit 4, nat_lit 0, [(nat_lit 63, (.ofNat (nat_lit 0))), (nat_lit 4, (.ofNat (nat_lit 0)))]), (nat_lit 0, nat_lit 2, [(nat_lit 3, (.ofNat (nat_lit 0))), (nat_lit 0, (.ofNat (nat_lit 1)))]), (nat_lit 4, nat_lit 0, [(nat_lit 60, (.ofNat (nat_lit 0))), (nat_lit 0, (.ofNat (nat_lit 12)))]), (nat_lit 6, nat_lit 4, [(nat_lit 2, (.ofNat (nat_lit 0))), (nat_lit 0, (.ofNat (nat_lit 0)))]), (nat_lit 4, nat_lit 0, [(nat_lit 60, (.ofNat (nat_lit 0))), (nat_lit 0, (.ofNat (nat_lit 12)))])]]
def zEqe_unwind_0 : List (List zK) := [[(nat_lit 11, nat_lit 0, [(nat_lit 0, (.ofNat (nat_lit 0)))]), (nat_lit 6, nat_lit 5, [(nat_lit 2, (.ofNat (nat_lit 0))), (nat_lit 0, (.ofNat (nat_lit 0)))]), (nat_lit 4, nat_lit 0, [(nat_lit 60, (.ofNat (nat_lit 0))), (nat_lit 0, (.ofNat (nat_lit 12)))])],
  [(nat_lit 11, nat_lit 0, [(nat_lit 0, (.ofNat (nat_lit 0)))]), (nat_lit 6, nat_lit 2, [(nat_lit 6, (.ofNat (nat_lit 0))), (nat_lit 1, (.ofNat (nat_lit 0)))]), (nat_lit 9, nat_lit 0, [(nat_lit 5, (.ofNat (nat_lit 0))), (nat_lit 2, (.ofNat (nat_lit 0)))]), (nat_lit 4, nat_lit 0, [(nat_lit 63, (.ofNat (nat_lit 0))), (nat_lit 4, (.ofNat (nat_lit 0)))]), (nat_lit 0, nat_lit 2, [(nat_lit 3, (.ofNat (nat_lit 0))), (nat_lit 0, (.ofNat (nat_lit 1)))]), (nat_lit 4, nat_lit 0, [(nat_lit 60, (.ofNat (nat_lit 0))), (nat_lit 0, (.ofNat (nat_lit 12)))]), (nat_lit 6, nat_lit 4, [(nat_lit 2, (.ofNat (nat_lit 0))), (nat_lit 0, (.ofNat (nat_lit 0)))]), (nat_lit 4, nat_lit 0, [(nat_lit 60, (.ofNat (nat_lit 0))), (nat_lit 0, (.ofNat (nat_lit 12)))])],
  [(nat_lit 13, nat_lit 0, [(nat_lit 11, (.ofNat (nat_lit 0)))]), (nat_lit 0, nat_lit 11, [(nat_lit 10, (.ofNat (nat_lit 0))), (nat_lit 10, (.ofNat (nat_lit 0)))]), (nat_lit 4, nat_lit 0, [(nat_lit 63, (.ofNat (nat_lit 0))), (nat_lit 9, (.ofNat (nat_lit 0)))]), (nat_lit 4, nat_lit 0, [(nat_lit 60, (.ofNat (nat_lit 0))), (nat_lit 0, (.ofNat (nat_lit 12)))]), (nat_lit 5, nat_lit 0, [(nat_lit 60, (.ofNat (nat_lit 0))), (nat_lit 0, (.ofNat (nat_lit 12))), (nat_lit 8, (.ofNat (nat_lit 0)))]), (nat_lit 0, nat_lit 2, [(nat_lit 7, (.ofNat (nat_lit 0))), (nat_lit 0, (.ofNat (nat_lit 1)))]), (nat_lit 4, nat_lit 0, [(nat_lit 60, (.ofNat (nat_lit 0))), (nat_lit 0, (.ofNat (nat_lit 12)))]), (nat_lit 6, nat_lit 3, [(nat_lit 6, (.ofNat (nat_lit 0))), (nat_lit 1, (.ofNat (nat_lit 0)))]), (nat_lit 9, nat_lit 0, [(nat_lit 5, (.ofNat (nat_lit 0))), (nat_lit 2, (.ofNat (nat_lit 0)))]), (nat_lit 4, nat_lit 0, [(nat_lit 63, (.ofNat (nat_lit 0))), (nat_lit 4, (.ofNat (nat_lit 0)))]), (nat_lit 0, nat_lit 2, [(nat_lit 3, (.ofNat (nat_lit 0))), (nat_lit 0, (.ofNat (nat_lit 1)))]), (nat_lit 4, nat_lit 0, [(nat_lit 60, (.ofNat (nat_lit 0))), (nat_lit 0, (.ofNat (nat_lit 12)))]), (nat_lit 6, nat_lit 4, [(nat_lit 2, (.ofNat (nat_lit 0))), (nat_lit 0, (.ofNat (nat_lit 0)))]), (nat_lit 4, nat_lit 0, [(nat_lit 60, (.ofNat (nat_lit 0))), (nat_lit 0, (.ofNat (nat_lit 12)))])],
  [(nat_lit 10, nat_lit 0, [(nat_lit 1, (.ofNat (nat_lit 0)))]), (nat_lit 8, nat_lit 0, [(nat_lit 11, (.ofNat (nat_lit 0)))]), (nat_lit 0, nat_lit 11, [(nat_lit 10, (.ofNat (nat_lit 0))), (nat_lit 10, (.ofNat (nat_lit 0)))]), (nat_lit 4, nat_lit 0, [(nat_lit 63, (.ofNat (nat_lit 0))), (nat_lit 9, (.ofNat (nat_lit 0)))]), (nat_lit 4, nat_lit 0, [(nat_lit 60, (.ofNat (nat_lit 0))), (nat_lit 0, (.ofNat (nat_lit 12)))]), (nat_lit 5, nat_lit 0, [(nat_lit 60, (.ofNat (nat_lit 0))), (nat_lit 0, (.ofNat (nat_lit 12))), (nat_lit 8, (.ofNat (nat_lit 0)))]), (nat_lit 0, nat_lit 2, [(nat_lit 7, (.ofNat (nat_lit 0))), (nat_lit 0, (.ofNat (nat_lit 1)))]), (nat_lit 4, nat_lit 0, [(nat_lit 60, (.ofNat (nat_lit 0))), (nat_lit 0, (.ofNat (nat_lit 12)))]), (nat_lit 6, nat_lit 3, [(nat_lit 6, (.ofNat (nat_lit 0))), (nat_lit 1, (.ofNat (nat_lit 0)))]), (nat_lit 9, nat_lit 0, [(nat_lit 5, (.ofNat (nat_lit 0))), (nat_lit 2, (.ofNat (nat_lit 0)))]), (nat_lit 4, nat_lit 0, [(nat_lit 63, (.ofNat (nat_lit 0))), (nat_lit 4, (.ofNat (nat_lit 0)))]), (nat_lit 0, nat_lit 2, [(nat_lit 3, (.ofNat (nat_lit 0))), (nat_lit 0, (.ofNat (nat_lit 1)))]), (nat_lit 4, nat_lit 0, [(nat_lit 60, (.ofNat (nat_lit 0))), (nat_lit 0, (.ofNat (nat_lit 12)))]), (nat_lit 6, nat_lit 4, [(nat_lit 2, (.ofNat (nat_lit 0))), (nat_lit 0, (.ofNat (nat_lit 0)))]), (nat_lit 4, nat_lit 0, [(nat_lit 60, (.ofNat (nat_lit 0))), (nat_lit 0, (.ofNat (nat_lit 12)))])]]
def zFqe_unwind_0 : List (List zK) := [[(nat_lit 7, nat_lit 4, [(nat_lit 5, (.ofNat (nat_lit 0))), (nat_lit 2, (.ofNat (nat_lit 0)))]), (nat_lit 4, nat_lit 0, [(nat_lit 63, (.ofNat (nat_lit 0))), (nat_lit 4, (.ofNat (nat_lit 0)))]), (nat_lit 0, nat_lit 2, [(nat_lit 3, (.ofNat (nat_lit 0))), (nat_lit 0, (.ofNat (nat_lit 1)))]), (nat_lit 4, nat_lit 0, [(nat_lit 60, (.ofNat (nat_lit 0))), (nat_lit 0, (.ofNat (nat_lit 12)))]), (nat_lit 6, nat_lit 4, [(nat_lit 2, (.ofNat (nat_lit 0))), (nat_lit 0, (.ofNat (nat_lit 0)))]), (nat_lit 4, nat_lit 0, [(nat_lit 60, (.ofNat (nat_lit 0))), (nat_lit 0, (.ofNat (nat_lit 12)))])]]
set_option maxHeartbeats 8000000 in
theorem zqe_unwind {ro : Nat → List Int32} (hro : ro 2 = [0, 1, 2, 3, 4, 4, 4, 4, 4, 4, 5, 5, 6, 6]) : zMet pr_P pr_K pr_df ro (sm_X0 1 6) 1 42 tm_qe [(.inr (.inr (.inl (nat_lit 60)))), (.inl (nat_lit 1, (.ofNat (nat_lit 0))))] 0 [(nat_lit 60, nat_lit 3, nat_lit 1), (nat_lit 60, nat_lit 9, nat_lit 61), (nat_lit 60, nat_lit 10, nat_lit 62), (nat_lit 60, nat_lit 11, nat_lit 63), (nat_lit 60, nat_lit 2, nat_lit 32), (nat_lit 32, nat_lit 8, nat_lit 33), (nat_lit 32, nat_lit 9, nat_lit 34), (nat_lit 32, nat_lit 10, nat_lit 35), (nat_lit 32, nat_lit 11, nat_lit 36), (nat_lit 32, nat_lit 12, nat_lit 41), (nat_lit 32, nat_lit 13, nat_lit 46), (nat_lit 32, nat_lit 14, nat_lit 47), (nat_lit 36, nat_lit 0, nat_lit 37), (nat_lit 41, nat_lit 0, nat_lit 42), (nat_lit 36, nat_lit 1, nat_lit 38), (nat_lit 41, nat_lit 1, nat_lit 43), (nat_lit 36, nat_lit 2, nat_lit 39), (nat_lit 41, nat_lit 2, nat_lit 44), (nat_lit 36, nat_lit 3, nat_lit 40), (nat_lit 41, nat_lit 3, nat_lit 45), (nat_lit 47, nat_lit 2, nat_lit 48), (nat_lit 47, nat_lit 3, nat_lit 49), (nat_lit 47, nat_lit 4, nat_lit 50), (nat_lit 47, nat_lit 5, nat_lit 51), (nat_lit 47, nat_lit 6, nat_lit 52)] [] (fun xs η => sP wl_qe zTr zPqe_unwind xs η ∧ pPqe_unwind xs η) (fun xs η y η' => sQ wl_qe zTr zOqe_unwind zMqe_unwind xs η y η' ∧ pQqe_unwind xs η y η') :=
  zmet_alt (zmea_gen (mi := (nat_lit 1, nat_lit 1, nat_lit 3, nat_lit 2, nat_lit 0, tX3_unwind)) (cd := [(nat_lit 3, nat_lit 0, nat_lit 0, [(.inr (.inr (.inl (nat_lit 47)))), (.inl (nat_lit 1, (.ofNat (nat_lit 0))))], nat_lit 0, [(nat_lit 47, nat_lit 2, nat_lit 48), (nat_lit 47, nat_lit 3, nat_lit 49), (nat_lit 47, nat_lit 4, nat_lit 50), (nat_lit 47, nat_lit 5, nat_lit 51), (nat_lit 47, nat_lit 6, nat_lit 52)], [])]) (cu := zUqe_unwind) (cs := [(nat_lit 0, zPqe_add, zOqe_add, zMqe_add)]) (iv := zVqe_unwind) (po := [zOqe_unwind]) (pr := zPqe_unwind) (mods := zMqe_unwind) (D7 := zDqe_unwind) (D0 := zEqe_unwind) (Dm := zFqe_unwind) (f0 := 5) pCqe_unwind qCqe_unwind iCqe_unwind pPqe_unwind (fun xs η _ y η' => pQqe_unwind xs η y η') zX_low pr_mtR rfl (List.forall_mem_cons.mpr ⟨zqe_add, fun _ h => nomatch h⟩) (by decide +kernel) (by decide +kernel) (by decide +kernel)
    (by
      intro xs η hr hl hp hpp
      match xs, hl, hp, hpp with
      | [x1], _, hp, hpp =>
        refine List.forall_mem_cons.mpr ⟨?_, fun _ h => nomatch h⟩
        · show (iCqe_unwind [x1] η) 0 [x1] η
          have wk0 : yp_wk η := hpp.2
          have hpp := hpp.1
          refine yj_a ?_ ?_
          · exact ⟨hpp.1, rfl, hpp.2⟩
          · exact rfl
      )
    (fun _ _ _ _ _ _ _ h => nomatch h)
    (List.forall_mem_cons.mpr ⟨⟨zDqe_unwind_0, zEqe_unwind_0, zFqe_unwind_0, 36, by decide +kernel, (by
      intro xs η0 hlx hp hpp ys η hr hl hI hig
      match ys, hl, hI, hig with
      | [x1], _, hI, hig =>
        refine ⟨?_, ?_⟩
        · refine List.forall_mem_cons.mpr ⟨?_, List.forall_mem_cons.mpr ⟨?_, List.forall_mem_cons.mpr ⟨?_, List.forall_mem_cons.mpr ⟨?_, fun _ h => nomatch h⟩⟩⟩⟩
          · show ∀ x2 : Int, x2 = η 60 (Int.toNat 12) → zok 0 x2 → (x2 ≤ 0) → (fun (_ : Nat) (y : Int) (η' : zE) => pQqe_unwind xs η0 y η') 0 0 η
            have wk0 : yp_wk η := wk_of hpp.2 (fun j => hI.2 62 j (zinr_not (by decide +kernel)))
            have hpp := hpp.1
            have fig := hig.2
            have hig := hig.1
            intro x2 e2 r2 c1
            refine yj_a ?_ ?_
            · have b1 : (0 : Int) ≤ η 60 12 ∧ η 60 12 ≤ 72 := wf_ok (a := 12) (b := 12) (z := (0, 72)) hI.1.1 (by decide +kernel) (Nat.le_refl _) (Nat.le_refl _)
              have e2 : x2 = η 60 12 := e2
              exact ⟨hig.1, fun _ => Or.inl (by omega)⟩
            · have e2 : x2 = η 60 12 := e2
              clear r2
              subst e2
              have b12 : (0 : Int) ≤ η 60 12 ∧ η 60 12 ≤ 72 := wf_ok (a := 12) (b := 12) (z := (0, 72)) hI.1.1 (by decide +kernel) (Nat.le_refl _) (Nat.le_refl _)
              have rk0 : x1 = xs.getD 0 0 := hig.2.1
              have fig : yp_unk (xs.getD 0 0) (η0 60 12).toNat η0 = yp_unk (xs.getD 0 0) (η 60 12).toNat η := fig
              show η = yp_unk (xs.getD 0 0) (η0 60 12).toNat η0
              rw [fig]
              exact (unk_x (fun w => by omega)).symm
          · show ∀ x2 : Int, x2 = η 60 (Int.toNat 12) → zok 0 x2 → (0 < x2) → ∀ x3 : Int, x3 = η 60 (Int.toNat 12) → zok 0 x3 → ∀ x4 : Int, x4 = zd 0 2 x3 1 → ∀ x5 : Int, x5 = η 63 (Int.toNat x4) → zok 0 x5 → ∀ x6 : Int, x6 = ((ro 2).getD (Int.toNat x5) 0).toInt → (x6 < x1) → (fun (_ : Nat) (y : Int) (η' : zE) => pQqe_unwind xs η0 y η') 0 0 η
            have wk0 : yp_wk η := wk_of hpp.2 (fun j => hI.2 62 j (zinr_not (by decide +kernel)))
            have hpp := hpp.1
            have fig := hig.2
            have hig := hig.1
            intro x2 e2 r2 c1 x3 e3 r3 x4 e4 x5 e5 r5 x6 e6 c2
            refine yj_a ?_ ?_
            · have b1 : (0 : Int) ≤ η 60 12 ∧ η 60 12 ≤ 72 := wf_ok (a := 12) (b := 12) (z := (0, 72)) hI.1.1 (by decide +kernel) (Nat.le_refl _) (Nat.le_refl _)
              have e3 : x3 = η 60 12 := e3
              have h4 : x4 = x3 - 1 := by rw [e4]; exact zd_s ⟨by omega, by omega⟩
              have b2 : (0 : Int) ≤ η 63 x4.toNat ∧ η 63 x4.toNat ≤ 13 := wf_ok (a := 0) (b := 71) (z := (0, 13)) hI.1.1 (by decide +kernel) (by omega) (by omega)
              have e5 : x5 = η 63 x4.toNat := e5
              have rk := rk_1 x5.toNat (by omega)
              have e6 : x6 = (rk_q.getD x5.toNat 0).toInt := by rw [e6, hro]; rfl
              have i2 : x1 = xs.getD 0 0 := hig.2.1
              refine ⟨hig.1, fun w => Or.inr ?_⟩
              rw [show η 60 12 - 1 = x4 by omega, ← e5]
              by_cases q : x5.toNat = 0
              · omega
              · have := rk.2 q
                omega
            · have e2 : x2 = η 60 12 := e2
              clear r2
              have e3 : x3 = η 60 12 := e3
              clear r3
              have e5 : x5 = η 63 (Int.toNat x4) := e5
              clear r5
              have e6 : x6 = yp_rk x5 := by rw [e6, hro]; rfl
              subst e2
              subst e3
              subst e4
              subst e5
              subst e6
              have b12 : (0 : Int) ≤ η 60 12 ∧ η 60 12 ≤ 72 := wf_ok (a := 12) (b := 12) (z := (0, 72)) hI.1.1 (by decide +kernel) (Nat.le_refl _) (Nat.le_refl _)
              have rk0 : x1 = xs.getD 0 0 := hig.2.1
              have fig : yp_unk (xs.getD 0 0) (η0 60 12).toNat η0 = yp_unk (xs.getD 0 0) (η 60 12).toNat η := fig
              have tp : yp_top η = yp_rk (η 63 (zd 0 2 (η 60 12) 1).toNat) := by
                unfold yp_top
                rw [if_pos (by omega)]
              show η = yp_unk (xs.getD 0 0) (η0 60 12).toNat η0
              rw [fig]
              exact (unk_x (fun w => by rw [tp] at w; omega)).symm
          · show ∀ x2 : Int, x2 = η 60 (Int.toNat 12) → zok 0 x2 → (0 < x2) → ∀ x3 : Int, x3 = η 60 (Int.toNat 12) → zok 0 x3 → ∀ x4 : Int, x4 = zd 0 2 x3 1 → ∀ x5 : Int, x5 = η 63 (Int.toNat x4) → zok 0 x5 → ∀ x6 : Int, x6 = ((ro 2).getD (Int.toNat x5) 0).toInt → (x1 ≤ x6) → ∀ x7 : Int, x7 = η 60 (Int.toNat 12) → zok 0 x7 → ∀ x8 : Int, x8 = zd 0 2 x7 1 → ∀ η1 : zE, η1 = zup η 60 (Int.toNat 12) x8 → ∀ x9 : Int, x9 = η1 60 (Int.toNat 12) → zok 0 x9 → ∀ x10 : Int, x10 = η1 63 (Int.toNat x9) → zok 0 x10 → ∀ x11 : Int, x11 = zd 0 11 x10 x10 → ((gC2 wl_qe [(nat_lit 0, zPqe_add, zOqe_add, zMqe_add)] pCqe_unwind qCqe_unwind) 0).1 [x11] η1
            have wk0 : yp_wk η := wk_of hpp.2 (fun j => hI.2 62 j (zinr_not (by decide +kernel)))
            have hpp := hpp.1
            have fig := hig.2
            have hig := hig.1
            intro x2 e2 r2 c1 x3 e3 r3 x4 e4 x5 e5 r5 x6 e6 c2 x7 e7 r7 x8 e8 η1 eη1 x9 e9 r9 x10 e10 r10 x11 e11
            refine yj_a ?_ ?_
            · have b1 : (0 : Int) ≤ η 60 12 ∧ η 60 12 ≤ 72 := wf_ok (a := 12) (b := 12) (z := (0, 72)) hI.1.1 (by decide +kernel) (Nat.le_refl _) (Nat.le_refl _)
              have e3 : x3 = η 60 12 := e3
              have h4 : x4 = x3 - 1 := by rw [e4]; exact zd_s ⟨by omega, by omega⟩
              have b2 : (0 : Int) ≤ η 63 x4.toNat ∧ η 63 x4.toNat ≤ 13 := wf_ok (a := 0) (b := 71) (z := (0, 13)) hI.1.1 (by decide +kernel) (by omega) (by omega)
              have e5 : x5 = η 63 x4.toNat := e5
              have rk := rk_1 x5.toNat (by omega)
              have e6 : x6 = (rk_q.getD x5.toNat 0).toInt := by rw [e6, hro]; rfl
              have i2 : x1 = xs.getD 0 0 := hig.2.1
              have i3 : 1 ≤ xs.getD 0 0 := hig.2.2
              have e7 : x7 = η 60 12 := e7
              have h8 : x8 = η 60 12 - 1 := by rw [e8, e7]; exact zd_s ⟨by omega, by omega⟩
              have nz : ¬ x5 = 0 := fun w => by
                have := rk.1 (by omega)
                omega
              have g1 : G_q η1 := by rw [eη1, h8]; exact pop_q hig.1 (by omega) (by rw [show η 60 12 - 1 = x4 by omega, ← e5]; exact nz)
              have q1 : η1 60 12 = x8 := by rw [eη1]; exact zup_eq
              have e9 : x9 = η1 60 12 := e9
              have q2 : η1 63 x9.toNat = η 63 x9.toNat := by rw [eη1]; exact zup_ne (fun e _ => absurd e (by decide))
              have e10 : x10 = η1 63 x9.toNat := e10
              have b3 : x10 = x5 := by rw [e10, q2, e5, show x9 = x4 by omega]
              have h11 : x11 = - x10 := by rw [e11]; exact zd_n ⟨by omega, by omega⟩
              exact ⟨g1, fun _ => ⟨show -13 ≤ x11 by omega, show x11 ≤ 10006 by omega⟩⟩
            · have wk1 : yp_wk η1 := wk_of wk0 (fun j => by rw [eη1]; rfl)
              exact wk1
          · show ∀ x2 : Int, x2 = η 60 (Int.toNat 12) → zok 0 x2 → (0 < x2) → ∀ x3 : Int, x3 = η 60 (Int.toNat 12) → zok 0 x3 → ∀ x4 : Int, x4 = zd 0 2 x3 1 → ∀ x5 : Int, x5 = η 63 (Int.toNat x4) → zok 0 x5 → ∀ x6 : Int, x6 = ((ro 2).getD (Int.toNat x5) 0).toInt → (x1 ≤ x6) → ∀ x7 : Int, x7 = η 60 (Int.toNat 12) → zok 0 x7 → ∀ x8 : Int, x8 = zd 0 2 x7 1 → ∀ η1 : zE, η1 = zup η 60 (Int.toNat 12) x8 → ∀ x9 : Int, x9 = η1 60 (Int.toNat 12) → zok 0 x9 → ∀ x10 : Int, x10 = η1 63 (Int.toNat x9) → zok 0 x10 → ∀ x11 : Int, x11 = zd 0 11 x10 x10 → ∀ (x12 : Int) (η2 : zE), ((gC2 wl_qe [(nat_lit 0, zPqe_add, zOqe_add, zMqe_add)] pCqe_unwind qCqe_unwind) 0).2 [x11] η1 x12 η2 → (iCqe_unwind xs η0) 0 [x1] η2 ∧ (fun (_ : Nat) (_ : List Int) (_ : zE) => (0 : Nat)) 0 [x1] η2 < 1
            have wk0 : yp_wk η := wk_of hpp.2 (fun j => hI.2 62 j (zinr_not (by decide +kernel)))
            have hpp := hpp.1
            have fig := hig.2
            have hig := hig.1
            intro x2 e2 r2 c1 x3 e3 r3 x4 e4 x5 e5 r5 x6 e6 c2 x7 e7 r7 x8 e8 η1 eη1 x9 e9 r9 x10 e10 r10 x11 e11 x12 η2 h12
            have y12 : fQqe_add [x11] η1 x12 η2 := h12.2.2
            have k12 : sQ wl_qe zTr zOqe_add zMqe_add [x11] η1 x12 η2 ∧ oQqe_add [x11] η1 x12 η2 := ⟨h12.1, h12.2.1⟩
            refine yj_c ?_ ?_
            · have y12 : fQqe_add [x11] η1 x12 η2 := h12.2.2
              have k12 : sQ wl_qe zTr zOqe_add zMqe_add [x11] η1 x12 η2 ∧ oQqe_add [x11] η1 x12 η2 := ⟨h12.1, h12.2.1⟩
              exact ⟨⟨k12.2, hig.2⟩, Nat.zero_lt_one⟩
            · have e2 : x2 = η 60 12 := e2
              clear r2
              have e3 : x3 = η 60 12 := e3
              clear r3
              have e5 : x5 = η 63 (Int.toNat x4) := e5
              clear r5
              have e6 : x6 = yp_rk x5 := by rw [e6, hro]; rfl
              have e7 : x7 = η 60 12 := e7
              clear r7
              have eη1 : η1 = zup η 60 12 x8 := eη1
              have e9 : x9 = η1 60 12 := e9
              clear r9
              have e10 : x10 = η1 63 (Int.toNat x9) := e10
              clear r10
              have b12 : η2 = (yp_add x11 η1) := y12
              clear k12 h12
              subst e2
              subst e3
              subst e4
              subst e5
              subst e6
              subst e7
              subst e8
              subst eη1
              subst e9
              subst e10
              subst e11
              subst b12
              have b12 : (0 : Int) ≤ η 60 12 ∧ η 60 12 ≤ 72 := wf_ok (a := 12) (b := 12) (z := (0, 72)) hI.1.1 (by decide +kernel) (Nat.le_refl _) (Nat.le_refl _)
              have rk0 : x1 = xs.getD 0 0 := hig.2.1
              have fig : yp_unk (xs.getD 0 0) (η0 60 12).toNat η0 = yp_unk (xs.getD 0 0) (η 60 12).toNat η := fig
              have tp : yp_top η = yp_rk (η 63 (zd 0 2 (η 60 12) 1).toNat) := by
                unfold yp_top
                rw [if_pos (by omega)]
              exact fig.trans (unk_s (by omega) b12.2 (by rw [tp]; omega) rfl)
        · refine List.forall_mem_cons.mpr ⟨?_, fun _ h => nomatch h⟩
          · show ∀ x2 : Int, x2 = η 60 (Int.toNat 12) → zok 0 x2 → (0 < x2) → ∀ x3 : Int, x3 = η 60 (Int.toNat 12) → zok 0 x3 → ∀ x4 : Int, x4 = zd 0 2 x3 1 → ∀ x5 : Int, x5 = η 63 (Int.toNat x4) → zok 0 x5 → (0 : Int) ≤ x5 ∧ x5 < ((ro 2).length : Int)
            have wk0 : yp_wk η := wk_of hpp.2 (fun j => hI.2 62 j (zinr_not (by decide +kernel)))
            have hpp := hpp.1
            have fig := hig.2
            have hig := hig.1
            intro x2 e2 r2 c1 x3 e3 r3 x4 e4 x5 e5 r5
            have b1 : (0 : Int) ≤ η 60 12 ∧ η 60 12 ≤ 72 := wf_ok (a := 12) (b := 12) (z := (0, 72)) hI.1.1 (by decide +kernel) (Nat.le_refl _) (Nat.le_refl _)
            have e3 : x3 = η 60 12 := e3
            have h4 : x4 = x3 - 1 := by rw [e4]; exact zd_s ⟨by omega, by omega⟩
            have b2 : (0 : Int) ≤ η 63 x4.toNat ∧ η 63 x4.toNat ≤ 13 := wf_ok (a := 0) (b := 71) (z := (0, 13)) hI.1.1 (by decide +kernel) (by omega) (by omega)
            have e5 : x5 = η 63 x4.toNat := e5
            rw [hro]
            show 0 ≤ x5 ∧ x5 < (14 : Int)
            omega
      )⟩, (fun _ h => nomatch h)⟩))
def zPqe_readOperand : zPq := ([], [])
def zOqe_readOperand : zPo := (((.ofNat (nat_lit 0)), (.ofNat (nat_lit 1))), [], [])
def zMqe_readOperand : List zCe := [(nat_lit 60, nat_lit 7), (nat_lit 60, nat_lit 9), (nat_lit 60, nat_lit 6), (nat_lit 60, nat_lit 8), (nat_lit 60, nat_lit 1), (nat_lit 60, nat_lit 2), (nat_lit 60, nat_lit 13), (nat_lit 60, nat_lit 14), (nat_lit 63, nat_lit 0), (nat_lit 47, nat_lit 0), (nat_lit 48, nat_lit 0)]
def oPqe_readOperand : List Int → zE → Prop := (fun _ η => G_qe η)
def pPqe_readOperand : List Int → zE → Prop := fun xs η => oPqe_readOperand xs η ∧ yp_wk η
def oQqe_readOperand : List Int → zE → Int → zE → Prop := (fun _ _ _ η' => G_qe η')
def fQqe_readOperand : List Int → zE → Int → zE → Prop := fun xs η y η' => y = (yp_opw η) ∧ η' = (yp_opd η)
def pQqe_readOperand : List Int → zE → Int → zE → Prop := fun xs η y η' => oQqe_readOperand xs η y η' ∧ fQqe_readOperand xs η y η'
def pCqe_readOperand : Nat → List Int → zE → Prop := fun c => match c with
  | 0 => pPqe_flaw
  | 1 => pPqe_next
  | 2 => pPqe_tie
  | 3 => pPqe_push0
  | 4 => pPqe_push
  | 5 => pPqe_add
  | 6 => pPqe_waitingRank
  | _ => fun _ _ => True
def qCqe_readOperand : Nat → List Int → zE → Int → zE → Prop := fun c => match c with
  | 0 => pQqe_flaw
  | 1 => pQqe_next
  | 2 => pQqe_tie
  | 3 => pQqe_push0
  | 4 => pQqe_push
  | 5 => pQqe_add
  | 6 => pQqe_waitingRank
  | _ => fun _ _ _ _ => True
def iCqe_readOperand : List Int → zE → Nat → List Int → zE → Prop := fun xs η0 c => match c with
  | _ => fun _ _ => True
def zVqe_readOperand : List zIv := []
def zDqe_readOperand : List (List zK) := [[(nat_lit 7, nat_lit 2, [(nat_lit 0, (.ofNat (nat_lit 0)))]), (nat_lit 8, nat_lit 1, []), (nat_lit 8, nat_lit 0, [(nat_lit 0, (.ofNat (nat_lit 1))), (nat_lit 5, (.ofNat (nat_lit 0)))]), (nat_lit 4, nat_lit 0, [(nat_lit 60, (.ofNat (nat_lit 0))), (nat_lit 0, (.ofNat (nat_lit 7)))]), (nat_lit 6, nat_lit 1, [(nat_lit 4, (.ofNat (nat_lit 0))), (nat_lit 0, (.ofNat (nat_lit 17)))]), (nat_lit 4, nat_lit 0, [(nat_lit 60, (.ofNat (nat_lit 0))), (nat_lit 0, (.ofNat (nat_lit 6)))]), (nat_lit 6, nat_lit 1, [(nat_lit 3, (.ofNat (nat_lit 0))), (nat_lit 0, (.ofNat (nat_lit 16)))]), (nat_lit 4, nat_lit 0, [(nat_lit 60, (.ofNat (nat_lit 0))), (nat_lit 0, (.ofNat (nat_lit 6)))]), (nat_lit 6, nat_lit 1, [(nat_lit 2, (.ofNat (nat_lit 0))), (nat_lit 0, (.ofNat (nat_lit 3)))]), (nat_lit 4, nat_lit 0, [(nat_lit 60, (.ofNat (nat_lit 0))), (nat_lit 0, (.ofNat (nat_lit 6)))]), (nat_lit 6, nat_lit 1, [(nat_lit 1, (.ofNat (nat_lit 0))), (nat_lit 0, (.ofNat (nat_lit 0)))]), (nat_lit 4, nat_lit 0, [(nat_lit 60, (.ofNat (nat_lit 0))), (nat_lit 0, (.ofNat (nat_lit 6)))])],
  [(nat_lit 7, nat_lit 2, [(nat_lit 0, (.ofNat (nat_lit 0)))]), (nat_lit 8, nat_lit 1, []), (nat_lit 8, nat_lit 5, [(nat_lit 7, (.ofNat (nat_lit 0)))]), (nat_lit 0, nat_lit 1, [(nat_lit 0, (.ofNat (nat_lit 10000))), (nat_lit 6, (.ofNat (nat_lit 0)))]), (nat_lit 4, nat_lit 0, [(nat_lit 60, (.ofNat (nat_lit 0))), (nat_lit 0, (.ofNat (nat_lit 8)))]), (nat_lit 8, nat_lit 2, []), (nat_lit 6, nat_lit 0, [(nat_lit 4, (.ofNat (nat_lit 0))), (nat_lit 0, (.ofNat (nat_lit 17)))]), (nat_lit 4, nat_lit 0, [(nat_lit 60, (.ofNat (nat_lit 0))), (nat_lit 0, (.ofNat (nat_lit 6)))]), (nat_lit 6, nat_lit 1, [(nat_lit 3, (.ofNat (nat_lit 0))), (nat_lit 0, (.ofNat (nat_lit 16)))]), (nat_lit 4, nat_lit 0, [(nat_lit 60, (.ofNat (nat_lit 0))), (nat_lit 0, (.ofNat (nat_lit 6)))]), (nat_lit 6, nat_lit 1, [(nat_lit 2, (.ofNat (nat_lit 0))), (nat_lit 0, (.ofNat (nat_lit 3)))]), (nat_lit 4, nat_lit 0, [(nat_lit 60, (.ofNat (nat_lit 0))), (nat_lit 0, (.ofNat (nat_lit 6)))]), (nat_lit 6, nat_lit 1, [(nat_lit 1, (.ofNat (nat_lit 0))), (nat_lit 0, (.ofNat (nat_lit 0)))]), (nat_lit 4, nat_lit 0, [(nat_lit 60, (.ofNat (nat_lit 0))), (nat_lit 0, (.ofNat (nat_lit 6)))])],
  [(nat_lit 7, nat_lit 2, [(nat_lit 0, (.ofNat (nat_lit 0)))]), (nat_lit 8, nat_lit 1, []), (nat_lit 8, nat_lit 5, [(nat_lit 6, (.ofNat (nat_lit 0)))]), (nat_lit 4, nat_lit 0, [(nat_lit 60, (.ofNat (nat_lit 0))), (nat_lit 0, (.ofNat (nat_lit 8)))]), (nat_lit 8, nat_lit 2, []), (nat_lit 6, nat_lit 2, [(nat_lit 4, (.ofNat (nat_lit 0))), (nat_lit 0, (.ofNat (nat_lit 10000)))]), (nat_lit 4, nat_lit 0, [(nat_lit 60, (.ofNat (nat_lit 0))), (nat_lit 0, (.ofNat (nat_lit 8)))]), (nat_lit 6, nat_lit 0, [(nat_lit 3, (.ofNat (nat_lit 0))), (nat_lit 0, (.ofNat (nat_lit 16)))]), (nat_lit 4, nat_lit 0, [(nat_lit 60, (.ofNat (nat_lit 0))), (nat_lit 0, (.ofNat (nat_lit 6)))]), (nat_lit 6, nat_lit 1, [(nat_lit 2, (.ofNat (nat_lit 0))), (nat_lit 0, (.ofNat (nat_lit 3)))]), (nat_lit 4, nat_lit 0, [(nat_lit 60, (.ofNat (nat_lit 0))), (nat_lit 0, (.ofNat (nat_lit 6)))]), (nat_lit 6, nat_lit 1, [(nat_lit 1, (.ofNat (nat_lit 0))), (nat_lit 0, (.ofNat (nat_lit 0)))]), (nat_lit 4, nat_lit 0, [(nat_lit 60, (.ofNat (nat_lit 0))), (nat_lit 0, (.ofNat (nat_lit 6)))])],
  [(nat_lit 7, nat_lit 2, [(nat_lit 0, (.ofNat (nat_lit 0)))]), (nat_lit 8, nat_lit 1, []), (nat_lit 8, nat_lit 5, [(nat_lit 8, (.ofNat (nat_lit 0)))]), (nat_lit 4, nat_lit 0, [(nat_lit 60, (.ofNat (nat_lit 0))), (nat_lit 0, (.ofNat (nat_lit 8)))]), (nat_lit 8, nat_lit 2, []), (nat_lit 8, nat_lit 0, [(nat_lit 0, (.ofNat (nat_lit 2))), (nat_lit 5, (.ofNat (nat_lit 0)))]), (nat_lit 4, nat_lit 0, [(nat_lit 60, (.ofNat (nat_lit 0))), (nat_lit 0, (.ofNat (nat_lit 7)))]), (nat_lit 6, nat_lit 3, [(nat_lit 4, (.ofNat (nat_lit 0))), (nat_lit 0, (.ofNat (nat_lit 10000)))]), (nat_lit 4, nat_lit 0, [(nat_lit 60, (.ofNat (nat_lit 0))), (nat_lit 0, (.ofNat (nat_lit 8)))]), (nat_lit 6, nat_lit 0, [(nat_lit 3, (.ofNat (nat_lit 0))), (nat_lit 0, (.ofNat (nat_lit 16)))]), (nat_lit 4, nat_lit 0, [(nat_lit 60, (.ofNat (nat_lit 0))), (nat_lit 0, (.ofNat (nat_lit 6)))]), (nat_lit 6, nat_lit 1, [(nat_lit 2, (.ofNat (nat_lit 0))), (nat_lit 0, (.ofNat (nat_lit 3)))]), (nat_lit 4, nat_lit 0, [(nat_lit 60, (.ofNat (nat_lit 0))), (nat_lit 0, (.ofNat (nat_lit 6)))]), (nat_lit 6, nat_lit 1, [(nat_lit 1, (.ofNat (nat_lit 0))), (nat_lit 0, (.ofNat (nat_lit 0)))]), (nat_lit 4, nat_lit 0, [(nat_lit 60, (.ofNat (nat_lit 0))), (nat_lit 0, (.ofNat (nat_lit 6)))])],
  [(nat_lit 7, nat_lit 2, [(nat_lit 0, (.ofNat (nat_lit 0)))]), (nat_lit 8, nat_lit 1, []), (nat_lit 8, nat_lit 0, [(nat_lit 0, (.ofNat (nat_lit 1))), (nat_lit 6, (.ofNat (nat_lit 0)))]), (nat_lit 4, nat_lit 0, [(nat_lit 60, (.ofNat (nat_lit 0))), (nat_lit 0, (.ofNat (nat_lit 7)))]), (nat_lit 6, nat_lit 1, [(nat_lit 5, (.ofNat (nat_lit 0))), (nat_lit 0, (.ofNat (nat_lit 17)))]), (nat_lit 4, nat_lit 0, [(nat_lit 60, (.ofNat (nat_lit 0))), (nat_lit 0, (.ofNat (nat_lit 6)))]), (nat_lit 6, nat_lit 1, [(nat_lit 4, (.ofNat (nat_lit 0))), (nat_lit 0, (.ofNat (nat_lit 16)))]), (nat_lit 4, nat_lit 0, [(nat_lit 60, (.ofNat (nat_lit 0))), (nat_lit 0, (.ofNat (nat_lit 6)))]), (nat_lit 6, nat_lit 4, [(nat_lit 3, (.ofNat (nat_lit 0))), (nat_lit 0, (.ofNat (nat_lit 3)))]), (nat_lit 8, nat_lit 6, []), (nat_lit 6, nat_lit 0, [(nat_lit 2, (.ofNat (nat_lit 0))), (nat_lit 0, (.ofNat (nat_lit 3)))]), (nat_lit 4, nat_lit 0, [(nat_lit 60, (.ofNat (nat_lit 0))), (nat_lit 0, (.ofNat (nat_lit 6)))]), (nat_lit 6, nat_lit 1, [(nat_lit 1, (.ofNat (nat_lit 0))), (nat_lit 0, (.ofNat (nat_lit 0)))]), (nat_lit 4, nat_lit 0, [(nat_lit 60, (.ofNat (nat_lit 0))), (nat_lit 0, (.ofNat (nat_lit 6)))])],
  [(nat_lit 7, nat_lit 3, []), (nat_lit 6, nat_lit 0, [(nat_lit 5, (.ofNat (nat_lit 0))), (nat_lit 0, (.ofNat (nat_lit 17)))]), (nat_lit 4, nat_lit 0, [(nat_lit 60, (.ofNat (nat_lit 0))), (nat_lit 0, (.ofNat (nat_lit 6)))]), (nat_lit 6, nat_lit 1, [(nat_lit 4, (.ofNat (nat_lit 0))), (nat_lit 0, (.ofNat (nat_lit 16)))]), (nat_lit 4, nat_lit 0, [(nat_lit 60, (.ofNat (nat_lit 0))), (nat_lit 0, (.ofNat (nat_lit 6)))]), (nat_lit 6, nat_lit 4, [(nat_lit 3, (.ofNat (nat_lit 0))), (nat_lit 0, (.ofNat (nat_lit 3)))]), (nat_lit 8, nat_lit 6, []), (nat_lit 6, nat_lit 0, [(nat_lit 2, (.ofNat (nat_lit 0))), (nat_lit 0, (.ofNat (nat_lit 3)))]), (nat_lit 4, nat_lit 0, [(nat_lit 60, (.ofNat (nat_lit 0))), (nat_lit 0, (.ofNat (nat_lit 6)))]), (nat_lit 6, nat_lit 1, [(nat_lit 1, (.ofNat (nat_lit 0))), (nat_lit 0, (.ofNat (nat_lit 0)))]), (nat_lit 4, nat_lit 0, [(nat_lit 60, (.ofNat (nat_lit 0))), (nat_lit 0, (.ofNat (nat_lit 6)))])],
  [(nat_lit 7, nat_lit 3, []), (nat_lit 6, nat_lit 0, [(nat_lit 4, (.ofNat (nat_lit 0))), (nat_lit 0, (.ofNat (nat_lit 16)))]), (nat_lit 4, nat_lit 0, [(nat_lit 60, (.ofNat (nat_lit 0))), (nat_lit 0, (.ofNat (nat_lit 6)))]), (nat_lit 6, nat_lit 4, [(nat_lit 3, (.ofNat (nat_lit 0))), (nat_lit 0, (.ofNat (nat_lit 3)))]), (nat_lit 8, nat_lit 6, []), (nat_lit 6, nat_lit 0, [(nat_lit 2, (.ofNat (nat_lit 0))), (nat_lit 0, (.ofNat (nat_lit 3)))]), (nat_lit 4, nat_lit 0, [(nat_lit 60, (.ofNat (nat_lit 0))), (nat_lit 0, (.ofNat (nat_lit 6)))]), (nat_lit 6, nat_lit 1, [(nat_lit 1, (.ofNat (nat_lit 0))), (nat_lit 0, (.ofNat (nat_lit 0)))]), (nat_lit 4, nat_lit 0, [(nat_lit 60, (.ofNat (nat_lit 0))), (nat_lit 0, (.ofNat (nat_lit 6)))])],
  [(nat_lit 7, nat_lit 2, [(nat_lit 0, (.ofNat (nat_lit 1)))]), (nat_lit 8, nat_lit 1, []), (nat_lit 8, nat_lit 4, [(nat_lit 0, (.ofNat (nat_lit 3)))]), (nat_lit 8, nat_lit 2, []), (nat_lit 6, nat_lit 5, [(nat_lit 3, (.ofNat (nat_lit 0))), (nat_lit 0, (.ofNat (nat_lit 3)))]), (nat_lit 8, nat_lit 6, []), (nat_lit 6, nat_lit 0, [(nat_lit 2, (.ofNat (nat_lit 0))), (nat_lit 0, (.ofNat (nat_lit 3)))]), (nat_lit 4, nat_lit 0, [(nat_lit 60, (.ofNat (nat_lit 0))), (nat_lit 0, (.ofNat (nat_lit 6)))]), (nat_lit 6, nat_lit 1, [(nat_lit 1, (.ofNat (nat_lit 0))), (nat_lit 0, (.ofNat (nat_lit 0)))]), (nat_lit 4, nat_lit 0, [(nat_lit 60, (.ofNat (nat_lit 0))), (nat_lit 0, (.ofNat (nat_lit 6)))])],
  [(nat_lit 7, nat_lit 2, [(nat_lit 0, (.ofNat (nat_lit 1)))]), (nat_lit 8, nat_lit 1, []), (nat_lit 8, nat_lit 3, []), (nat_lit 5, nat_lit 0, [(nat_lit 60, (.ofNat (nat_lit 0))), (nat_lit 0, (.ofNat (nat_lit 13))), (nat_lit 4, (.ofNat (nat_lit 0)))]), (nat_lit 0, nat_lit 1, [(nat_lit 3, (.ofNat (nat_lit 0))), (nat_lit 0, (.ofNat (nat_lit 1)))]), (nat_lit 4, nat_lit 0, [(nat_lit 60, (.ofNat (nat_lit 0))), (nat_lit 0, (.ofNat (nat_lit 13)))]), (nat_lit 6, nat_lit 2, [(nat_lit 2, (.ofNat (nat_lit 0))), (nat_lit 0, (.ofNat (nat_lit 8)))]), (nat_lit 4, nat_lit 0, [(nat_lit 60, (.ofNat (nat_lit 0))), (nat_lit 0, (.ofNat (nat_lit 13)))]), (nat_lit 6, nat_lit 0, [(nat_lit 1, (.ofNat (nat_lit 0))), (nat_lit 0, (.ofNat (nat_lit 0)))]), (nat_lit 4, nat_lit 0, [(nat_lit 60, (.ofNat (nat_lit 0))), (nat_lit 0, (.ofNat (nat_lit 6)))])],
  [(nat_lit 7, nat_lit 2, [(nat_lit 0, (.ofNat (nat_lit 1)))]), (nat_lit 8, nat_lit 1, []), (nat_lit 8, nat_lit 3, []), (nat_lit 5, nat_lit 0, [(nat_lit 60, (.ofNat (nat_lit 0))), (nat_lit 0, (.ofNat (nat_lit 13))), (nat_lit 6, (.ofNat (nat_lit 0)))]), (nat_lit 0, nat_lit 1, [(nat_lit 5, (.ofNat (nat_lit 0))), (nat_lit 0, (.ofNat (nat_lit 1)))]), (nat_lit 4, nat_lit 0, [(nat_lit 60, (.ofNat (nat_lit 0))), (nat_lit 0, (.ofNat (nat_lit 13)))]), (nat_lit 8, nat_lit 0, [(nat_lit 0, (.ofNat (nat_lit 2))), (nat_lit 3, (.ofNat (nat_lit 0)))]), (nat_lit 4, nat_lit 0, [(nat_lit 60, (.ofNat (nat_lit 0))), (nat_lit 0, (.ofNat (nat_lit 7)))]), (nat_lit 6, nat_lit 3, [(nat_lit 2, (.ofNat (nat_lit 0))), (nat_lit 0, (.ofNat (nat_lit 8)))]), (nat_lit 4, nat_lit 0, [(nat_lit 60, (.ofNat (nat_lit 0))), (nat_lit 0, (.ofNat (nat_lit 13)))]), (nat_lit 6, nat_lit 0, [(nat_lit 1, (.ofNat (nat_lit 0))), (nat_lit 0, (.ofNat (nat_lit 0)))]), (nat_lit 4, nat_lit 0, [(nat_lit 60, (.ofNat (nat_lit 0))), (nat_lit 0, (.ofNat (nat_lit 6)))])]]
def zEqe_readOperand : List (List zK) := [[(nat_lit 13, nat_lit 0, [(nat_lit 0, (.ofNat (nat_lit 1))), (nat_lit 5, (.ofNat (nat_lit 0)))]), (nat_lit 4, nat_lit 0, [(nat_lit 60, (.ofNat (nat_lit 0))), (nat_lit 0, (.ofNat (nat_lit 7)))]), (nat_lit 6, nat_lit 1, [(nat_lit 4, (.ofNat (nat_lit 0))), (nat_lit 0, (.ofNat (nat_lit 17)))]), (nat_lit 4, nat_lit 0, [(nat_lit 60, (.ofNat (nat_lit 0))), (nat_lit 0, (.ofNat (nat_lit 6)))]), (nat_lit 6, nat_lit 1, [(nat_lit 3, (.ofNat (nat_lit 0))), (nat_lit 0, (.ofNat (nat_lit 16)))]), (nat_lit 4, nat_lit 0, [(nat_lit 60, (.ofNat (nat_lit 0))), (nat_lit 0, (.ofNat (nat_lit 6)))]), (nat_lit 6, nat_lit 1, [(nat_lit 2, (.ofNat (nat_lit 0))), (nat_lit 0, (.ofNat (nat_lit 3)))]), (nat_lit 4, nat_lit 0, [(nat_lit 60, (.ofNat (nat_lit 0))), (nat_lit 0, (.ofNat (nat_lit 6)))]), (nat_lit 6, nat_lit 1, [(nat_lit 1, (.ofNat (nat_lit 0))), (nat_lit 0, (.ofNat (nat_lit 0)))]), (nat_lit 4, nat_lit 0, [(nat_lit 60, (.ofNat (nat_lit 0))), (nat_lit 0, (.ofNat (nat_lit 6)))])],
  [(nat_lit 13, nat_lit 1, []), (nat_lit 8, nat_lit 0, [(nat_lit 0, (.ofNat (nat_lit 1))), (nat_lit 5, (.ofNat (nat_lit 0)))]), (nat_lit 4, nat_lit 0, [(nat_lit 60, (.ofNat (nat_lit 0))), (nat_lit 0, (.ofNat (nat_lit 7)))]), (nat_lit 6, nat_lit 1, [(nat_lit 4, (.ofNat (nat_lit 0))), (nat_lit 0, (.ofNat (nat_lit 17)))]), (nat_lit 4, nat_lit 0, [(nat_lit 60, (.ofNat (nat_lit 0))), (nat_lit 0, (.ofNat (nat_lit 6)))]), (nat_lit 6, nat_lit 1, [(nat_lit 3, (.ofNat (nat_lit 0))), (nat_lit 0, (.ofNat (nat_lit 16)))]), (nat_lit 4, nat_lit 0, [(nat_lit 60, (.ofNat (nat_lit 0))), (nat_lit 0, (.ofNat (nat_lit 6)))]), (nat_lit 6, nat_lit 1, [(nat_lit 2, (.ofNat (nat_lit 0))), (nat_lit 0, (.ofNat (nat_lit 3)))]), (nat_lit 4, nat_lit 0, [(nat_lit 60, (.ofNat (nat_lit 0))), (nat_lit 0, (.ofNat (nat_lit 6)))]), (nat_lit 6, nat_lit 1, [(nat_lit 1, (.ofNat (nat_lit 0))), (nat_lit 0, (.ofNat (nat_lit 0)))]), (nat_lit 4, nat_lit 0, [(nat_lit 60, (.ofNat (nat_lit 0))), (nat_lit 0, (.ofNat (nat_lit 6)))])],
  [(nat_lit 11, nat_lit 0, [(nat_lit 0, (.ofNat (nat_lit 0)))]), (nat_lit 8, nat_lit 1, []), (nat_lit 8, nat_lit 0, [(nat_lit 0, (.ofNat (nat_lit 1))), (nat_lit 5, (.ofNat (nat_lit 0)))]), (nat_lit 4, nat_lit 0, [(nat_lit 60, (.ofNat (nat_lit 0))), (nat_lit 0, (.ofNat (nat_lit 7)))]), (nat_lit 6, nat_lit 1, [(nat_lit 4, (.ofNat (nat_lit 0))), (nat_lit 0, (.ofNat (nat_lit 17)))]), (nat_lit 4, nat_lit 0, [(nat_lit 60, (.ofNat (nat_lit 0))), (nat_lit 0, (.ofNat (nat_lit 6)))]), (nat_lit 6, nat_lit 1, [(nat_lit 3, (.ofNat (nat_lit 0))), (nat_lit 0, (.ofNat (nat_lit 16)))]), (nat_lit 4, nat_lit 0, [(nat_lit 60, (.ofNat (nat_lit 0))), (nat_lit 0, (.ofNat (nat_lit 6)))]), (nat_lit 6, nat_lit 1, [(nat_lit 2, (.ofNat (nat_lit 0))), (nat_lit 0, (.ofNat (nat_lit 3)))]), (nat_lit 4, nat_lit 0, [(nat_lit 60, (.ofNat (nat_lit 0))), (nat_lit 0, (.ofNat (nat_lit 6)))]), (nat_lit 6, nat_lit 1, [(nat_lit 1, (.ofNat (nat_lit 0))), (nat_lit 0, (.ofNat (nat_lit 0)))]), (nat_lit 4, nat_lit 0, [(nat_lit 60, (.ofNat (nat_lit 0))), (nat_lit 0, (.ofNat (nat_lit 6)))])],
  [(nat_lit 13, nat_lit 2, []), (nat_lit 6, nat_lit 0, [(nat_lit 4, (.ofNat (nat_lit 0))), (nat_lit 0, (.ofNat (nat_lit 17)))]), (nat_lit 4, nat_lit 0, [(nat_lit 60, (.ofNat (nat_lit 0))), (nat_lit 0, (.ofNat (nat_lit 6)))]), (nat_lit 6, nat_lit 1, [(nat_lit 3, (.ofNat (nat_lit 0))), (nat_lit 0, (.ofNat (nat_lit 16)))]), (nat_lit 4, nat_lit 0, [(nat_lit 60, (.ofNat (nat_lit 0))), (nat_lit 0, (.ofNat (nat_lit 6)))]), (nat_lit 6, nat_lit 1, [(nat_lit 2, (.ofNat (nat_lit 0))), (nat_lit 0, (.ofNat (nat_lit 3)))]), (nat_lit 4, nat_lit 0, [(nat_lit 60, (.ofNat (nat_lit 0))), (nat_lit 0, (.ofNat (nat_lit 6)))]), (nat_lit 6, nat_lit 1, [(nat_lit 1, (.ofNat (nat_lit 0))), (nat_lit 0, (.ofNat (nat_lit 0)))]), (nat_lit 4, nat_lit 0, [(nat_lit 60, (.ofNat (nat_lit 0))), (nat_lit 0, (.ofNat (nat_lit 6)))])],
  [(nat_lit 13, nat_lit 5, [(nat_lit 7, (.ofNat (nat_lit 0)))]), (nat_lit 0, nat_lit 1, [(nat_lit 0, (.ofNat (nat_lit 10000))), (nat_lit 6, (.ofNat (nat_lit 0)))]), (nat_lit 4, nat_lit 0, [(nat_lit 60, (.ofNat (nat_lit 0))), (nat_lit 0, (.ofNat (nat_lit 8)))]), (nat_lit 8, nat_lit 2, []), (nat_lit 6, nat_lit 0, [(nat_lit 4, (.ofNat (nat_lit 0))), (nat_lit 0, (.ofNat (nat_lit 17)))]), (nat_lit 4, nat_lit 0, [(nat_lit 60, (.ofNat (nat_lit 0))), (nat_lit 0, (.ofNat (nat_lit 6)))]), (nat_lit 6, nat_lit 1, [(nat_lit 3, (.ofNat (nat_lit 0))), (nat_lit 0, (.ofNat (nat_lit 16)))]), (nat_lit 4, nat_lit 0, [(nat_lit 60, (.ofNat (nat_lit 0))), (nat_lit 0, (.ofNat (nat_lit 6)))]), (nat_lit 6, nat_lit 1, [(nat_lit 2, (.ofNat (nat_lit 0))), (nat_lit 0, (.ofNat (nat_lit 3)))]), (nat_lit 4, nat_lit 0, [(nat_lit 60, (.ofNat (nat_lit 0))), (nat_lit 0, (.ofNat (nat_lit 6)))]), (nat_lit 6, nat_lit 1, [(nat_lit 1, (.ofNat (nat_lit 0))), (nat_lit 0, (.ofNat (nat_lit 0)))]), (nat_lit 4, nat_lit 0, [(nat_lit 60, (.ofNat (nat_lit 0))), (nat_lit 0, (.ofNat (nat_lit 6)))])],
  [(nat_lit 13, nat_lit 1, []), (nat_lit 8, nat_lit 5, [(nat_lit 7, (.ofNat (nat_lit 0)))]), (nat_lit 0, nat_lit 1, [(nat_lit 0, (.ofNat (nat_lit 10000))), (nat_lit 6, (.ofNat (nat_lit 0)))]), (nat_lit 4, nat_lit 0, [(nat_lit 60, (.ofNat (nat_lit 0))), (nat_lit 0, (.ofNat (nat_lit 8)))]), (nat_lit 8, nat_lit 2, []), (nat_lit 6, nat_lit 0, [(nat_lit 4, (.ofNat (nat_lit 0))), (nat_lit 0, (.ofNat (nat_lit 17)))]), (nat_lit 4, nat_lit 0, [(nat_lit 60, (.ofNat (nat_lit 0))), (nat_lit 0, (.ofNat (nat_lit 6)))]), (nat_lit 6, nat_lit 1, [(nat_lit 3, (.ofNat (nat_lit 0))), (nat_lit 0, (.ofNat (nat_lit 16)))]), (nat_lit 4, nat_lit 0, [(nat_lit 60, (.ofNat (nat_lit 0))), (nat_lit 0, (.ofNat (nat_lit 6)))]), (nat_lit 6, nat_lit 1, [(nat_lit 2, (.ofNat (nat_lit 0))), (nat_lit 0, (.ofNat (nat_lit 3)))]), (nat_lit 4, nat_lit 0, [(nat_lit 60, (.ofNat (nat_lit 0))), (nat_lit 0, (.ofNat (nat_lit 6)))]), (nat_lit 6, nat_lit 1, [(nat_lit 1, (.ofNat (nat_lit 0))), (nat_lit 0, (.ofNat (nat_lit 0)))]), (nat_lit 4, nat_lit 0, [(nat_lit 60, (.ofNat (nat_lit 0))), (nat_lit 0, (.ofNat (nat_lit 6)))])],
  [(nat_lit 11, nat_lit 0, [(nat_lit 0, (.ofNat (nat_lit 0)))]), (nat_lit 8, nat_lit 1, []), (nat_lit 8, nat_lit 5, [(nat_lit 7, (.ofNat (nat_lit 0)))]), (nat_lit 0, nat_lit 1, [(nat_lit 0, (.ofNat (nat_lit 10000))), (nat_lit 6, (.ofNat (nat_lit 0)))]), (nat_lit 4, nat_lit 0, [(nat_lit 60, (.ofNat (nat_lit 0))), (nat_lit 0, (.ofNat (nat_lit 8)))]), (nat_lit 8, nat_lit 2, []), (nat_lit 6, nat_lit 0, [(nat_lit 4, (.ofNat (nat_lit 0))), (nat_lit 0, (.ofNat (nat_lit 17)))]), (nat_lit 4, nat_lit 0, [(nat_lit 60, (.ofNat (nat_lit 0))), (nat_lit 0, (.ofNat (nat_lit 6)))]), (nat_lit 6, nat_lit 1, [(nat_lit 3, (.ofNat (nat_lit 0))), (nat_lit 0, (.ofNat (nat_lit 16)))]), (nat_lit 4, nat_lit 0, [(nat_lit 60, (.ofNat (nat_lit 0))), (nat_lit 0, (.ofNat (nat_lit 6)))]), (nat_lit 6, nat_lit 1, [(nat_lit 2, (.ofNat (nat_lit 0))), (nat_lit 0, (.ofNat (nat_lit 3)))]), (nat_lit 4, nat_lit 0, [(nat_lit 60, (.ofNat (nat_lit 0))), (nat_lit 0, (.ofNat (nat_lit 6)))]), (nat_lit 6, nat_lit 1, [(nat_lit 1, (.ofNat (nat_lit 0))), (nat_lit 0, (.ofNat (nat_lit 0)))]), (nat_lit 4, nat_lit 0, [(nat_lit 60, (.ofNat (nat_lit 0))), (nat_lit 0, (.ofNat (nat_lit 6)))])],
  [(nat_lit 13, nat_lit 2, []), (nat_lit 6, nat_lit 2, [(nat_lit 4, (.ofNat (nat_lit 0))), (nat_lit 0, (.ofNat (nat_lit 10000)))]), (nat_lit 4, nat_lit 0, [(nat_lit 60, (.ofNat (nat_lit 0))), (nat_lit 0, (.ofNat (nat_lit 8)))]), (nat_lit 6, nat_lit 0, [(nat_lit 3, (.ofNat (nat_lit 0))), (nat_lit 0, (.ofNat (nat_lit 16)))]), (nat_lit 4, nat_lit 0, [(nat_lit 60, (.ofNat (nat_lit 0))), (nat_lit 0, (.ofNat (nat_lit 6)))]), (nat_lit 6, nat_lit 1, [(nat_lit 2, (.ofNat (nat_lit 0))), (nat_lit 0, (.ofNat (nat_lit 3)))]), (nat_lit 4, nat_lit 0, [(nat_lit 60, (.ofNat (nat_lit 0))), (nat_lit 0, (.ofNat (nat_lit 6)))]), (nat_lit 6, nat_lit 1, [(nat_lit 1, (.ofNat (nat_lit 0))), (nat_lit 0, (.ofNat (nat_lit 0)))]), (nat_lit 4, nat_lit 0, [(nat_lit 60, (.ofNat (nat_lit 0))), (nat_lit 0, (.ofNat (nat_lit 6)))])],
  [(nat_lit 13, nat_lit 5, [(nat_lit 6, (.ofNat (nat_lit 0)))]), (nat_lit 4, nat_lit 0, [(nat_lit 60, (.ofNat (nat_lit 0))), (nat_lit 0, (.ofNat (nat_lit 8)))]), (nat_lit 8, nat_lit 2, []), (nat_lit 6, nat_lit 2, [(nat_lit 4, (.ofNat (nat_lit 0))), (nat_lit 0, (.ofNat (nat_lit 10000)))]), (nat_lit 4, nat_lit 0, [(nat_lit 60, (.ofNat (nat_lit 0))), (nat_lit 0, (.ofNat (nat_lit 8)))]), (nat_lit 6, nat_lit 0, [(nat_lit 3, (.ofNat (nat_lit 0))), (nat_lit 0, (.ofNat (nat_lit 16)))]), (nat_lit 4, nat_lit 0, [(nat_lit 60, (.ofNat (nat_lit 0))), (nat_lit 0, (.ofNat (nat_lit 6)))]), (nat_lit 6, nat_lit 1, [(nat_lit 2, (.ofNat (nat_lit 0))), (nat_lit 0, (.ofNat (nat_lit 3)))]), (nat_lit 4, nat_lit 0, [(nat_lit 60, (.ofNat (nat_lit 0))), (nat_lit 0, (.ofNat (nat_lit 6)))]), (nat_lit 6, nat_lit 1, [(nat_lit 1, (.ofNat (nat_lit 0))), (nat_lit 0, (.ofNat (nat_lit 0)))]), (nat_lit 4, nat_lit 0, [(nat_lit 60, (.ofNat (nat_lit 0))), (nat_lit 0, (.ofNat (nat_lit 6)))])],
  [(nat_lit 13, nat_lit 1, []), (nat_lit 8, nat_lit 5, [(nat_lit 6, (.ofNat (nat_lit 0)))]), (nat_lit 4, nat_lit 0, [(nat_lit 60, (.ofNat (nat_lit 0))), (nat_lit 0, (.ofNat (nat_lit 8)))]), (nat_lit 8, nat_lit 2, []), (nat_lit 6, nat_lit 2, [(nat_lit 4, (.ofNat (nat_lit 0))), (nat_lit 0, (.ofNat (nat_lit 10000)))]), (nat_lit 4, nat_lit 0, [(nat_lit 60, (.ofNat (nat_lit 0))), (nat_lit 0, (.ofNat (nat_lit 8)))]), (nat_lit 6, nat_lit 0, [(nat_lit 3, (.ofNat (nat_lit 0))), (nat_lit 0, (.ofNat (nat_lit 16)))]), (nat_lit 4, nat_lit 0, [(nat_lit 60, (.ofNat (nat_lit 0))), (nat_lit 0, (.ofNat (nat_lit 6)))]), (nat_lit 6, nat_lit 1, [(nat_lit 2, (.ofNat (nat_lit 0))), (nat_lit 0, (.ofNat (nat_lit 3)))]), (nat_lit 4, nat_lit 0, [(nat_lit 60, (.ofNat (nat_lit 0))), (nat_lit 0, (.ofNat (nat_lit 6)))]), (nat_lit 6, nat_lit 1, [(nat_lit 1, (.ofNat (nat_lit 0))), (nat_lit 0, (.ofNat (nat_lit 0)))]), (nat_lit 4, nat_lit 0, [(nat_lit 60, (.ofNat (nat_lit 0))), (nat_lit 0, (.ofNat (nat_lit 6)))])],
  [(nat_lit 11, nat_lit 0, [(nat_lit 0, (.ofNat (nat_lit 0)))]), (nat_lit 8, nat_lit 1, []), (nat_lit 8, nat_lit 5, [(nat_lit 6, (.ofNat (nat_lit 0)))]), (nat_lit 4, nat_lit 0, [(nat_lit 60, (.ofNat (nat_lit 0))), (nat_lit 0, (.ofNat (nat_lit 8)))]), (nat_lit 8, nat_lit 2, []), (nat_lit 6, nat_lit 2, [(nat_lit 4, (.ofNat (nat_lit 0))), (nat_lit 0, (.ofNat (nat_lit 10000)))]), (nat_lit 4, nat_lit 0, [(nat_lit 60, (.ofNat (nat_lit 0))), (nat_lit 0, (.ofNat (nat_lit 8)))]), (nat_lit 6, nat_lit 0, [(nat_lit 3, (.ofNat (nat_lit 0))), (nat_lit 0, (.ofNat (nat_lit 16)))]), (nat_lit 4, nat_lit 0, [(nat_lit 60, (.ofNat (nat_lit 0))), (nat_lit 0, (.ofNat (nat_lit 6)))]), (nat_lit 6, nat_lit 1, [(nat_lit 2, (.ofNat (nat_lit 0))), (nat_lit 0, (.ofNat (nat_lit 3)))]), (nat_lit 4, nat_lit 0, [(nat_lit 60, (.ofNat (nat_lit 0))), (nat_lit 0, (.ofNat (nat_lit 6)))]), (nat_lit 6, nat_lit 1, [(nat_lit 1, (.ofNat (nat_lit 0))), (nat_lit 0, (.ofNat (nat_lit 0)))]), (nat_lit 4, nat_lit 0, [(nat_lit 60, (.ofNat (nat_lit 0))), (nat_lit 0, (.ofNat (nat_lit 6)))])],
  [(nat_lit 13, nat_lit 0, [(nat_lit 0, (.ofNat (nat_lit 2))), (nat_lit 5, (.ofNat (nat_lit 0)))]), (nat_lit 4, nat_lit 0, [(nat_lit 60, (.ofNat (nat_lit 0))), (nat_lit 0, (.ofNat (nat_lit 7)))]), (nat_lit 6, nat_lit 3, [(nat_lit 4, (.ofNat (nat_lit 0))), (nat_lit 0, (.ofNat (nat_lit 10000)))]), (nat_lit 4, nat_lit 0, [(nat_lit 60, (.ofNat (nat_lit 0))), (nat_lit 0, (.ofNat (nat_lit 8)))]), (nat_lit 6, nat_lit 0, [(nat_lit 3, (.ofNat (nat_lit 0))), (nat_lit 0, (.ofNat (nat_lit 16)))]), (nat_lit 4, nat_lit 0, [(nat_lit 60, (.ofNat (nat_lit 0))), (nat_lit 0, (.ofNat (nat_lit 6)))]), (nat_lit 6, nat_lit 1, [(nat_lit 2, (.ofNat (nat_lit 0))), (nat_lit 0, (.ofNat (nat_lit 3)))]), (nat_lit 4, nat_lit 0, [(nat_lit 60, (.ofNat (nat_lit 0))), (nat_lit 0, (.ofNat (nat_lit 6)))]), (nat_lit 6, nat_lit 1, [(nat_lit 1, (.ofNat (nat_lit 0))), (nat_lit 0, (.ofNat (nat_lit 0)))]), (nat_lit 4, nat_lit 0, [(nat_lit 60, (.ofNat (nat_lit 0))), (nat_lit 0, (.ofNat (nat_lit 6)))])],
  [(nat_lit 13, nat_lit 2, []), (nat_lit 8, nat_lit 0, [(nat_lit 0, (.ofNat (nat_lit 2))), (nat_lit 5, (.ofNat (nat_lit 0)))]), (nat_lit 4, nat_lit 0, [(nat_lit 60, (.ofNat (nat_lit 0))), (nat_lit 0, (.ofNat (nat_lit 7)))]), (nat_lit 6, nat_lit 3, [(nat_lit 4, (.ofNat (nat_lit 0))), (nat_lit 0, (.ofNat (nat_lit 10000)))]), (nat_lit 4, nat_lit 0, [(nat_lit 60, (.ofNat (nat_lit 0))), (nat_lit 0, (.ofNat (nat_lit 8)))]), (nat_lit 6, nat_lit 0, [(nat_lit 3, (.ofNat (nat_lit 0))), (nat_lit 0, (.ofNat (nat_lit 16)))]), (nat_lit 4, nat_lit 0, [(nat_lit 60, (.ofNat (nat_lit 0))), (nat_lit 0, (.ofNat (nat_lit 6)))]), (nat_lit 6, nat_lit 1, [(nat_lit 2, (.ofNat (nat_lit 0))), (nat_lit 0, (.ofNat (nat_lit 3)))]), (nat_lit 4, nat_lit 0, [(nat_lit 60, (.ofNat (nat_lit 0))), (nat_lit 0, (.ofNat (nat_lit 6)))]), (nat_lit 6, nat_lit 1, [(nat_lit 1, (.ofNat (nat_lit 0))), (nat_lit 0, (.ofNat (nat_lit 0)))]), (nat_lit 4, nat_lit 0, [(nat_lit 60, (.ofNat (nat_lit 0))), (nat_lit 0, (.ofNat (nat_lit 6)))])],
  [(nat_lit 13, nat_lit 5, [(nat_lit 8, (.ofNat (nat_lit 0)))]), (nat_lit 4, nat_lit 0, [(nat_lit 60, (.ofNat (nat_lit 0))), (nat_lit 0, (.ofNat (nat_lit 8)))]), (nat_lit 8, nat_lit 2, []), (nat_lit 8, nat_lit 0, [(nat_lit 0, (.ofNat (nat_lit 2))), (nat_lit 5, (.ofNat (nat_lit 0)))]), (nat_lit 4, nat_lit 0, [(nat_lit 60, (.ofNat (nat_lit 0))), (nat_lit 0, (.ofNat (nat_lit 7)))]), (nat_lit 6, nat_lit 3, [(nat_lit 4, (.ofNat (nat_lit 0))), (nat_lit 0, (.ofNat (nat_lit 10000)))]), (nat_lit 4, nat_lit 0, [(nat_lit 60, (.ofNat (nat_lit 0))), (nat_lit 0, (.ofNat (nat_lit 8)))]), (nat_lit 6, nat_lit 0, [(nat_lit 3, (.ofNat (nat_lit 0))), (nat_lit 0, (.ofNat (nat_lit 16)))]), (nat_lit 4, nat_lit 0, [(nat_lit 60, (.ofNat (nat_lit 0))), (nat_lit 0, (.ofNat (nat_lit 6)))]), (nat_lit 6, nat_lit 1, [(nat_lit 2, (.ofNat (nat_lit 0))), (nat_lit 0, (.ofNat (nat_lit 3)))]), (nat_lit 4, nat_lit 0, [(nat_lit 60, (.ofNat (nat_lit 0))), (nat_lit 0, (.ofNat (nat_lit 6)))]), (nat_lit 6, nat_lit 1, [(nat_lit 1, (.ofNat (nat_lit 0))), (nat_lit 0, (.ofNat (nat_lit 0)))]), (nat_lit 4, nat_lit 0, [(nat_lit 60, (.ofNat (nat_lit 0))), (nat_lit 0, (.ofNat (nat_lit 6)))])],
  [(nat_lit 13, nat_lit 1, []), (nat_lit 8, nat_lit 5, [(nat_lit 8, (.ofNat (nat_lit 0)))]), (nat_lit 4, nat_lit 0, [(nat_lit 60, (.ofNat (nat_lit 0))), (nat_lit 0, (.ofNat (nat_lit 8)))]), (nat_lit 8, nat_lit 2, []), (nat_lit 8, nat_lit 0, [(nat_lit 0, (.ofNat (nat_lit 2))), (nat_lit 5, (.ofNat (nat_lit 0)))]), (nat_lit 4, nat_lit 0, [(nat_lit 60, (.ofNat (nat_lit 0))), (nat_lit 0, (.ofNat (nat_lit 7)))]), (nat_lit 6, nat_lit 3, [(nat_lit 4, (.ofNat (nat_lit 0))), (nat_lit 0, (.ofNat (nat_lit 10000)))]), (nat_lit 4, nat_lit 0, [(nat_lit 60, (.ofNat (nat_lit 0))), (nat_lit 0, (.ofNat (nat_lit 8)))]), (nat_lit 6, nat_lit 0, [(nat_lit 3, (.ofNat (nat_lit 0))), (nat_lit 0, (.ofNat (nat_lit 16)))]), (nat_lit 4, nat_lit 0, [(nat_lit 60, (.ofNat (nat_lit 0))), (nat_lit 0, (.ofNat (nat_lit 6)))]), (nat_lit 6, nat_lit 1, [(nat_lit 2, (.ofNat (nat_lit 0))), (nat_lit 0, (.ofNat (nat_lit 3)))]), (nat_lit 4, nat_lit 0, [(nat_lit 60, (.ofNat (nat_lit 0))), (nat_lit 0, (.ofNat (nat_lit 6)))]), (nat_lit 6, nat_lit 1, [(nat_lit 1, (.ofNat (nat_lit 0))), (nat_lit 0, (.ofNat (nat_lit 0)))]), (nat_lit 4, nat_lit 0, [(nat_lit 60, (.ofNat (nat_lit 0))), (nat_lit 0, (.ofNat (nat_lit 6)))])],
  [(nat_lit 11, nat_lit 0, [(nat_lit 0, (.ofNat (nat_lit 0)))]), (nat_lit 8, nat_lit 1, []), (nat_lit 8, nat_lit 5, [(nat_lit 8, (.ofNat (nat_lit 0)))]), (nat_lit 4, nat_lit 0, [(nat_lit 60, (.ofNat (nat_lit 0))), (nat_lit 0, (.ofNat (nat_lit 8)))]), (nat_lit 8, nat_lit 2, []), (nat_lit 8, nat_lit 0, [(nat_lit 0, (.ofNat (nat_lit 2))), (nat_lit 5, (.ofNat (nat_lit 0)))]), (nat_lit 4, nat_lit 0, [(nat_lit 60, (.ofNat (nat_lit 0))), (nat_lit 0, (.ofNat (nat_lit 7)))]), (nat_lit 6, nat_lit 3, [(nat_lit 4, (.ofNat (nat_lit 0))), (nat_lit 0, (.ofNat (nat_lit 10000)))]), (nat_lit 4, nat_lit 0, [(nat_lit 60, (.ofNat (nat_lit 0))), (nat_lit 0, (.ofNat (nat_lit 8)))]), (nat_lit 6, nat_lit 0, [(nat_lit 3, (.ofNat (nat_lit 0))), (nat_lit 0, (.ofNat (nat_lit 16)))]), (nat_lit 4, nat_lit 0, [(nat_lit 60, (.ofNat (nat_lit 0))), (nat_lit 0, (.ofNat (nat_lit 6)))]), (nat_lit 6, nat_lit 1, [(nat_lit 2, (.ofNat (nat_lit 0))), (nat_lit 0, (.ofNat (nat_lit 3)))]), (nat_lit 4, nat_lit 0, [(nat_lit 60, (.ofNat (nat_lit 0))), (nat_lit 0, (.ofNat (nat_lit 6)))]), (nat_lit 6, nat_lit 1, [(nat_lit 1, (.ofNat (nat_lit 0))), (nat_lit 0, (.ofNat (nat_lit 0)))]), (nat_lit 4, nat_lit 0, [(nat_lit 60, (.ofNat (nat_lit 0))), (nat_lit 0, (.ofNat (nat_lit 6)))])],
  [(nat_lit 13, nat_lit 6, []), (nat_lit 6, nat_lit 0, [(nat_lit 2, (.ofNat (nat_lit 0))), (nat_lit 0, (.ofNat (nat_lit 3)))]), (nat_lit 4, nat_lit 0, [(nat_lit 60, (.ofNat (nat_lit 0))), (nat_lit 0, (.ofNat (nat_lit 6)))]), (nat_lit 6, nat_lit 1, [(nat_lit 1, (.ofNat (nat_lit 0))), (nat_lit 0, (.ofNat (nat_lit 0)))]), (nat_lit 4, nat_lit 0, [(nat_lit 60, (.ofNat (nat_lit 0))), (nat_lit 0, (.ofNat (nat_lit 6)))])],
  [(nat_lit 13, nat_lit 0, [(nat_lit 0, (.ofNat (nat_lit 1))), (nat_lit 6, (.ofNat (nat_lit 0)))]), (nat_lit 4, nat_lit 0, [(nat_lit 60, (.ofNat (nat_lit 0))), (nat_lit 0, (.ofNat (nat_lit 7)))]), (nat_lit 6, nat_lit 1, [(nat_lit 5, (.ofNat (nat_lit 0))), (nat_lit 0, (.ofNat (nat_lit 17)))]), (nat_lit 4, nat_lit 0, [(nat_lit 60, (.ofNat (nat_lit 0))), (nat_lit 0, (.ofNat (nat_lit 6)))]), (nat_lit 6, nat_lit 1, [(nat_lit 4, (.ofNat (nat_lit 0))), (nat_lit 0, (.ofNat (nat_lit 16)))]), (nat_lit 4, nat_lit 0, [(nat_lit 60, (.ofNat (nat_lit 0))), (nat_lit 0, (.ofNat (nat_lit 6)))]), (nat_lit 6, nat_lit 4, [(nat_lit 3, (.ofNat (nat_lit 0))), (nat_lit 0, (.ofNat (nat_lit 3)))]), (nat_lit 8, nat_lit 6, []), (nat_lit 6, nat_lit 0, [(nat_lit 2, (.ofNat (nat_lit 0))), (nat_lit 0, (.ofNat (nat_lit 3)))]), (nat_lit 4, nat_lit 0, [(nat_lit 60, (.ofNat (nat_lit 0))), (nat_lit 0, (.ofNat (nat_lit 6)))]), (nat_lit 6, nat_lit 1, [(nat_lit 1, (.ofNat (nat_lit 0))), (nat_lit 0, (.ofNat (nat_lit 0)))]), (nat_lit 4, nat_lit 0, [(nat_lit 60, (.ofNat (nat_lit 0))), (nat_lit 0, (.ofNat (nat_lit 6)))])],
  [(nat_lit 13, nat_lit 1, []), (nat_lit 8, nat_lit 0, [(nat_lit 0, (.ofNat (nat_lit 1))), (nat_lit 6, (.ofNat (nat_lit 0)))]), (nat_lit 4, nat_lit 0, [(nat_lit 60, (.ofNat (nat_lit 0))), (nat_lit 0, (.ofNat (nat_lit 7)))]), (nat_lit 6, nat_lit 1, [(nat_lit 5, (.ofNat (nat_lit 0))), (nat_lit 0, (.ofNat (nat_lit 17)))]), (nat_lit 4, nat_lit 0, [(nat_lit 60, (.ofNat (nat_lit 0))), (nat_lit 0, (.ofNat (nat_lit 6)))]), (nat_lit 6, nat_lit 1, [(nat_lit 4, (.ofNat (nat_lit 0))), (nat_lit 0, (.ofNat (nat_lit 16)))]), (nat_lit 4, nat_lit 0, [(nat_lit 60, (.ofNat (nat_lit 0))), (nat_lit 0, (.ofNat (nat_lit 6)))]), (nat_lit 6, nat_lit 4, [(nat_lit 3, (.ofNat (nat_lit 0))), (nat_lit 0, (.ofNat (nat_lit 3)))]), (nat_lit 8, nat_lit 6, []), (nat_lit 6, nat_lit 0, [(nat_lit 2, (.ofNat (nat_lit 0))), (nat_lit 0, (.ofNat (nat_lit 3)))]), (nat_lit 4, nat_lit 0, [(nat_lit 60, (.ofNat (nat_lit 0))), (nat_lit 0, (.ofNat (nat_lit 6)))]), (nat_lit 6, nat_lit 1, [(nat_lit 1, (.ofNat (nat_lit 0))), (nat_lit 0, (.ofNat (nat_lit 0)))]), (nat_lit 4, nat_lit 0, [(nat_lit 60, (.ofNat (nat_lit 0))), (nat_lit 0, (.ofNat (nat_lit 6)))])],
  [(nat_lit 11, nat_lit 0, [(nat_lit 0, (.ofNat (nat_lit 0)))]), (nat_lit 8, nat_lit 1, []), (nat_lit 8, nat_lit 0, [(nat_lit 0, (.ofNat (nat_lit 1))), (nat_lit 6, (.ofNat (nat_lit 0)))]), (nat_lit 4, nat_lit 0, [(nat_lit 60, (.ofNat (nat_lit 0))), (nat_lit 0, (.ofNat (nat_lit 7)))]), (nat_lit 6, nat_lit 1, [(nat_lit 5, (.ofNat (nat_lit 0))), (nat_lit 0, (.ofNat (nat_lit 17)))]), (nat_lit 4, nat_lit 0, [(nat_lit 60, (.ofNat (nat_lit 0))), (nat_lit 0, (.ofNat (nat_lit 6)))]), (nat_lit 6, nat_lit 1, [(nat_lit 4, (.ofNat (nat_lit 0))), (nat_lit 0, (.ofNat (nat_lit 16)))]), (nat_lit 4, nat_lit 0, [(nat_lit 60, (.ofNat (nat_lit 0))), (nat_lit 0, (.ofNat (nat_lit 6)))]), (nat_lit 6, nat_lit 4, [(nat_lit 3, (.ofNat (nat_lit 0))), (nat_lit 0, (.ofNat (nat_lit 3)))]), (nat_lit 8, nat_lit 6, []), (nat_lit 6, nat_lit 0, [(nat_lit 2, (.ofNat (nat_lit 0))), (nat_lit 0, (.ofNat (nat_lit 3)))]), (nat_lit 4, nat_lit 0, [(nat_lit 60, (.ofNat (nat_lit 0))), (nat_lit 0, (.ofNat (nat_lit 6)))]), (nat_lit 6, nat_lit 1, [(nat_lit 1, (.ofNat (nat_lit 0))), (nat_lit 0, (.ofNat (nat_lit 0)))]), (nat_lit 4, nat_lit 0, [(nat_lit 60, (.ofNat (nat_lit 0))), (nat_lit 0, (.ofNat (nat_lit 6)))])],
  [(nat_lit 13, nat_lit 2, []), (nat_lit 6, nat_lit 5, [(nat_lit 3, (.ofNat (nat_lit 0))), (nat_lit 0, (.ofNat (nat_lit 3)))]), (nat_lit 8, nat_lit 6, []), (nat_lit 6, nat_lit 0, [(nat_lit 2, (.ofNat (nat_lit 0))), (nat_lit 0, (.ofNat (nat_lit 3)))]), (nat_lit 4, nat_lit 0, [(nat_lit 60, (.ofNat (nat_lit 0))), (nat_lit 0, (.ofNat (nat_lit 6)))]), (nat_lit 6, nat_lit 1, [(nat_lit 1, (.ofNat (nat_lit 0))), (nat_lit 0, (.ofNat (nat_lit 0)))]), (nat_lit 4, nat_lit 0, [(nat_lit 60, (.ofNat (nat_lit 0))), (nat_lit 0, (.ofNat (nat_lit 6)))])],
  [(nat_lit 13, nat_lit 4, [(nat_lit 0, (.ofNat (nat_lit 3)))]), (nat_lit 8, nat_lit 2, []), (nat_lit 6, nat_lit 5, [(nat_lit 3, (.ofNat (nat_lit 0))), (nat_lit 0, (.ofNat (nat_lit 3)))]), (nat_lit 8, nat_lit 6, []), (nat_lit 6, nat_lit 0, [(nat_lit 2, (.ofNat (nat_lit 0))), (nat_lit 0, (.ofNat (nat_lit 3)))]), (nat_lit 4, nat_lit 0, [(nat_lit 60, (.ofNat (nat_lit 0))), (nat_lit 0, (.ofNat (nat_lit 6)))]), (nat_lit 6, nat_lit 1, [(nat_lit 1, (.ofNat (nat_lit 0))), (nat_lit 0, (.ofNat (nat_lit 0)))]), (nat_lit 4, nat_lit 0, [(nat_lit 60, (.ofNat (nat_lit 0))), (nat_lit 0, (.ofNat (nat_lit 6)))])],
  [(nat_lit 13, nat_lit 1, []), (nat_lit 8, nat_lit 4, [(nat_lit 0, (.ofNat (nat_lit 3)))]), (nat_lit 8, nat_lit 2, []), (nat_lit 6, nat_lit 5, [(nat_lit 3, (.ofNat (nat_lit 0))), (nat_lit 0, (.ofNat (nat_lit 3)))]), (nat_lit 8, nat_lit 6, []), (nat_lit 6, nat_lit 0, [(nat_lit 2, (.ofNat (nat_lit 0))), (nat_lit 0, (.ofNat (nat_lit 3)))]), (nat_lit 4, nat_lit 0, [(nat_lit 60, (.ofNat (nat_lit 0))), (nat_lit 0, (.ofNat (nat_lit 6)))]), (nat_lit 6, nat_lit 1, [(nat_lit 1, (.ofNat (nat_lit 0))), (nat_lit 0, (.ofNat (nat_lit 0)))]), (nat_lit 4, nat_lit 0, [(nat_lit 60, (.ofNat (nat_lit 0))), (nat_lit 0, (.ofNat (nat_lit 6)))])],
  [(nat_lit 11, nat_lit 0, [(nat_lit 0, (.ofNat (nat_lit 1)))]), (nat_lit 8, nat_lit 1, []), (nat_lit 8, nat_lit 4, [(nat_lit 0, (.ofNat (nat_lit 3)))]), (nat_lit 8, nat_lit 2, []), (nat_lit 6, nat_lit 5, [(nat_lit 3, (.ofNat (nat_lit 0))), (nat_lit 0, (.ofNat (nat_lit 3)))]), (nat_lit 8, nat_lit 6, []), (nat_lit 6, nat_lit 0, [(nat_lit 2, (.ofNat (nat_lit 0))), (nat_lit 0, (.ofNat (nat_lit 3)))]), (nat_lit 4, nat_lit 0, [(nat_lit 60, (.ofNat (nat_lit 0))), (nat_lit 0, (.ofNat (nat_lit 6)))]), (nat_lit 6, nat_lit 1, [(nat_lit 1, (.ofNat (nat_lit 0))), (nat_lit 0, (.ofNat (nat_lit 0)))]), (nat_lit 4, nat_lit 0, [(nat_lit 60, (.ofNat (nat_lit 0))), (nat_lit 0, (.ofNat (nat_lit 6)))])],
  [(nat_lit 13, nat_lit 3, []), (nat_lit 5, nat_lit 0, [(nat_lit 60, (.ofNat (nat_lit 0))), (nat_lit 0, (.ofNat (nat_lit 13))), (nat_lit 4, (.ofNat (nat_lit 0)))]), (nat_lit 0, nat_lit 1, [(nat_lit 3, (.ofNat (nat_lit 0))), (nat_lit 0, (.ofNat (nat_lit 1)))]), (nat_lit 4, nat_lit 0, [(nat_lit 60, (.ofNat (nat_lit 0))), (nat_lit 0, (.ofNat (nat_lit 13)))]), (nat_lit 6, nat_lit 2, [(nat_lit 2, (.ofNat (nat_lit 0))), (nat_lit 0, (.ofNat (nat_lit 8)))]), (nat_lit 4, nat_lit 0, [(nat_lit 60, (.ofNat (nat_lit 0))), (nat_lit 0, (.ofNat (nat_lit 13)))]), (nat_lit 6, nat_lit 0, [(nat_lit 1, (.ofNat (nat_lit 0))), (nat_lit 0, (.ofNat (nat_lit 0)))]), (nat_lit 4, nat_lit 0, [(nat_lit 60, (.ofNat (nat_lit 0))), (nat_lit 0, (.ofNat (nat_lit 6)))])],
  [(nat_lit 13, nat_lit 1, []), (nat_lit 8, nat_lit 3, []), (nat_lit 5, nat_lit 0, [(nat_lit 60, (.ofNat (nat_lit 0))), (nat_lit 0, (.ofNat (nat_lit 13))), (nat_lit 4, (.ofNat (nat_lit 0)))]), (nat_lit 0, nat_lit 1, [(nat_lit 3, (.ofNat (nat_lit 0))), (nat_lit 0, (.ofNat (nat_lit 1)))]), (nat_lit 4, nat_lit 0, [(nat_lit 60, (.ofNat (nat_lit 0))), (nat_lit 0, (.ofNat (nat_lit 13)))]), (nat_lit 6, nat_lit 2, [(nat_lit 2, (.ofNat (nat_lit 0))), (nat_lit 0, (.ofNat (nat_lit 8)))]), (nat_lit 4, nat_lit 0, [(nat_lit 60, (.ofNat (nat_lit 0))), (nat_lit 0, (.ofNat (nat_lit 13)))]), (nat_lit 6, nat_lit 0, [(nat_lit 1, (.ofNat (nat_lit 0))), (nat_lit 0, (.ofNat (nat_lit 0)))]), (nat_lit 4, nat_lit 0, [(nat_lit 60, (.ofNat (nat_lit 0))), (nat_lit 0, (.ofNat (nat_lit 6)))])],
  [(nat_lit 11, nat_lit 0, [(nat_lit 0, (.ofNat (nat_lit 1)))]), (nat_lit 8, nat_lit 1, []), (nat_lit 8, nat_lit 3, []), (nat_lit 5, nat_lit 0, [(nat_lit 60, (.ofNat (nat_lit 0))), (nat_lit 0, (.ofNat (nat_lit 13))), (nat_lit 4, (.ofNat (nat_lit 0)))]), (nat_lit 0, nat_lit 1, [(nat_lit 3, (.ofNat (nat_lit 0))), (nat_lit 0, (.ofNat (nat_lit 1)))]), (nat_lit 4, nat_lit 0, [(nat_lit 60, (.ofNat (nat_lit 0))), (nat_lit 0, (.ofNat (nat_lit 13)))]), (nat_lit 6, nat_lit 2, [(nat_lit 2, (.ofNat (nat_lit 0))), (nat_lit 0, (.ofNat (nat_lit 8)))]), (nat_lit 4, nat_lit 0, [(nat_lit 60, (.ofNat (nat_lit 0))), (nat_lit 0, (.ofNat (nat_lit 13)))]), (nat_lit 6, nat_lit 0, [(nat_lit 1, (.ofNat (nat_lit 0))), (nat_lit 0, (.ofNat (nat_lit 0)))]), (nat_lit 4, nat_lit 0, [(nat_lit 60, (.ofNat (nat_lit 0))), (nat_lit 0, (.ofNat (nat_lit 6)))])],
  [(nat_lit 13, nat_lit 0, [(nat_lit 0, (.ofNat (nat_lit 2))), (nat_lit 3, (.ofNat (nat_lit 0)))]), (nat_lit 4, nat_lit 0, [(nat_lit 60, (.ofNat (nat_lit 0))), (nat_lit 0, (.ofNat (nat_lit 7)))]), (nat_lit 6, nat_lit 3, [(nat_lit 2, (.ofNat (nat_lit 0))), (nat_lit 0, (.ofNat (nat_lit 8)))]), (nat_lit 4, nat_lit 0, [(nat_lit 60, (.ofNat (nat_lit 0))), (nat_lit 0, (.ofNat (nat_lit 13)))]), (nat_lit 6, nat_lit 0, [(nat_lit 1, (.ofNat (nat_lit 0))), (nat_lit 0, (.ofNat (nat_lit 0)))]), (nat_lit 4, nat_lit 0, [(nat_lit 60, (.ofNat (nat_lit 0))), (nat_lit 0, (.ofNat (nat_lit 6)))])],
  [(nat_lit 13, nat_lit 3, []), (nat_lit 5, nat_lit 0, [(nat_lit 60, (.ofNat (nat_lit 0))), (nat_lit 0, (.ofNat (nat_lit 13))), (nat_lit 6, (.ofNat (nat_lit 0)))]), (nat_lit 0, nat_lit 1, [(nat_lit 5, (.ofNat (nat_lit 0))), (nat_lit 0, (.ofNat (nat_lit 1)))]), (nat_lit 4, nat_lit 0, [(nat_lit 60, (.ofNat (nat_lit 0))), (nat_lit 0, (.ofNat (nat_lit 13)))]), (nat_lit 8, nat_lit 0, [(nat_lit 0, (.ofNat (nat_lit 2))), (nat_lit 3, (.ofNat (nat_lit 0)))]), (nat_lit 4, nat_lit 0, [(nat_lit 60, (.ofNat (nat_lit 0))), (nat_lit 0, (.ofNat (nat_lit 7)))]), (nat_lit 6, nat_lit 3, [(nat_lit 2, (.ofNat (nat_lit 0))), (nat_lit 0, (.ofNat (nat_lit 8)))]), (nat_lit 4, nat_lit 0, [(nat_lit 60, (.ofNat (nat_lit 0))), (nat_lit 0, (.ofNat (nat_lit 13)))]), (nat_lit 6, nat_lit 0, [(nat_lit 1, (.ofNat (nat_lit 0))), (nat_lit 0, (.ofNat (nat_lit 0)))]), (nat_lit 4, nat_lit 0, [(nat_lit 60, (.ofNat (nat_lit 0))), (nat_lit 0, (.ofNat (nat_lit 6)))])],
  [(nat_lit 13, nat_lit 1, []), (nat_lit 8, nat_lit 3, []), (nat_lit 5, nat_lit 0, [(nat_lit 60, (.ofNat (nat_lit 0))), (nat_lit 0, (.ofNat (nat_lit 13))), (nat_lit 6, (.ofNat (nat_lit 0)))]), (nat_lit 0, nat_lit 1, [(nat_lit 5, (.ofNat (nat_lit 0))), (nat_lit 0, (.ofNat (nat_lit 1)))]), (nat_lit 4, nat_lit 0, [(nat_lit 60, (.ofNat (nat_lit 0))), (nat_lit 0, (.ofNat (nat_lit 13)))]), (nat_lit 8, nat_lit 0, [(nat_lit 0, (.ofNat (nat_lit 2))), (nat_lit 3, (.ofNat (nat_lit 0)))]), (nat_lit 4, nat_lit 0, [(nat_lit 60, (.ofNat (nat_lit 0))), (nat_lit 0, (.ofNat (nat_lit 7)))]), (nat_lit 6, nat_lit 3, [(nat_lit 2, (.ofNat (nat_lit 0))), (nat_lit 0, (.ofNat (nat_lit 8)))]), (nat_lit 4, nat_lit 0, [(nat_lit 60, (.ofNat (nat_lit 0))), (nat_lit 0, (.ofNat (nat_lit 13)))]), (nat_lit 6, nat_lit 0, [(nat_lit 1, (.ofNat (nat_lit 0))), (nat_lit 0, (.ofNat (nat_lit 0)))]), (nat_lit 4, nat_lit 0, [(nat_lit 60, (.ofNat (nat_lit 0))), (nat_lit 0, (.ofNat (nat_lit 6)))])],
  [(nat_lit 11, nat_lit 0, [(nat_lit 0, (.ofNat (nat_lit 1)))]), (nat_lit 8, nat_lit 1, []), (nat_lit 8, nat_lit 3, []), (nat_lit 5, nat_lit 0, [(nat_lit 60, (.ofNat (nat_lit 0))), (nat_lit 0, (.ofNat (nat_lit 13))), (nat_lit 6, (.ofNat (nat_lit 0)))]), (nat_lit 0, nat_lit 1, [(nat_lit 5, (.ofNat (nat_lit 0))), (nat_lit 0, (.ofNat (nat_lit 1)))]), (nat_lit 4, nat_lit 0, [(nat_lit 60, (.ofNat (nat_lit 0))), (nat_lit 0, (.ofNat (nat_lit 13)))]), (nat_lit 8, nat_lit 0, [(nat_lit 0, (.ofNat (nat_lit 2))), (nat_lit 3, (.ofNat (nat_lit 0)))]), (nat_lit 4, nat_lit 0, [(nat_lit 60, (.ofNat (nat_lit 0))), (nat_lit 0, (.ofNat (nat_lit 7)))]), (nat_lit 6, nat_lit 3, [(nat_lit 2, (.ofNat (nat_lit 0))), (nat_lit 0, (.ofNat (nat_lit 8)))]), (nat_lit 4, nat_lit 0, [(nat_lit 60, (.ofNat (nat_lit 0))), (nat_lit 0, (.ofNat (nat_lit 13)))]), (nat_lit 6, nat_lit 0, [(nat_lit 1, (.ofNat (nat_lit 0))), (nat_lit 0, (.ofNat (nat_lit 0)))]), (nat_lit 4, nat_lit 0, [(nat_lit 60, (.ofNat (nat_lit 0))), (nat_lit 0, (.ofNat (nat_lit 6)))])]]
def zFqe_readOperand : List (List zK) := []
set_option maxHeartbeats 8000000 in
theorem zqe_readOperand {ro : Nat → List Int32} (hro : ro 2 = [0, 1, 2, 3, 4, 4, 4, 4, 4, 4, 5, 5, 6, 6]) : zMet pr_P pr_K pr_df ro (sm_X0 1 6) 3 39 tm_qe [(.inr (.inr (.inl (nat_lit 60))))] 2 [(nat_lit 60, nat_lit 3, nat_lit 1), (nat_lit 60, nat_lit 9, nat_lit 61), (nat_lit 60, nat_lit 10, nat_lit 62), (nat_lit 60, nat_lit 11, nat_lit 63), (nat_lit 60, nat_lit 2, nat_lit 32), (nat_lit 32, nat_lit 8, nat_lit 33), (nat_lit 32, nat_lit 9, nat_lit 34), (nat_lit 32, nat_lit 10, nat_lit 35), (nat_lit 32, nat_lit 11, nat_lit 36), (nat_lit 32, nat_lit 12, nat_lit 41), (nat_lit 32, nat_lit 13, nat_lit 46), (nat_lit 32, nat_lit 14, nat_lit 47), (nat_lit 36, nat_lit 0, nat_lit 37), (nat_lit 41, nat_lit 0, nat_lit 42), (nat_lit 36, nat_lit 1, nat_lit 38), (nat_lit 41, nat_lit 1, nat_lit 43), (nat_lit 36, nat_lit 2, nat_lit 39), (nat_lit 41, nat_lit 2, nat_lit 44), (nat_lit 36, nat_lit 3, nat_lit 40), (nat_lit 41, nat_lit 3, nat_lit 45), (nat_lit 47, nat_lit 2, nat_lit 48), (nat_lit 47, nat_lit 3, nat_lit 49), (nat_lit 47, nat_lit 4, nat_lit 50), (nat_lit 47, nat_lit 5, nat_lit 51), (nat_lit 47, nat_lit 6, nat_lit 52)] [] (fun xs η => sP wl_qe zTr zPqe_readOperand xs η ∧ pPqe_readOperand xs η) (fun xs η y η' => sQ wl_qe zTr zOqe_readOperand zMqe_readOperand xs η y η' ∧ pQqe_readOperand xs η y η') :=
  zmet_alt (zmea_gen (mi := (nat_lit 0, nat_lit 1, nat_lit 3, nat_lit 1, nat_lit 2, tX3_readOperand)) (cd := [(nat_lit 31, nat_lit 0, nat_lit 0, [(.inr (.inr (.inl (nat_lit 60)))), (.inl (nat_lit 1, (.ofNat (nat_lit 0)))), (.inl (nat_lit 2, (.ofNat (nat_lit 0))))], nat_lit 0, [(nat_lit 60, nat_lit 3, nat_lit 1), (nat_lit 60, nat_lit 9, nat_lit 61), (nat_lit 60, nat_lit 10, nat_lit 62), (nat_lit 60, nat_lit 11, nat_lit 63), (nat_lit 60, nat_lit 2, nat_lit 32), (nat_lit 32, nat_lit 8, nat_lit 33), (nat_lit 32, nat_lit 9, nat_lit 34), (nat_lit 32, nat_lit 10, nat_lit 35), (nat_lit 32, nat_lit 11, nat_lit 36), (nat_lit 32, nat_lit 12, nat_lit 41), (nat_lit 32, nat_lit 13, nat_lit 46), (nat_lit 32, nat_lit 14, nat_lit 47), (nat_lit 36, nat_lit 0, nat_lit 37), (nat_lit 41, nat_lit 0, nat_lit 42), (nat_lit 36, nat_lit 1, nat_lit 38), (nat_lit 41, nat_lit 1, nat_lit 43), (nat_lit 36, nat_lit 2, nat_lit 39), (nat_lit 41, nat_lit 2, nat_lit 44), (nat_lit 36, nat_lit 3, nat_lit 40), (nat_lit 41, nat_lit 3, nat_lit 45), (nat_lit 47, nat_lit 2, nat_lit 48), (nat_lit 47, nat_lit 3, nat_lit 49), (nat_lit 47, nat_lit 4, nat_lit 50), (nat_lit 47, nat_lit 5, nat_lit 51), (nat_lit 47, nat_lit 6, nat_lit 52)], []), (nat_lit 45, nat_lit 1, nat_lit 2, [(.inr (.inr (.inl (nat_lit 60))))], nat_lit 0, [(nat_lit 60, nat_lit 3, nat_lit 1), (nat_lit 60, nat_lit 9, nat_lit 61), (nat_lit 60, nat_lit 10, nat_lit 62), (nat_lit 60, nat_lit 11, nat_lit 63), (nat_lit 60, nat_lit 2, nat_lit 32), (nat_lit 32, nat_lit 8, nat_lit 33), (nat_lit 32, nat_lit 9, nat_lit 34), (nat_lit 32, nat_lit 10, nat_lit 35), (nat_lit 32, nat_lit 11, nat_lit 36), (nat_lit 32, nat_lit 12, nat_lit 41), (nat_lit 32, nat_lit 13, nat_lit 46), (nat_lit 32, nat_lit 14, nat_lit 47), (nat_lit 36, nat_lit 0, nat_lit 37), (nat_lit 41, nat_lit 0, nat_lit 42), (nat_lit 36, nat_lit 1, nat_lit 38), (nat_lit 41, nat_lit 1, nat_lit 43), (nat_lit 36, nat_lit 2, nat_lit 39), (nat_lit 41, nat_lit 2, nat_lit 44), (nat_lit 36, nat_lit 3, nat_lit 40), (nat_lit 41, nat_lit 3, nat_lit 45), (nat_lit 47, nat_lit 2, nat_lit 48), (nat_lit 47, nat_lit 3, nat_lit 49), (nat_lit 47, nat_lit 4, nat_lit 50), (nat_lit 47, nat_lit 5, nat_lit 51), (nat_lit 47, nat_lit 6, nat_lit 52)], []), (nat_lit 44, nat_lit 2, nat_lit 1, [(.inr (.inr (.inl (nat_lit 60))))], nat_lit 0, [(nat_lit 60, nat_lit 3, nat_lit 1), (nat_lit 60, nat_lit 9, nat_lit 61), (nat_lit 60, nat_lit 10, nat_lit 62), (nat_lit 60, nat_lit 11, nat_lit 63), (nat_lit 60, nat_lit 2, nat_lit 32), (nat_lit 32, nat_lit 8, nat_lit 33), (nat_lit 32, nat_lit 9, nat_lit 34), (nat_lit 32, nat_lit 10, nat_lit 35), (nat_lit 32, nat_lit 11, nat_lit 36), (nat_lit 32, nat_lit 12, nat_lit 41), (nat_lit 32, nat_lit 13, nat_lit 46), (nat_lit 32, nat_lit 14, nat_lit 47), (nat_lit 36, nat_lit 0, nat_lit 37), (nat_lit 41, nat_lit 0, nat_lit 42), (nat_lit 36, nat_lit 1, nat_lit 38), (nat_lit 41, nat_lit 1, nat_lit 43), (nat_lit 36, nat_lit 2, nat_lit 39), (nat_lit 41, nat_lit 2, nat_lit 44), (nat_lit 36, nat_lit 3, nat_lit 40), (nat_lit 41, nat_lit 3, nat_lit 45), (nat_lit 47, nat_lit 2, nat_lit 48), (nat_lit 47, nat_lit 3, nat_lit 49), (nat_lit 47, nat_lit 4, nat_lit 50), (nat_lit 47, nat_lit 5, nat_lit 51), (nat_lit 47, nat_lit 6, nat_lit 52)], []), (nat_lit 43, nat_lit 3, nat_lit 0, [(.inr (.inr (.inl (nat_lit 60)))), (.inl (nat_lit 0, (.ofNat (nat_lit 0))))], nat_lit 0, [(nat_lit 60, nat_lit 3, nat_lit 1), (nat_lit 60, nat_lit 9, nat_lit 61), (nat_lit 60, nat_lit 10, nat_lit 62), (nat_lit 60, nat_lit 11, nat_lit 63), (nat_lit 60, nat_lit 2, nat_lit 32), (nat_lit 32, nat_lit 8, nat_lit 33), (nat_lit 32, nat_lit 9, nat_lit 34), (nat_lit 32, nat_lit 10, nat_lit 35), (nat_lit 32, nat_lit 11, nat_lit 36), (nat_lit 32, nat_lit 12, nat_lit 41), (nat_lit 32, nat_lit 13, nat_lit 46), (nat_lit 32, nat_lit 14, nat_lit 47), (nat_lit 36, nat_lit 0, nat_lit 37), (nat_lit 41, nat_lit 0, nat_lit 42), (nat_lit 36, nat_lit 1, nat_lit 38), (nat_lit 41, nat_lit 1, nat_lit 43), (nat_lit 36, nat_lit 2, nat_lit 39), (nat_lit 41, nat_lit 2, nat_lit 44), (nat_lit 36, nat_lit 3, nat_lit 40), (nat_lit 41, nat_lit 3, nat_lit 45), (nat_lit 47, nat_lit 2, nat_lit 48), (nat_lit 47, nat_lit 3, nat_lit 49), (nat_lit 47, nat_lit 4, nat_lit 50), (nat_lit 47, nat_lit 5, nat_lit 51), (nat_lit 47, nat_lit 6, nat_lit 52)], []), (nat_lit 43, nat_lit 4, nat_lit 0, [(.inr (.inr (.inl (nat_lit 60)))), (.inl (nat_lit 1, (.ofNat (nat_lit 0))))], nat_lit 0, [(nat_lit 60, nat_lit 3, nat_lit 1), (nat_lit 60, nat_lit 9, nat_lit 61), (nat_lit 60, nat_lit 10, nat_lit 62), (nat_lit 60, nat_lit 11, nat_lit 63), (nat_lit 60, nat_lit 2, nat_lit 32), (nat_lit 32, nat_lit 8, nat_lit 33), (nat_lit 32, nat_lit 9, nat_lit 34), (nat_lit 32, nat_lit 10, nat_lit 35), (nat_lit 32, nat_lit 11, nat_lit 36), (nat_lit 32, nat_lit 12, nat_lit 41), (nat_lit 32, nat_lit 13, nat_lit 46), (nat_lit 32, nat_lit 14, nat_lit 47), (nat_lit 36, nat_lit 0, nat_lit 37), (nat_lit 41, nat_lit 0, nat_lit 42), (nat_lit 36, nat_lit 1, nat_lit 38), (nat_lit 41, nat_lit 1, nat_lit 43), (nat_lit 36, nat_lit 2, nat_lit 39), (nat_lit 41, nat_lit 2, nat_lit 44), (nat_lit 36, nat_lit 3, nat_lit 40), (nat_lit 41, nat_lit 3, nat_lit 45), (nat_lit 47, nat_lit 2, nat_lit 48), (nat_lit 47, nat_lit 3, nat_lit 49), (nat_lit 47, nat_lit 4, nat_lit 50), (nat_lit 47, nat_lit 5, nat_lit 51), (nat_lit 47, nat_lit 6, nat_lit 52)], []), (nat_lit 3, nat_lit 5, nat_lit 0, [(.inr (.inr (.inl (nat_lit 47)))), (.inl (nat_lit 1, (.ofNat (nat_lit 0))))], nat_lit 0, [(nat_lit 47, nat_lit 2, nat_lit 48), (nat_lit 47, nat_lit 3, nat_lit 49), (nat_lit 47, nat_lit 4, nat_lit 50), (nat_lit 47, nat_lit 5, nat_lit 51), (nat_lit 47, nat_lit 6, nat_lit 52)], []), (nat_lit 41, nat_lit 6, nat_lit 0, [(.inr (.inr (.inl (nat_lit 60))))], nat_lit 1, [(nat_lit 60, nat_lit 3, nat_lit 1), (nat_lit 60, nat_lit 9, nat_lit 61), (nat_lit 60, nat_lit 10, nat_lit 62), (nat_lit 60, nat_lit 11, nat_lit 63), (nat_lit 60, nat_lit 2, nat_lit 32), (nat_lit 32, nat_lit 8, nat_lit 33), (nat_lit 32, nat_lit 9, nat_lit 34), (nat_lit 32, nat_lit 10, nat_lit 35), (nat_lit 32, nat_lit 11, nat_lit 36), (nat_lit 32, nat_lit 12, nat_lit 41), (nat_lit 32, nat_lit 13, nat_lit 46), (nat_lit 32, nat_lit 14, nat_lit 47), (nat_lit 36, nat_lit 0, nat_lit 37), (nat_lit 41, nat_lit 0, nat_lit 42), (nat_lit 36, nat_lit 1, nat_lit 38), (nat_lit 41, nat_lit 1, nat_lit 43), (nat_lit 36, nat_lit 2, nat_lit 39), (nat_lit 41, nat_lit 2, nat_lit 44), (nat_lit 36, nat_lit 3, nat_lit 40), (nat_lit 41, nat_lit 3, nat_lit 45), (nat_lit 47, nat_lit 2, nat_lit 48), (nat_lit 47, nat_lit 3, nat_lit 49), (nat_lit 47, nat_lit 4, nat_lit 50), (nat_lit 47, nat_lit 5, nat_lit 51), (nat_lit 47, nat_lit 6, nat_lit 52)], [])]) (cu := []) (cs := [(nat_lit 0, zPqe_flaw, zOqe_flaw, zMqe_flaw), (nat_lit 1, zPqe_next, zOqe_next, zMqe_next), (nat_lit 2, zPqe_tie, zOqe_tie, zMqe_tie), (nat_lit 3, zPqe_push0, zOqe_push0, zMqe_push0), (nat_lit 4, zPqe_push, zOqe_push, zMqe_push), (nat_lit 5, zPqe_add, zOqe_add, zMqe_add), (nat_lit 6, zPqe_waitingRank, zOqe_waitingRank, zMqe_waitingRank)]) (iv := zVqe_readOperand) (po := [zOqe_readOperand]) (pr := zPqe_readOperand) (mods := zMqe_readOperand) (D7 := zDqe_readOperand) (D0 := zEqe_readOperand) (Dm := zFqe_readOperand) (f0 := 37) pCqe_readOperand qCqe_readOperand iCqe_readOperand pPqe_readOperand (fun xs η _ y η' => pQqe_readOperand xs η y η') zX_low pr_mtR rfl (List.forall_mem_cons.mpr ⟨zqe_flaw, List.forall_mem_cons.mpr ⟨zqe_next, List.forall_mem_cons.mpr ⟨zqe_tie, List.forall_mem_cons.mpr ⟨zqe_push0, List.forall_mem_cons.mpr ⟨zqe_push, List.forall_mem_cons.mpr ⟨zqe_add, List.forall_mem_cons.mpr ⟨zqe_waitingRank hro, fun _ h => nomatch h⟩⟩⟩⟩⟩⟩⟩) (by decide +kernel) (by decide +kernel) (by decide +kernel)
    (by
      intro xs η hr hl hp hpp
      match xs, hl, hp, hpp with
      | [], _, hp, hpp =>
        refine List.forall_mem_cons.mpr ⟨?_, List.forall_mem_cons.mpr ⟨?_, List.forall_mem_cons.mpr ⟨?_, List.forall_mem_cons.mpr ⟨?_, List.forall_mem_cons.mpr ⟨?_, List.forall_mem_cons.mpr ⟨?_, List.forall_mem_cons.mpr ⟨?_, List.forall_mem_cons.mpr ⟨?_, List.forall_mem_cons.mpr ⟨?_, List.forall_mem_cons.mpr ⟨?_, List.forall_mem_cons.mpr ⟨?_, List.forall_mem_cons.mpr ⟨?_, List.forall_mem_cons.mpr ⟨?_, List.forall_mem_cons.mpr ⟨?_, List.forall_mem_cons.mpr ⟨?_, List.forall_mem_cons.mpr ⟨?_, List.forall_mem_cons.mpr ⟨?_, List.forall_mem_cons.mpr ⟨?_, List.forall_mem_cons.mpr ⟨?_, List.forall_mem_cons.mpr ⟨?_, List.forall_mem_cons.mpr ⟨?_, List.forall_mem_cons.mpr ⟨?_, List.forall_mem_cons.mpr ⟨?_, List.forall_mem_cons.mpr ⟨?_, List.forall_mem_cons.mpr ⟨?_, List.forall_mem_cons.mpr ⟨?_, List.forall_mem_cons.mpr ⟨?_, List.forall_mem_cons.mpr ⟨?_, List.forall_mem_cons.mpr ⟨?_, List.forall_mem_cons.mpr ⟨?_, List.forall_mem_cons.mpr ⟨?_, fun _ h => nomatch h⟩⟩⟩⟩⟩⟩⟩⟩⟩⟩⟩⟩⟩⟩⟩⟩⟩⟩⟩⟩⟩⟩⟩⟩⟩⟩⟩⟩⟩⟩⟩
        · show ∀ x1 : Int, x1 = η 60 (Int.toNat 6) → zok 0 x1 → (¬ x1 = 0) → ∀ x2 : Int, x2 = η 60 (Int.toNat 6) → zok 0 x2 → (¬ x2 = 3) → ∀ x3 : Int, x3 = η 60 (Int.toNat 6) → zok 0 x3 → (¬ x3 = 16) → ∀ x4 : Int, x4 = η 60 (Int.toNat 6) → zok 0 x4 → (¬ x4 = 17) → ∀ x5 : Int, x5 = η 60 (Int.toNat 7) → zok 0 x5 → ((gC2 wl_qe [(nat_lit 0, zPqe_flaw, zOqe_flaw, zMqe_flaw), (nat_lit 1, zPqe_next, zOqe_next, zMqe_next), (nat_lit 2, zPqe_tie, zOqe_tie, zMqe_tie), (nat_lit 3, zPqe_push0, zOqe_push0, zMqe_push0), (nat_lit 4, zPqe_push, zOqe_push, zMqe_push), (nat_lit 5, zPqe_add, zOqe_add, zMqe_add), (nat_lit 6, zPqe_waitingRank, zOqe_waitingRank, zMqe_waitingRank)] pCqe_readOperand qCqe_readOperand) 0).1 [1, x5] η
          have wk0 : yp_wk η := hpp.2
          have hpp := hpp.1
          intro x1 e1 r1 c1 x2 e2 r2 c2 x3 e3 r3 c3 x4 e4 r4 c4 x5 e5 r5
          refine yj_a ?_ ?_
          · exact hpp
          · exact wk0
        · show ∀ x1 : Int, x1 = η 60 (Int.toNat 6) → zok 0 x1 → (¬ x1 = 0) → ∀ x2 : Int, x2 = η 60 (Int.toNat 6) → zok 0 x2 → (¬ x2 = 3) → ∀ x3 : Int, x3 = η 60 (Int.toNat 6) → zok 0 x3 → (¬ x3 = 16) → ∀ x4 : Int, x4 = η 60 (Int.toNat 6) → zok 0 x4 → (¬ x4 = 17) → ∀ x5 : Int, x5 = η 60 (Int.toNat 7) → zok 0 x5 → ∀ (x6 : Int) (η1 : zE), ((gC2 wl_qe [(nat_lit 0, zPqe_flaw, zOqe_flaw, zMqe_flaw), (nat_lit 1, zPqe_next, zOqe_next, zMqe_next), (nat_lit 2, zPqe_tie, zOqe_tie, zMqe_tie), (nat_lit 3, zPqe_push0, zOqe_push0, zMqe_push0), (nat_lit 4, zPqe_push, zOqe_push, zMqe_push), (nat_lit 5, zPqe_add, zOqe_add, zMqe_add), (nat_lit 6, zPqe_waitingRank, zOqe_waitingRank, zMqe_waitingRank)] pCqe_readOperand qCqe_readOperand) 0).2 [1, x5] η x6 η1 → ((gC2 wl_qe [(nat_lit 0, zPqe_flaw, zOqe_flaw, zMqe_flaw), (nat_lit 1, zPqe_next, zOqe_next, zMqe_next), (nat_lit 2, zPqe_tie, zOqe_tie, zMqe_tie), (nat_lit 3, zPqe_push0, zOqe_push0, zMqe_push0), (nat_lit 4, zPqe_push, zOqe_push, zMqe_push), (nat_lit 5, zPqe_add, zOqe_add, zMqe_add), (nat_lit 6, zPqe_waitingRank, zOqe_waitingRank, zMqe_waitingRank)] pCqe_readOperand qCqe_readOperand) 1).1 [] η1
          have wk0 : yp_wk η := hpp.2
          have hpp := hpp.1
          intro x1 e1 r1 c1 x2 e2 r2 c2 x3 e3 r3 c3 x4 e4 r4 c4 x5 e5 r5 x6 η1 h6
          have y6 : fQqe_flaw [1, x5] η x6 η1 := h6.2.2
          have k6 : sQ wl_qe zTr zOqe_flaw zMqe_flaw [1, x5] η x6 η1 ∧ oQqe_flaw [1, x5] η x6 η1 := ⟨h6.1, h6.2.1⟩
          refine yj_a ?_ ?_
          · have y6 : fQqe_flaw [1, x5] η x6 η1 := h6.2.2
            have k6 : sQ wl_qe zTr zOqe_flaw zMqe_flaw [1, x5] η x6 η1 ∧ oQqe_flaw [1, x5] η x6 η1 := ⟨h6.1, h6.2.1⟩
            exact k6.2
          · have wk1 : yp_wk η1 := wk_of wk0 (fun j => k6.1.2.2.2.1 62 j (zinr_not (by decide +kernel)))
            exact wk1
        · show ∀ x1 : Int, x1 = η 60 (Int.toNat 6) → zok 0 x1 → (¬ x1 = 0) → ∀ x2 : Int, x2 = η 60 (Int.toNat 6) → zok 0 x2 → (¬ x2 = 3) → ∀ x3 : Int, x3 = η 60 (Int.toNat 6) → zok 0 x3 → (¬ x3 = 16) → ∀ x4 : Int, x4 = η 60 (Int.toNat 6) → zok 0 x4 → (¬ x4 = 17) → ∀ x5 : Int, x5 = η 60 (Int.toNat 7) → zok 0 x5 → ∀ (x6 : Int) (η1 : zE), ((gC2 wl_qe [(nat_lit 0, zPqe_flaw, zOqe_flaw, zMqe_flaw), (nat_lit 1, zPqe_next, zOqe_next, zMqe_next), (nat_lit 2, zPqe_tie, zOqe_tie, zMqe_tie), (nat_lit 3, zPqe_push0, zOqe_push0, zMqe_push0), (nat_lit 4, zPqe_push, zOqe_push, zMqe_push), (nat_lit 5, zPqe_add, zOqe_add, zMqe_add), (nat_lit 6, zPqe_waitingRank, zOqe_waitingRank, zMqe_waitingRank)] pCqe_readOperand qCqe_readOperand) 0).2 [1, x5] η x6 η1 → ∀ (x7 : Int) (η2 : zE), ((gC2 wl_qe [(nat_lit 0, zPqe_flaw, zOqe_flaw, zMqe_flaw), (nat_lit 1, zPqe_next, zOqe_next, zMqe_next), (nat_lit 2, zPqe_tie, zOqe_tie, zMqe_tie), (nat_lit 3, zPqe_push0, zOqe_push0, zMqe_push0), (nat_lit 4, zPqe_push, zOqe_push, zMqe_push), (nat_lit 5, zPqe_add, zOqe_add, zMqe_add), (nat_lit 6, zPqe_waitingRank, zOqe_waitingRank, zMqe_waitingRank)] pCqe_readOperand qCqe_readOperand) 1).2 [] η1 x7 η2 → (fun (_ : Nat) (y : Int) (η' : zE) => pQqe_readOperand [] η y η') 0 0 η2
          have wk0 : yp_wk η := hpp.2
          have hpp := hpp.1
          intro x1 e1 r1 c1 x2 e2 r2 c2 x3 e3 r3 c3 x4 e4 r4 c4 x5 e5 r5 x6 η1 h6 x7 η2 h7
          have y6 : fQqe_flaw [1, x5] η x6 η1 := h6.2.2
          have k6 : sQ wl_qe zTr zOqe_flaw zMqe_flaw [1, x5] η x6 η1 ∧ oQqe_flaw [1, x5] η x6 η1 := ⟨h6.1, h6.2.1⟩
          have y7 : fQqe_next [] η1 x7 η2 := h7.2.2
          have k7 : sQ wl_qe zTr zOqe_next zMqe_next [] η1 x7 η2 ∧ oQqe_next [] η1 x7 η2 := ⟨h7.1, h7.2.1⟩
          refine yj_a ?_ ?_
          · have y6 : fQqe_flaw [1, x5] η x6 η1 := h6.2.2
            have k6 : sQ wl_qe zTr zOqe_flaw zMqe_flaw [1, x5] η x6 η1 ∧ oQqe_flaw [1, x5] η x6 η1 := ⟨h6.1, h6.2.1⟩
            have y7 : fQqe_next [] η1 x7 η2 := h7.2.2
            have k7 : sQ wl_qe zTr zOqe_next zMqe_next [] η1 x7 η2 ∧ oQqe_next [] η1 x7 η2 := ⟨h7.1, h7.2.1⟩
            exact k7.2
          · have e1 : x1 = η 60 6 := e1
            clear r1
            have e2 : x2 = η 60 6 := e2
            clear r2
            have e3 : x3 = η 60 6 := e3
            clear r3
            have e4 : x4 = η 60 6 := e4
            clear r4
            have e5 : x5 = η 60 7 := e5
            clear r5
            have b6 : η1 = yp_flw 1 x5 η := y6
            clear k6 h6
            have b7 : η2 = (yp_adv η1) := y7
            clear k7 h7
            show 0 = (yp_opw η) ∧ η2 = (yp_opd η)
            subst e1
            subst e2
            subst e3
            subst e4
            subst e5
            subst b6
            subst b7
            refine ⟨?_, ?_⟩
            · unfold yp_opw
              (repeat' split) <;> first | (exfalso; omega) | rfl
            · unfold yp_opd yp_opn
              (repeat' split) <;> first | (exfalso; omega) | rfl
        · show ∀ x1 : Int, x1 = η 60 (Int.toNat 6) → zok 0 x1 → (¬ x1 = 0) → ∀ x2 : Int, x2 = η 60 (Int.toNat 6) → zok 0 x2 → (¬ x2 = 3) → ∀ x3 : Int, x3 = η 60 (Int.toNat 6) → zok 0 x3 → (¬ x3 = 16) → ∀ x4 : Int, x4 = η 60 (Int.toNat 6) → zok 0 x4 → (x4 = 17) → ((gC2 wl_qe [(nat_lit 0, zPqe_flaw, zOqe_flaw, zMqe_flaw), (nat_lit 1, zPqe_next, zOqe_next, zMqe_next), (nat_lit 2, zPqe_tie, zOqe_tie, zMqe_tie), (nat_lit 3, zPqe_push0, zOqe_push0, zMqe_push0), (nat_lit 4, zPqe_push, zOqe_push, zMqe_push), (nat_lit 5, zPqe_add, zOqe_add, zMqe_add), (nat_lit 6, zPqe_waitingRank, zOqe_waitingRank, zMqe_waitingRank)] pCqe_readOperand qCqe_readOperand) 2).1 [] η
          have wk0 : yp_wk η := hpp.2
          have hpp := hpp.1
          intro x1 e1 r1 c1 x2 e2 r2 c2 x3 e3 r3 c3 x4 e4 r4 c4
          refine yj_a ?_ ?_
          · exact hpp
          · exact wk0
        · show ∀ x1 : Int, x1 = η 60 (Int.toNat 6) → zok 0 x1 → (¬ x1 = 0) → ∀ x2 : Int, x2 = η 60 (Int.toNat 6) → zok 0 x2 → (¬ x2 = 3) → ∀ x3 : Int, x3 = η 60 (Int.toNat 6) → zok 0 x3 → (¬ x3 = 16) → ∀ x4 : Int, x4 = η 60 (Int.toNat 6) → zok 0 x4 → (x4 = 17) → ∀ (x5 : Int) (η1 : zE), ((gC2 wl_qe [(nat_lit 0, zPqe_flaw, zOqe_flaw, zMqe_flaw), (nat_lit 1, zPqe_next, zOqe_next, zMqe_next), (nat_lit 2, zPqe_tie, zOqe_tie, zMqe_tie), (nat_lit 3, zPqe_push0, zOqe_push0, zMqe_push0), (nat_lit 4, zPqe_push, zOqe_push, zMqe_push), (nat_lit 5, zPqe_add, zOqe_add, zMqe_add), (nat_lit 6, zPqe_waitingRank, zOqe_waitingRank, zMqe_waitingRank)] pCqe_readOperand qCqe_readOperand) 2).2 [] η x5 η1 → ∀ x6 : Int, x6 = η1 60 (Int.toNat 8) → zok 0 x6 → ∀ x7 : Int, x7 = zd 0 1 10000 x6 → ((gC2 wl_qe [(nat_lit 0, zPqe_flaw, zOqe_flaw, zMqe_flaw), (nat_lit 1, zPqe_next, zOqe_next, zMqe_next), (nat_lit 2, zPqe_tie, zOqe_tie, zMqe_tie), (nat_lit 3, zPqe_push0, zOqe_push0, zMqe_push0), (nat_lit 4, zPqe_push, zOqe_push, zMqe_push), (nat_lit 5, zPqe_add, zOqe_add, zMqe_add), (nat_lit 6, zPqe_waitingRank, zOqe_waitingRank, zMqe_waitingRank)] pCqe_readOperand qCqe_readOperand) 5).1 [x7] η1
          have wk0 : yp_wk η := hpp.2
          have hpp := hpp.1
          intro x1 e1 r1 c1 x2 e2 r2 c2 x3 e3 r3 c3 x4 e4 r4 c4 x5 η1 h5 x6 e6 r6 x7 e7
          have y5 : fQqe_tie [] η x5 η1 := h5.2.2
          have k5 : sQ wl_qe zTr zOqe_tie zMqe_tie [] η x5 η1 ∧ oQqe_tie [] η x5 η1 := ⟨h5.1, h5.2.1⟩
          refine yj_a ?_ ?_
          · have y5 : fQqe_tie [] η x5 η1 := h5.2.2
            have k5 : sQ wl_qe zTr zOqe_tie zMqe_tie [] η x5 η1 ∧ oQqe_tie [] η x5 η1 := ⟨h5.1, h5.2.1⟩
            have f1 : η1 60 8 = η 60 8 := k5.1.2.2.2.1 60 8 (by decide +kernel)
            have k17 : η 60 6 = 17 := e4.symm.trans c4
            have kv := hpp.1.2.1 k17
            have e6 : x6 = η1 60 8 := e6
            have h7 : x7 = 10000 + x6 := by rw [e7]; exact zd_a ⟨by omega, by omega⟩
            exact ⟨Gd_w k5.2.1 rfl (by decide), fun _ => ⟨show -13 ≤ x7 by omega, show x7 ≤ 10006 by omega⟩⟩
          · have wk1 : yp_wk η1 := wk_of wk0 (fun j => k5.1.2.2.2.1 62 j (zinr_not (by decide +kernel)))
            exact wk1
        · show ∀ x1 : Int, x1 = η 60 (Int.toNat 6) → zok 0 x1 → (¬ x1 = 0) → ∀ x2 : Int, x2 = η 60 (Int.toNat 6) → zok 0 x2 → (¬ x2 = 3) → ∀ x3 : Int, x3 = η 60 (Int.toNat 6) → zok 0 x3 → (¬ x3 = 16) → ∀ x4 : Int, x4 = η 60 (Int.toNat 6) → zok 0 x4 → (x4 = 17) → ∀ (x5 : Int) (η1 : zE), ((gC2 wl_qe [(nat_lit 0, zPqe_flaw, zOqe_flaw, zMqe_flaw), (nat_lit 1, zPqe_next, zOqe_next, zMqe_next), (nat_lit 2, zPqe_tie, zOqe_tie, zMqe_tie), (nat_lit 3, zPqe_push0, zOqe_push0, zMqe_push0), (nat_lit 4, zPqe_push, zOqe_push, zMqe_push), (nat_lit 5, zPqe_add, zOqe_add, zMqe_add), (nat_lit 6, zPqe_waitingRank, zOqe_waitingRank, zMqe_waitingRank)] pCqe_readOperand qCqe_readOperand) 2).2 [] η x5 η1 → ∀ x6 : Int, x6 = η1 60 (Int.toNat 8) → zok 0 x6 → ∀ x7 : Int, x7 = zd 0 1 10000 x6 → ∀ (x8 : Int) (η2 : zE), ((gC2 wl_qe [(nat_lit 0, zPqe_flaw, zOqe_flaw, zMqe_flaw), (nat_lit 1, zPqe_next, zOqe_next, zMqe_next), (nat_lit 2, zPqe_tie, zOqe_tie, zMqe_tie), (nat_lit 3, zPqe_push0, zOqe_push0, zMqe_push0), (nat_lit 4, zPqe_push, zOqe_push, zMqe_push), (nat_lit 5, zPqe_add, zOqe_add, zMqe_add), (nat_lit 6, zPqe_waitingRank, zOqe_waitingRank, zMqe_waitingRank)] pCqe_readOperand qCqe_readOperand) 5).2 [x7] η1 x8 η2 → ((gC2 wl_qe [(nat_lit 0, zPqe_flaw, zOqe_flaw, zMqe_flaw), (nat_lit 1, zPqe_next, zOqe_next, zMqe_next), (nat_lit 2, zPqe_tie, zOqe_tie, zMqe_tie), (nat_lit 3, zPqe_push0, zOqe_push0, zMqe_push0), (nat_lit 4, zPqe_push, zOqe_push, zMqe_push), (nat_lit 5, zPqe_add, zOqe_add, zMqe_add), (nat_lit 6, zPqe_waitingRank, zOqe_waitingRank, zMqe_waitingRank)] pCqe_readOperand qCqe_readOperand) 1).1 [] η2
          have wk0 : yp_wk η := hpp.2
          have hpp := hpp.1
          intro x1 e1 r1 c1 x2 e2 r2 c2 x3 e3 r3 c3 x4 e4 r4 c4 x5 η1 h5 x6 e6 r6 x7 e7 x8 η2 h8
          have y5 : fQqe_tie [] η x5 η1 := h5.2.2
          have k5 : sQ wl_qe zTr zOqe_tie zMqe_tie [] η x5 η1 ∧ oQqe_tie [] η x5 η1 := ⟨h5.1, h5.2.1⟩
          have y8 : fQqe_add [x7] η1 x8 η2 := h8.2.2
          have k8 : sQ wl_qe zTr zOqe_add zMqe_add [x7] η1 x8 η2 ∧ oQqe_add [x7] η1 x8 η2 := ⟨h8.1, h8.2.1⟩
          refine yj_a ?_ ?_
          · have y5 : fQqe_tie [] η x5 η1 := h5.2.2
            have k5 : sQ wl_qe zTr zOqe_tie zMqe_tie [] η x5 η1 ∧ oQqe_tie [] η x5 η1 := ⟨h5.1, h5.2.1⟩
            have y8 : fQqe_add [x7] η1 x8 η2 := h8.2.2
            have k8 : sQ wl_qe zTr zOqe_add zMqe_add [x7] η1 x8 η2 ∧ oQqe_add [x7] η1 x8 η2 := ⟨h8.1, h8.2.1⟩
            exact k8.2
          · have wk1 : yp_wk η1 := wk_of wk0 (fun j => k5.1.2.2.2.1 62 j (zinr_not (by decide +kernel)))
            have wk2 : yp_wk η2 := wk_of wk1 (fun j => k8.1.2.2.2.1 62 j (zinr_not (by decide +kernel)))
            exact wk2
        · show ∀ x1 : Int, x1 = η 60 (Int.toNat 6) → zok 0 x1 → (¬ x1 = 0) → ∀ x2 : Int, x2 = η 60 (Int.toNat 6) → zok 0 x2 → (¬ x2 = 3) → ∀ x3 : Int, x3 = η 60 (Int.toNat 6) → zok 0 x3 → (¬ x3 = 16) → ∀ x4 : Int, x4 = η 60 (Int.toNat 6) → zok 0 x4 → (x4 = 17) → ∀ (x5 : Int) (η1 : zE), ((gC2 wl_qe [(nat_lit 0, zPqe_flaw, zOqe_flaw, zMqe_flaw), (nat_lit 1, zPqe_next, zOqe_next, zMqe_next), (nat_lit 2, zPqe_tie, zOqe_tie, zMqe_tie), (nat_lit 3, zPqe_push0, zOqe_push0, zMqe_push0), (nat_lit 4, zPqe_push, zOqe_push, zMqe_push), (nat_lit 5, zPqe_add, zOqe_add, zMqe_add), (nat_lit 6, zPqe_waitingRank, zOqe_waitingRank, zMqe_waitingRank)] pCqe_readOperand qCqe_readOperand) 2).2 [] η x5 η1 → ∀ x6 : Int, x6 = η1 60 (Int.toNat 8) → zok 0 x6 → ∀ x7 : Int, x7 = zd 0 1 10000 x6 → ∀ (x8 : Int) (η2 : zE), ((gC2 wl_qe [(nat_lit 0, zPqe_flaw, zOqe_flaw, zMqe_flaw), (nat_lit 1, zPqe_next, zOqe_next, zMqe_next), (nat_lit 2, zPqe_tie, zOqe_tie, zMqe_tie), (nat_lit 3, zPqe_push0, zOqe_push0, zMqe_push0), (nat_lit 4, zPqe_push, zOqe_push, zMqe_push), (nat_lit 5, zPqe_add, zOqe_add, zMqe_add), (nat_lit 6, zPqe_waitingRank, zOqe_waitingRank, zMqe_waitingRank)] pCqe_readOperand qCqe_readOperand) 5).2 [x7] η1 x8 η2 → ∀ (x9 : Int) (η3 : zE), ((gC2 wl_qe [(nat_lit 0, zPqe_flaw, zOqe_flaw, zMqe_flaw), (nat_lit 1, zPqe_next, zOqe_next, zMqe_next), (nat_lit 2, zPqe_tie, zOqe_tie, zMqe_tie), (nat_lit 3, zPqe_push0, zOqe_push0, zMqe_push0), (nat_lit 4, zPqe_push, zOqe_push, zMqe_push), (nat_lit 5, zPqe_add, zOqe_add, zMqe_add), (nat_lit 6, zPqe_waitingRank, zOqe_waitingRank, zMqe_waitingRank)] pCqe_readOperand qCqe_readOperand) 1).2 [] η2 x9 η3 → (fun (_ : Nat) (y : Int) (η' : zE) => pQqe_readOperand [] η y η') 0 0 η3
          have wk0 : yp_wk η := hpp.2
          have hpp := hpp.1
          intro x1 e1 r1 c1 x2 e2 r2 c2 x3 e3 r3 c3 x4 e4 r4 c4 x5 η1 h5 x6 e6 r6 x7 e7 x8 η2 h8 x9 η3 h9
          have y5 : fQqe_tie [] η x5 η1 := h5.2.2
          have k5 : sQ wl_qe zTr zOqe_tie zMqe_tie [] η x5 η1 ∧ oQqe_tie [] η x5 η1 := ⟨h5.1, h5.2.1⟩
          have y8 : fQqe_add [x7] η1 x8 η2 := h8.2.2
          have k8 : sQ wl_qe zTr zOqe_add zMqe_add [x7] η1 x8 η2 ∧ oQqe_add [x7] η1 x8 η2 := ⟨h8.1, h8.2.1⟩
          have y9 : fQqe_next [] η2 x9 η3 := h9.2.2
          have k9 : sQ wl_qe zTr zOqe_next zMqe_next [] η2 x9 η3 ∧ oQqe_next [] η2 x9 η3 := ⟨h9.1, h9.2.1⟩
          refine yj_a ?_ ?_
          · have y5 : fQqe_tie [] η x5 η1 := h5.2.2
            have k5 : sQ wl_qe zTr zOqe_tie zMqe_tie [] η x5 η1 ∧ oQqe_tie [] η x5 η1 := ⟨h5.1, h5.2.1⟩
            have y8 : fQqe_add [x7] η1 x8 η2 := h8.2.2
            have k8 : sQ wl_qe zTr zOqe_add zMqe_add [x7] η1 x8 η2 ∧ oQqe_add [x7] η1 x8 η2 := ⟨h8.1, h8.2.1⟩
            have y9 : fQqe_next [] η2 x9 η3 := h9.2.2
            have k9 : sQ wl_qe zTr zOqe_next zMqe_next [] η2 x9 η3 ∧ oQqe_next [] η2 x9 η3 := ⟨h9.1, h9.2.1⟩
            exact k9.2
          · have e1 : x1 = η 60 6 := e1
            clear r1
            have e2 : x2 = η 60 6 := e2
            clear r2
            have e3 : x3 = η 60 6 := e3
            clear r3
            have e4 : x4 = η 60 6 := e4
            clear r4
            have b5 : η1 = (yp_tie η) := y5
            clear k5 h5
            have e6 : x6 = η1 60 8 := e6
            clear r6
            have b8 : η2 = (yp_add x7 η1) := y8
            clear k8 h8
            have b9 : η3 = (yp_adv η2) := y9
            clear k9 h9
            show 0 = (yp_opw η) ∧ η3 = (yp_opd η)
            subst e1
            subst e2
            subst e3
            subst e4
            subst b5
            subst e6
            subst e7
            subst b8
            subst b9
            refine ⟨?_, ?_⟩
            · unfold yp_opw
              (repeat' split) <;> first | (exfalso; omega) | rfl
            · unfold yp_opd yp_opn
              (repeat' split) <;> first | (exfalso; omega) | rfl
        · show ∀ x1 : Int, x1 = η 60 (Int.toNat 6) → zok 0 x1 → (¬ x1 = 0) → ∀ x2 : Int, x2 = η 60 (Int.toNat 6) → zok 0 x2 → (¬ x2 = 3) → ∀ x3 : Int, x3 = η 60 (Int.toNat 6) → zok 0 x3 → (x3 = 16) → ∀ x4 : Int, x4 = η 60 (Int.toNat 8) → zok 0 x4 → (x4 < 10000) → ((gC2 wl_qe [(nat_lit 0, zPqe_flaw, zOqe_flaw, zMqe_flaw), (nat_lit 1, zPqe_next, zOqe_next, zMqe_next), (nat_lit 2, zPqe_tie, zOqe_tie, zMqe_tie), (nat_lit 3, zPqe_push0, zOqe_push0, zMqe_push0), (nat_lit 4, zPqe_push, zOqe_push, zMqe_push), (nat_lit 5, zPqe_add, zOqe_add, zMqe_add), (nat_lit 6, zPqe_waitingRank, zOqe_waitingRank, zMqe_waitingRank)] pCqe_readOperand qCqe_readOperand) 2).1 [] η
          have wk0 : yp_wk η := hpp.2
          have hpp := hpp.1
          intro x1 e1 r1 c1 x2 e2 r2 c2 x3 e3 r3 c3 x4 e4 r4 c4
          refine yj_a ?_ ?_
          · exact hpp
          · exact wk0
        · show ∀ x1 : Int, x1 = η 60 (Int.toNat 6) → zok 0 x1 → (¬ x1 = 0) → ∀ x2 : Int, x2 = η 60 (Int.toNat 6) → zok 0 x2 → (¬ x2 = 3) → ∀ x3 : Int, x3 = η 60 (Int.toNat 6) → zok 0 x3 → (x3 = 16) → ∀ x4 : Int, x4 = η 60 (Int.toNat 8) → zok 0 x4 → (x4 < 10000) → ∀ (x5 : Int) (η1 : zE), ((gC2 wl_qe [(nat_lit 0, zPqe_flaw, zOqe_flaw, zMqe_flaw), (nat_lit 1, zPqe_next, zOqe_next, zMqe_next), (nat_lit 2, zPqe_tie, zOqe_tie, zMqe_tie), (nat_lit 3, zPqe_push0, zOqe_push0, zMqe_push0), (nat_lit 4, zPqe_push, zOqe_push, zMqe_push), (nat_lit 5, zPqe_add, zOqe_add, zMqe_add), (nat_lit 6, zPqe_waitingRank, zOqe_waitingRank, zMqe_waitingRank)] pCqe_readOperand qCqe_readOperand) 2).2 [] η x5 η1 → ∀ x6 : Int, x6 = η1 60 (Int.toNat 8) → zok 0 x6 → ((gC2 wl_qe [(nat_lit 0, zPqe_flaw, zOqe_flaw, zMqe_flaw), (nat_lit 1, zPqe_next, zOqe_next, zMqe_next), (nat_lit 2, zPqe_tie, zOqe_tie, zMqe_tie), (nat_lit 3, zPqe_push0, zOqe_push0, zMqe_push0), (nat_lit 4, zPqe_push, zOqe_push, zMqe_push), (nat_lit 5, zPqe_add, zOqe_add, zMqe_add), (nat_lit 6, zPqe_waitingRank, zOqe_waitingRank, zMqe_waitingRank)] pCqe_readOperand qCqe_readOperand) 5).1 [x6] η1
          have wk0 : yp_wk η := hpp.2
          have hpp := hpp.1
          intro x1 e1 r1 c1 x2 e2 r2 c2 x3 e3 r3 c3 x4 e4 r4 c4 x5 η1 h5 x6 e6 r6
          have y5 : fQqe_tie [] η x5 η1 := h5.2.2
          have k5 : sQ wl_qe zTr zOqe_tie zMqe_tie [] η x5 η1 ∧ oQqe_tie [] η x5 η1 := ⟨h5.1, h5.2.1⟩
          refine yj_a ?_ ?_
          · have y5 : fQqe_tie [] η x5 η1 := h5.2.2
            have k5 : sQ wl_qe zTr zOqe_tie zMqe_tie [] η x5 η1 ∧ oQqe_tie [] η x5 η1 := ⟨h5.1, h5.2.1⟩
            have f1 : η1 60 8 = η 60 8 := k5.1.2.2.2.1 60 8 (by decide +kernel)
            have kv := hpp.1.2.2 (e3.symm.trans c3)
            have e4 : x4 = η 60 8 := e4
            have e6 : x6 = η1 60 8 := e6
            exact ⟨Gd_w k5.2.1 rfl (by decide), fun _ => ⟨show -13 ≤ x6 by omega, show x6 ≤ 10006 by omega⟩⟩
          · have wk1 : yp_wk η1 := wk_of wk0 (fun j => k5.1.2.2.2.1 62 j (zinr_not (by decide +kernel)))
            exact wk1
        · show ∀ x1 : Int, x1 = η 60 (Int.toNat 6) → zok 0 x1 → (¬ x1 = 0) → ∀ x2 : Int, x2 = η 60 (Int.toNat 6) → zok 0 x2 → (¬ x2 = 3) → ∀ x3 : Int, x3 = η 60 (Int.toNat 6) → zok 0 x3 → (x3 = 16) → ∀ x4 : Int, x4 = η 60 (Int.toNat 8) → zok 0 x4 → (x4 < 10000) → ∀ (x5 : Int) (η1 : zE), ((gC2 wl_qe [(nat_lit 0, zPqe_flaw, zOqe_flaw, zMqe_flaw), (nat_lit 1, zPqe_next, zOqe_next, zMqe_next), (nat_lit 2, zPqe_tie, zOqe_tie, zMqe_tie), (nat_lit 3, zPqe_push0, zOqe_push0, zMqe_push0), (nat_lit 4, zPqe_push, zOqe_push, zMqe_push), (nat_lit 5, zPqe_add, zOqe_add, zMqe_add), (nat_lit 6, zPqe_waitingRank, zOqe_waitingRank, zMqe_waitingRank)] pCqe_readOperand qCqe_readOperand) 2).2 [] η x5 η1 → ∀ x6 : Int, x6 = η1 60 (Int.toNat 8) → zok 0 x6 → ∀ (x7 : Int) (η2 : zE), ((gC2 wl_qe [(nat_lit 0, zPqe_flaw, zOqe_flaw, zMqe_flaw), (nat_lit 1, zPqe_next, zOqe_next, zMqe_next), (nat_lit 2, zPqe_tie, zOqe_tie, zMqe_tie), (nat_lit 3, zPqe_push0, zOqe_push0, zMqe_push0), (nat_lit 4, zPqe_push, zOqe_push, zMqe_push), (nat_lit 5, zPqe_add, zOqe_add, zMqe_add), (nat_lit 6, zPqe_waitingRank, zOqe_waitingRank, zMqe_waitingRank)] pCqe_readOperand qCqe_readOperand) 5).2 [x6] η1 x7 η2 → ((gC2 wl_qe [(nat_lit 0, zPqe_flaw, zOqe_flaw, zMqe_flaw), (nat_lit 1, zPqe_next, zOqe_next, zMqe_next), (nat_lit 2, zPqe_tie, zOqe_tie, zMqe_tie), (nat_lit 3, zPqe_push0, zOqe_push0, zMqe_push0), (nat_lit 4, zPqe_push, zOqe_push, zMqe_push), (nat_lit 5, zPqe_add, zOqe_add, zMqe_add), (nat_lit 6, zPqe_waitingRank, zOqe_waitingRank, zMqe_waitingRank)] pCqe_readOperand qCqe_readOperand) 1).1 [] η2
          have wk0 : yp_wk η := hpp.2
          have hpp := hpp.1
          intro x1 e1 r1 c1 x2 e2 r2 c2 x3 e3 r3 c3 x4 e4 r4 c4 x5 η1 h5 x6 e6 r6 x7 η2 h7
          have y5 : fQqe_tie [] η x5 η1 := h5.2.2
          have k5 : sQ wl_qe zTr zOqe_tie zMqe_tie [] η x5 η1 ∧ oQqe_tie [] η x5 η1 := ⟨h5.1, h5.2.1⟩
          have y7 : fQqe_add [x6] η1 x7 η2 := h7.2.2
          have k7 : sQ wl_qe zTr zOqe_add zMqe_add [x6] η1 x7 η2 ∧ oQqe_add [x6] η1 x7 η2 := ⟨h7.1, h7.2.1⟩
          refine yj_a ?_ ?_
          · have y5 : fQqe_tie [] η x5 η1 := h5.2.2
            have k5 : sQ wl_qe zTr zOqe_tie zMqe_tie [] η x5 η1 ∧ oQqe_tie [] η x5 η1 := ⟨h5.1, h5.2.1⟩
            have y7 : fQqe_add [x6] η1 x7 η2 := h7.2.2
            have k7 : sQ wl_qe zTr zOqe_add zMqe_add [x6] η1 x7 η2 ∧ oQqe_add [x6] η1 x7 η2 := ⟨h7.1, h7.2.1⟩
            exact k7.2
          · have wk1 : yp_wk η1 := wk_of wk0 (fun j => k5.1.2.2.2.1 62 j (zinr_not (by decide +kernel)))
            have wk2 : yp_wk η2 := wk_of wk1 (fun j => k7.1.2.2.2.1 62 j (zinr_not (by decide +kernel)))
            exact wk2
        · show ∀ x1 : Int, x1 = η 60 (Int.toNat 6) → zok 0 x1 → (¬ x1 = 0) → ∀ x2 : Int, x2 = η 60 (Int.toNat 6) → zok 0 x2 → (¬ x2 = 3) → ∀ x3 : Int, x3 = η 60 (Int.toNat 6) → zok 0 x3 → (x3 = 16) → ∀ x4 : Int, x4 = η 60 (Int.toNat 8) → zok 0 x4 → (x4 < 10000) → ∀ (x5 : Int) (η1 : zE), ((gC2 wl_qe [(nat_lit 0, zPqe_flaw, zOqe_flaw, zMqe_flaw), (nat_lit 1, zPqe_next, zOqe_next, zMqe_next), (nat_lit 2, zPqe_tie, zOqe_tie, zMqe_tie), (nat_lit 3, zPqe_push0, zOqe_push0, zMqe_push0), (nat_lit 4, zPqe_push, zOqe_push, zMqe_push), (nat_lit 5, zPqe_add, zOqe_add, zMqe_add), (nat_lit 6, zPqe_waitingRank, zOqe_waitingRank, zMqe_waitingRank)] pCqe_readOperand qCqe_readOperand) 2).2 [] η x5 η1 → ∀ x6 : Int, x6 = η1 60 (Int.toNat 8) → zok 0 x6 → ∀ (x7 : Int) (η2 : zE), ((gC2 wl_qe [(nat_lit 0, zPqe_flaw, zOqe_flaw, zMqe_flaw), (nat_lit 1, zPqe_next, zOqe_next, zMqe_next), (nat_lit 2, zPqe_tie, zOqe_tie, zMqe_tie), (nat_lit 3, zPqe_push0, zOqe_push0, zMqe_push0), (nat_lit 4, zPqe_push, zOqe_push, zMqe_push), (nat_lit 5, zPqe_add, zOqe_add, zMqe_add), (nat_lit 6, zPqe_waitingRank, zOqe_waitingRank, zMqe_waitingRank)] pCqe_readOperand qCqe_readOperand) 5).2 [x6] η1 x7 η2 → ∀ (x8 : Int) (η3 : zE), ((gC2 wl_qe [(nat_lit 0, zPqe_flaw, zOqe_flaw, zMqe_flaw), (nat_lit 1, zPqe_next, zOqe_next, zMqe_next), (nat_lit 2, zPqe_tie, zOqe_tie, zMqe_tie), (nat_lit 3, zPqe_push0, zOqe_push0, zMqe_push0), (nat_lit 4, zPqe_push, zOqe_push, zMqe_push), (nat_lit 5, zPqe_add, zOqe_add, zMqe_add), (nat_lit 6, zPqe_waitingRank, zOqe_waitingRank, zMqe_waitingRank)] pCqe_readOperand qCqe_readOperand) 1).2 [] η2 x8 η3 → (fun (_ : Nat) (y : Int) (η' : zE) => pQqe_readOperand [] η y η') 0 0 η3
          have wk0 : yp_wk η := hpp.2
          have hpp := hpp.1
          intro x1 e1 r1 c1 x2 e2 r2 c2 x3 e3 r3 c3 x4 e4 r4 c4 x5 η1 h5 x6 e6 r6 x7 η2 h7 x8 η3 h8
          have y5 : fQqe_tie [] η x5 η1 := h5.2.2
          have k5 : sQ wl_qe zTr zOqe_tie zMqe_tie [] η x5 η1 ∧ oQqe_tie [] η x5 η1 := ⟨h5.1, h5.2.1⟩
          have y7 : fQqe_add [x6] η1 x7 η2 := h7.2.2
          have k7 : sQ wl_qe zTr zOqe_add zMqe_add [x6] η1 x7 η2 ∧ oQqe_add [x6] η1 x7 η2 := ⟨h7.1, h7.2.1⟩
          have y8 : fQqe_next [] η2 x8 η3 := h8.2.2
          have k8 : sQ wl_qe zTr zOqe_next zMqe_next [] η2 x8 η3 ∧ oQqe_next [] η2 x8 η3 := ⟨h8.1, h8.2.1⟩
          refine yj_a ?_ ?_
          · have y5 : fQqe_tie [] η x5 η1 := h5.2.2
            have k5 : sQ wl_qe zTr zOqe_tie zMqe_tie [] η x5 η1 ∧ oQqe_tie [] η x5 η1 := ⟨h5.1, h5.2.1⟩
            have y7 : fQqe_add [x6] η1 x7 η2 := h7.2.2
            have k7 : sQ wl_qe zTr zOqe_add zMqe_add [x6] η1 x7 η2 ∧ oQqe_add [x6] η1 x7 η2 := ⟨h7.1, h7.2.1⟩
            have y8 : fQqe_next [] η2 x8 η3 := h8.2.2
            have k8 : sQ wl_qe zTr zOqe_next zMqe_next [] η2 x8 η3 ∧ oQqe_next [] η2 x8 η3 := ⟨h8.1, h8.2.1⟩
            exact k8.2
          · have e1 : x1 = η 60 6 := e1
            clear r1
            have e2 : x2 = η 60 6 := e2
            clear r2
            have e3 : x3 = η 60 6 := e3
            clear r3
            have e4 : x4 = η 60 8 := e4
            clear r4
            have b5 : η1 = (yp_tie η) := y5
            clear k5 h5
            have e6 : x6 = η1 60 8 := e6
            clear r6
            have b7 : η2 = (yp_add x6 η1) := y7
            clear k7 h7
            have b8 : η3 = (yp_adv η2) := y8
            clear k8 h8
            show 0 = (yp_opw η) ∧ η3 = (yp_opd η)
            subst e1
            subst e2
            subst e3
            subst e4
            subst b5
            subst e6
            subst b7
            subst b8
            refine ⟨?_, ?_⟩
            · unfold yp_opw
              (repeat' split) <;> first | (exfalso; omega) | rfl
            · unfold yp_opd yp_opn
              (repeat' split) <;> first | (exfalso; omega) | rfl
        · show ∀ x1 : Int, x1 = η 60 (Int.toNat 6) → zok 0 x1 → (¬ x1 = 0) → ∀ x2 : Int, x2 = η 60 (Int.toNat 6) → zok 0 x2 → (¬ x2 = 3) → ∀ x3 : Int, x3 = η 60 (Int.toNat 6) → zok 0 x3 → (x3 = 16) → ∀ x4 : Int, x4 = η 60 (Int.toNat 8) → zok 0 x4 → (10000 ≤ x4) → ∀ x5 : Int, x5 = η 60 (Int.toNat 7) → zok 0 x5 → ((gC2 wl_qe [(nat_lit 0, zPqe_flaw, zOqe_flaw, zMqe_flaw), (nat_lit 1, zPqe_next, zOqe_next, zMqe_next), (nat_lit 2, zPqe_tie, zOqe_tie, zMqe_tie), (nat_lit 3, zPqe_push0, zOqe_push0, zMqe_push0), (nat_lit 4, zPqe_push, zOqe_push, zMqe_push), (nat_lit 5, zPqe_add, zOqe_add, zMqe_add), (nat_lit 6, zPqe_waitingRank, zOqe_waitingRank, zMqe_waitingRank)] pCqe_readOperand qCqe_readOperand) 0).1 [2, x5] η
          have wk0 : yp_wk η := hpp.2
          have hpp := hpp.1
          intro x1 e1 r1 c1 x2 e2 r2 c2 x3 e3 r3 c3 x4 e4 r4 c4 x5 e5 r5
          refine yj_a ?_ ?_
          · exact hpp
          · exact wk0
        · show ∀ x1 : Int, x1 = η 60 (Int.toNat 6) → zok 0 x1 → (¬ x1 = 0) → ∀ x2 : Int, x2 = η 60 (Int.toNat 6) → zok 0 x2 → (¬ x2 = 3) → ∀ x3 : Int, x3 = η 60 (Int.toNat 6) → zok 0 x3 → (x3 = 16) → ∀ x4 : Int, x4 = η 60 (Int.toNat 8) → zok 0 x4 → (10000 ≤ x4) → ∀ x5 : Int, x5 = η 60 (Int.toNat 7) → zok 0 x5 → ∀ (x6 : Int) (η1 : zE), ((gC2 wl_qe [(nat_lit 0, zPqe_flaw, zOqe_flaw, zMqe_flaw), (nat_lit 1, zPqe_next, zOqe_next, zMqe_next), (nat_lit 2, zPqe_tie, zOqe_tie, zMqe_tie), (nat_lit 3, zPqe_push0, zOqe_push0, zMqe_push0), (nat_lit 4, zPqe_push, zOqe_push, zMqe_push), (nat_lit 5, zPqe_add, zOqe_add, zMqe_add), (nat_lit 6, zPqe_waitingRank, zOqe_waitingRank, zMqe_waitingRank)] pCqe_readOperand qCqe_readOperand) 0).2 [2, x5] η x6 η1 → ((gC2 wl_qe [(nat_lit 0, zPqe_flaw, zOqe_flaw, zMqe_flaw), (nat_lit 1, zPqe_next, zOqe_next, zMqe_next), (nat_lit 2, zPqe_tie, zOqe_tie, zMqe_tie), (nat_lit 3, zPqe_push0, zOqe_push0, zMqe_push0), (nat_lit 4, zPqe_push, zOqe_push, zMqe_push), (nat_lit 5, zPqe_add, zOqe_add, zMqe_add), (nat_lit 6, zPqe_waitingRank, zOqe_waitingRank, zMqe_waitingRank)] pCqe_readOperand qCqe_readOperand) 2).1 [] η1
          have wk0 : yp_wk η := hpp.2
          have hpp := hpp.1
          intro x1 e1 r1 c1 x2 e2 r2 c2 x3 e3 r3 c3 x4 e4 r4 c4 x5 e5 r5 x6 η1 h6
          have y6 : fQqe_flaw [2, x5] η x6 η1 := h6.2.2
          have k6 : sQ wl_qe zTr zOqe_flaw zMqe_flaw [2, x5] η x6 η1 ∧ oQqe_flaw [2, x5] η x6 η1 := ⟨h6.1, h6.2.1⟩
          refine yj_a ?_ ?_
          · have y6 : fQqe_flaw [2, x5] η x6 η1 := h6.2.2
            have k6 : sQ wl_qe zTr zOqe_flaw zMqe_flaw [2, x5] η x6 η1 ∧ oQqe_flaw [2, x5] η x6 η1 := ⟨h6.1, h6.2.1⟩
            exact k6.2
          · have wk1 : yp_wk η1 := wk_of wk0 (fun j => k6.1.2.2.2.1 62 j (zinr_not (by decide +kernel)))
            exact wk1
        · show ∀ x1 : Int, x1 = η 60 (Int.toNat 6) → zok 0 x1 → (¬ x1 = 0) → ∀ x2 : Int, x2 = η 60 (Int.toNat 6) → zok 0 x2 → (¬ x2 = 3) → ∀ x3 : Int, x3 = η 60 (Int.toNat 6) → zok 0 x3 → (x3 = 16) → ∀ x4 : Int, x4 = η 60 (Int.toNat 8) → zok 0 x4 → (10000 ≤ x4) → ∀ x5 : Int, x5 = η 60 (Int.toNat 7) → zok 0 x5 → ∀ (x6 : Int) (η1 : zE), ((gC2 wl_qe [(nat_lit 0, zPqe_flaw, zOqe_flaw, zMqe_flaw), (nat_lit 1, zPqe_next, zOqe_next, zMqe_next), (nat_lit 2, zPqe_tie, zOqe_tie, zMqe_tie), (nat_lit 3, zPqe_push0, zOqe_push0, zMqe_push0), (nat_lit 4, zPqe_push, zOqe_push, zMqe_push), (nat_lit 5, zPqe_add, zOqe_add, zMqe_add), (nat_lit 6, zPqe_waitingRank, zOqe_waitingRank, zMqe_waitingRank)] pCqe_readOperand qCqe_readOperand) 0).2 [2, x5] η x6 η1 → ∀ (x7 : Int) (η2 : zE), ((gC2 wl_qe [(nat_lit 0, zPqe_flaw, zOqe_flaw, zMqe_flaw), (nat_lit 1, zPqe_next, zOqe_next, zMqe_next), (nat_lit 2, zPqe_tie, zOqe_tie, zMqe_tie), (nat_lit 3, zPqe_push0, zOqe_push0, zMqe_push0), (nat_lit 4, zPqe_push, zOqe_push, zMqe_push), (nat_lit 5, zPqe_add, zOqe_add, zMqe_add), (nat_lit 6, zPqe_waitingRank, zOqe_waitingRank, zMqe_waitingRank)] pCqe_readOperand qCqe_readOperand) 2).2 [] η1 x7 η2 → ∀ x8 : Int, x8 = η2 60 (Int.toNat 8) → zok 0 x8 → ((gC2 wl_qe [(nat_lit 0, zPqe_flaw, zOqe_flaw, zMqe_flaw), (nat_lit 1, zPqe_next, zOqe_next, zMqe_next), (nat_lit 2, zPqe_tie, zOqe_tie, zMqe_tie), (nat_lit 3, zPqe_push0, zOqe_push0, zMqe_push0), (nat_lit 4, zPqe_push, zOqe_push, zMqe_push), (nat_lit 5, zPqe_add, zOqe_add, zMqe_add), (nat_lit 6, zPqe_waitingRank, zOqe_waitingRank, zMqe_waitingRank)] pCqe_readOperand qCqe_readOperand) 5).1 [x8] η2
          have wk0 : yp_wk η := hpp.2
          have hpp := hpp.1
          intro x1 e1 r1 c1 x2 e2 r2 c2 x3 e3 r3 c3 x4 e4 r4 c4 x5 e5 r5 x6 η1 h6 x7 η2 h7 x8 e8 r8
          have y6 : fQqe_flaw [2, x5] η x6 η1 := h6.2.2
          have k6 : sQ wl_qe zTr zOqe_flaw zMqe_flaw [2, x5] η x6 η1 ∧ oQqe_flaw [2, x5] η x6 η1 := ⟨h6.1, h6.2.1⟩
          have y7 : fQqe_tie [] η1 x7 η2 := h7.2.2
          have k7 : sQ wl_qe zTr zOqe_tie zMqe_tie [] η1 x7 η2 ∧ oQqe_tie [] η1 x7 η2 := ⟨h7.1, h7.2.1⟩
          refine yj_a ?_ ?_
          · have y6 : fQqe_flaw [2, x5] η x6 η1 := h6.2.2
            have k6 : sQ wl_qe zTr zOqe_flaw zMqe_flaw [2, x5] η x6 η1 ∧ oQqe_flaw [2, x5] η x6 η1 := ⟨h6.1, h6.2.1⟩
            have y7 : fQqe_tie [] η1 x7 η2 := h7.2.2
            have k7 : sQ wl_qe zTr zOqe_tie zMqe_tie [] η1 x7 η2 ∧ oQqe_tie [] η1 x7 η2 := ⟨h7.1, h7.2.1⟩
            have hf : ¬ η1 60 0 = 0 := (fun e => by have q : (1 : Int) ≤ η1 60 0 ∧ η1 60 0 ≤ 3 := k6.1.2.2.1 _ (List.mem_of_getElem? (i := 0) rfl); omega)
            exact ⟨Gd_w k7.2.1 rfl (by decide), fun w => absurd w (k7.2.2 hf)⟩
          · have wk1 : yp_wk η1 := wk_of wk0 (fun j => k6.1.2.2.2.1 62 j (zinr_not (by decide +kernel)))
            have wk2 : yp_wk η2 := wk_of wk1 (fun j => k7.1.2.2.2.1 62 j (zinr_not (by decide +kernel)))
            exact wk2
        · show ∀ x1 : Int, x1 = η 60 (Int.toNat 6) → zok 0 x1 → (¬ x1 = 0) → ∀ x2 : Int, x2 = η 60 (Int.toNat 6) → zok 0 x2 → (¬ x2 = 3) → ∀ x3 : Int, x3 = η 60 (Int.toNat 6) → zok 0 x3 → (x3 = 16) → ∀ x4 : Int, x4 = η 60 (Int.toNat 8) → zok 0 x4 → (10000 ≤ x4) → ∀ x5 : Int, x5 = η 60 (Int.toNat 7) → zok 0 x5 → ∀ (x6 : Int) (η1 : zE), ((gC2 wl_qe [(nat_lit 0, zPqe_flaw, zOqe_flaw, zMqe_flaw), (nat_lit 1, zPqe_next, zOqe_next, zMqe_next), (nat_lit 2, zPqe_tie, zOqe_tie, zMqe_tie), (nat_lit 3, zPqe_push0, zOqe_push0, zMqe_push0), (nat_lit 4, zPqe_push, zOqe_push, zMqe_push), (nat_lit 5, zPqe_add, zOqe_add, zMqe_add), (nat_lit 6, zPqe_waitingRank, zOqe_waitingRank, zMqe_waitingRank)] pCqe_readOperand qCqe_readOperand) 0).2 [2, x5] η x6 η1 → ∀ (x7 : Int) (η2 : zE), ((gC2 wl_qe [(nat_lit 0, zPqe_flaw, zOqe_flaw, zMqe_flaw), (nat_lit 1, zPqe_next, zOqe_next, zMqe_next), (nat_lit 2, zPqe_tie, zOqe_tie, zMqe_tie), (nat_lit 3, zPqe_push0, zOqe_push0, zMqe_push0), (nat_lit 4, zPqe_push, zOqe_push, zMqe_push), (nat_lit 5, zPqe_add, zOqe_add, zMqe_add), (nat_lit 6, zPqe_waitingRank, zOqe_waitingRank, zMqe_waitingRank)] pCqe_readOperand qCqe_readOperand) 2).2 [] η1 x7 η2 → ∀ x8 : Int, x8 = η2 60 (Int.toNat 8) → zok 0 x8 → ∀ (x9 : Int) (η3 : zE), ((gC2 wl_qe [(nat_lit 0, zPqe_flaw, zOqe_flaw, zMqe_flaw), (nat_lit 1, zPqe_next, zOqe_next, zMqe_next), (nat_lit 2, zPqe_tie, zOqe_tie, zMqe_tie), (nat_lit 3, zPqe_push0, zOqe_push0, zMqe_push0), (nat_lit 4, zPqe_push, zOqe_push, zMqe_push), (nat_lit 5, zPqe_add, zOqe_add, zMqe_add), (nat_lit 6, zPqe_waitingRank, zOqe_waitingRank, zMqe_waitingRank)] pCqe_readOperand qCqe_readOperand) 5).2 [x8] η2 x9 η3 → ((gC2 wl_qe [(nat_lit 0, zPqe_flaw, zOqe_flaw, zMqe_flaw), (nat_lit 1, zPqe_next, zOqe_next, zMqe_next), (nat_lit 2, zPqe_tie, zOqe_tie, zMqe_tie), (nat_lit 3, zPqe_push0, zOqe_push0, zMqe_push0), (nat_lit 4, zPqe_push, zOqe_push, zMqe_push), (nat_lit 5, zPqe_add, zOqe_add, zMqe_add), (nat_lit 6, zPqe_waitingRank, zOqe_waitingRank, zMqe_waitingRank)] pCqe_readOperand qCqe_readOperand) 1).1 [] η3
          have wk0 : yp_wk η := hpp.2
          have hpp := hpp.1
          intro x1 e1 r1 c1 x2 e2 r2 c2 x3 e3 r3 c3 x4 e4 r4 c4 x5 e5 r5 x6 η1 h6 x7 η2 h7 x8 e8 r8 x9 η3 h9
          have y6 : fQqe_flaw [2, x5] η x6 η1 := h6.2.2
          have k6 : sQ wl_qe zTr zOqe_flaw zMqe_flaw [2, x5] η x6 η1 ∧ oQqe_flaw [2, x5] η x6 η1 := ⟨h6.1, h6.2.1⟩
          have y7 : fQqe_tie [] η1 x7 η2 := h7.2.2
          have k7 : sQ wl_qe zTr zOqe_tie zMqe_tie [] η1 x7 η2 ∧ oQqe_tie [] η1 x7 η2 := ⟨h7.1, h7.2.1⟩
          have y9 : fQqe_add [x8] η2 x9 η3 := h9.2.2
          have k9 : sQ wl_qe zTr zOqe_add zMqe_add [x8] η2 x9 η3 ∧ oQqe_add [x8] η2 x9 η3 := ⟨h9.1, h9.2.1⟩
          refine yj_a ?_ ?_
          · have y6 : fQqe_flaw [2, x5] η x6 η1 := h6.2.2
            have k6 : sQ wl_qe zTr zOqe_flaw zMqe_flaw [2, x5] η x6 η1 ∧ oQqe_flaw [2, x5] η x6 η1 := ⟨h6.1, h6.2.1⟩
            have y7 : fQqe_tie [] η1 x7 η2 := h7.2.2
            have k7 : sQ wl_qe zTr zOqe_tie zMqe_tie [] η1 x7 η2 ∧ oQqe_tie [] η1 x7 η2 := ⟨h7.1, h7.2.1⟩
            have y9 : fQqe_add [x8] η2 x9 η3 := h9.2.2
            have k9 : sQ wl_qe zTr zOqe_add zMqe_add [x8] η2 x9 η3 ∧ oQqe_add [x8] η2 x9 η3 := ⟨h9.1, h9.2.1⟩
            exact k9.2
          · have wk1 : yp_wk η1 := wk_of wk0 (fun j => k6.1.2.2.2.1 62 j (zinr_not (by decide +kernel)))
            have wk2 : yp_wk η2 := wk_of wk1 (fun j => k7.1.2.2.2.1 62 j (zinr_not (by decide +kernel)))
            have wk3 : yp_wk η3 := wk_of wk2 (fun j => k9.1.2.2.2.1 62 j (zinr_not (by decide +kernel)))
            exact wk3
        · show ∀ x1 : Int, x1 = η 60 (Int.toNat 6) → zok 0 x1 → (¬ x1 = 0) → ∀ x2 : Int, x2 = η 60 (Int.toNat 6) → zok 0 x2 → (¬ x2 = 3) → ∀ x3 : Int, x3 = η 60 (Int.toNat 6) → zok 0 x3 → (x3 = 16) → ∀ x4 : Int, x4 = η 60 (Int.toNat 8) → zok 0 x4 → (10000 ≤ x4) → ∀ x5 : Int, x5 = η 60 (Int.toNat 7) → zok 0 x5 → ∀ (x6 : Int) (η1 : zE), ((gC2 wl_qe [(nat_lit 0, zPqe_flaw, zOqe_flaw, zMqe_flaw), (nat_lit 1, zPqe_next, zOqe_next, zMqe_next), (nat_lit 2, zPqe_tie, zOqe_tie, zMqe_tie), (nat_lit 3, zPqe_push0, zOqe_push0, zMqe_push0), (nat_lit 4, zPqe_push, zOqe_push, zMqe_push), (nat_lit 5, zPqe_add, zOqe_add, zMqe_add), (nat_lit 6, zPqe_waitingRank, zOqe_waitingRank, zMqe_waitingRank)] pCqe_readOperand qCqe_readOperand) 0).2 [2, x5] η x6 η1 → ∀ (x7 : Int) (η2 : zE), ((gC2 wl_qe [(nat_lit 0, zPqe_flaw, zOqe_flaw, zMqe_flaw), (nat_lit 1, zPqe_next, zOqe_next, zMqe_next), (nat_lit 2, zPqe_tie, zOqe_tie, zMqe_tie), (nat_lit 3, zPqe_push0, zOqe_push0, zMqe_push0), (nat_lit 4, zPqe_push, zOqe_push, zMqe_push), (nat_lit 5, zPqe_add, zOqe_add, zMqe_add), (nat_lit 6, zPqe_waitingRank, zOqe_waitingRank, zMqe_waitingRank)] pCqe_readOperand qCqe_readOperand) 2).2 [] η1 x7 η2 → ∀ x8 : Int, x8 = η2 60 (Int.toNat 8) → zok 0 x8 → ∀ (x9 : Int) (η3 : zE), ((gC2 wl_qe [(nat_lit 0, zPqe_flaw, zOqe_flaw, zMqe_flaw), (nat_lit 1, zPqe_next, zOqe_next, zMqe_next), (nat_lit 2, zPqe_tie, zOqe_tie, zMqe_tie), (nat_lit 3, zPqe_push0, zOqe_push0, zMqe_push0), (nat_lit 4, zPqe_push, zOqe_push, zMqe_push), (nat_lit 5, zPqe_add, zOqe_add, zMqe_add), (nat_lit 6, zPqe_waitingRank, zOqe_waitingRank, zMqe_waitingRank)] pCqe_readOperand qCqe_readOperand) 5).2 [x8] η2 x9 η3 → ∀ (x10 : Int) (η4 : zE), ((gC2 wl_qe [(nat_lit 0, zPqe_flaw, zOqe_flaw, zMqe_flaw), (nat_lit 1, zPqe_next, zOqe_next, zMqe_next), (nat_lit 2, zPqe_tie, zOqe_tie, zMqe_tie), (nat_lit 3, zPqe_push0, zOqe_push0, zMqe_push0), (nat_lit 4, zPqe_push, zOqe_push, zMqe_push), (nat_lit 5, zPqe_add, zOqe_add, zMqe_add), (nat_lit 6, zPqe_waitingRank, zOqe_waitingRank, zMqe_waitingRank)] pCqe_readOperand qCqe_readOperand) 1).2 [] η3 x10 η4 → (fun (_ : Nat) (y : Int) (η' : zE) => pQqe_readOperand [] η y η') 0 0 η4
          have wk0 : yp_wk η := hpp.2
          have hpp := hpp.1
          intro x1 e1 r1 c1 x2 e2 r2 c2 x3 e3 r3 c3 x4 e4 r4 c4 x5 e5 r5 x6 η1 h6 x7 η2 h7 x8 e8 r8 x9 η3 h9 x10 η4 h10
          have y6 : fQqe_flaw [2, x5] η x6 η1 := h6.2.2
          have k6 : sQ wl_qe zTr zOqe_flaw zMqe_flaw [2, x5] η x6 η1 ∧ oQqe_flaw [2, x5] η x6 η1 := ⟨h6.1, h6.2.1⟩
          have y7 : fQqe_tie [] η1 x7 η2 := h7.2.2
          have k7 : sQ wl_qe zTr zOqe_tie zMqe_tie [] η1 x7 η2 ∧ oQqe_tie [] η1 x7 η2 := ⟨h7.1, h7.2.1⟩
          have y9 : fQqe_add [x8] η2 x9 η3 := h9.2.2
          have k9 : sQ wl_qe zTr zOqe_add zMqe_add [x8] η2 x9 η3 ∧ oQqe_add [x8] η2 x9 η3 := ⟨h9.1, h9.2.1⟩
          have y10 : fQqe_next [] η3 x10 η4 := h10.2.2
          have k10 : sQ wl_qe zTr zOqe_next zMqe_next [] η3 x10 η4 ∧ oQqe_next [] η3 x10 η4 := ⟨h10.1, h10.2.1⟩
          refine yj_a ?_ ?_
          · have y6 : fQqe_flaw [2, x5] η x6 η1 := h6.2.2
            have k6 : sQ wl_qe zTr zOqe_flaw zMqe_flaw [2, x5] η x6 η1 ∧ oQqe_flaw [2, x5] η x6 η1 := ⟨h6.1, h6.2.1⟩
            have y7 : fQqe_tie [] η1 x7 η2 := h7.2.2
            have k7 : sQ wl_qe zTr zOqe_tie zMqe_tie [] η1 x7 η2 ∧ oQqe_tie [] η1 x7 η2 := ⟨h7.1, h7.2.1⟩
            have y9 : fQqe_add [x8] η2 x9 η3 := h9.2.2
            have k9 : sQ wl_qe zTr zOqe_add zMqe_add [x8] η2 x9 η3 ∧ oQqe_add [x8] η2 x9 η3 := ⟨h9.1, h9.2.1⟩
            have y10 : fQqe_next [] η3 x10 η4 := h10.2.2
            have k10 : sQ wl_qe zTr zOqe_next zMqe_next [] η3 x10 η4 ∧ oQqe_next [] η3 x10 η4 := ⟨h10.1, h10.2.1⟩
            exact k10.2
          · have e1 : x1 = η 60 6 := e1
            clear r1
            have e2 : x2 = η 60 6 := e2
            clear r2
            have e3 : x3 = η 60 6 := e3
            clear r3
            have e4 : x4 = η 60 8 := e4
            clear r4
            have e5 : x5 = η 60 7 := e5
            clear r5
            have b6 : η1 = yp_flw 2 x5 η := y6
            clear k6 h6
            have b7 : η2 = (yp_tie η1) := y7
            clear k7 h7
            have e8 : x8 = η2 60 8 := e8
            clear r8
            have b9 : η3 = (yp_add x8 η2) := y9
            clear k9 h9
            have b10 : η4 = (yp_adv η3) := y10
            clear k10 h10
            show 0 = (yp_opw η) ∧ η4 = (yp_opd η)
            subst e1
            subst e2
            subst e3
            subst e4
            subst e5
            subst b6
            subst b7
            subst e8
            subst b9
            subst b10
            refine ⟨?_, ?_⟩
            · unfold yp_opw
              (repeat' split) <;> first | (exfalso; omega) | rfl
            · unfold yp_opd yp_opn
              (repeat' split) <;> first | (exfalso; omega) | rfl
        · show ∀ x1 : Int, x1 = η 60 (Int.toNat 6) → zok 0 x1 → (¬ x1 = 0) → ∀ x2 : Int, x2 = η 60 (Int.toNat 6) → zok 0 x2 → (x2 = 3) → ((gC2 wl_qe [(nat_lit 0, zPqe_flaw, zOqe_flaw, zMqe_flaw), (nat_lit 1, zPqe_next, zOqe_next, zMqe_next), (nat_lit 2, zPqe_tie, zOqe_tie, zMqe_tie), (nat_lit 3, zPqe_push0, zOqe_push0, zMqe_push0), (nat_lit 4, zPqe_push, zOqe_push, zMqe_push), (nat_lit 5, zPqe_add, zOqe_add, zMqe_add), (nat_lit 6, zPqe_waitingRank, zOqe_waitingRank, zMqe_waitingRank)] pCqe_readOperand qCqe_readOperand) 6).1 [] η
          have wk0 : yp_wk η := hpp.2
          have hpp := hpp.1
          intro x1 e1 r1 c1 x2 e2 r2 c2
          refine yj_a ?_ ?_
          · exact hpp
          · exact wk0
        · show ∀ x1 : Int, x1 = η 60 (Int.toNat 6) → zok 0 x1 → (¬ x1 = 0) → ∀ x2 : Int, x2 = η 60 (Int.toNat 6) → zok 0 x2 → (x2 = 3) → ∀ (x3 : Int) (η1 : zE), ((gC2 wl_qe [(nat_lit 0, zPqe_flaw, zOqe_flaw, zMqe_flaw), (nat_lit 1, zPqe_next, zOqe_next, zMqe_next), (nat_lit 2, zPqe_tie, zOqe_tie, zMqe_tie), (nat_lit 3, zPqe_push0, zOqe_push0, zMqe_push0), (nat_lit 4, zPqe_push, zOqe_push, zMqe_push), (nat_lit 5, zPqe_add, zOqe_add, zMqe_add), (nat_lit 6, zPqe_waitingRank, zOqe_waitingRank, zMqe_waitingRank)] pCqe_readOperand qCqe_readOperand) 6).2 [] η x3 η1 → (3 < x3) → ∀ x4 : Int, x4 = η1 60 (Int.toNat 6) → zok 0 x4 → (¬ x4 = 16) → ∀ x5 : Int, x5 = η1 60 (Int.toNat 6) → zok 0 x5 → (¬ x5 = 17) → ∀ x6 : Int, x6 = η1 60 (Int.toNat 7) → zok 0 x6 → ((gC2 wl_qe [(nat_lit 0, zPqe_flaw, zOqe_flaw, zMqe_flaw), (nat_lit 1, zPqe_next, zOqe_next, zMqe_next), (nat_lit 2, zPqe_tie, zOqe_tie, zMqe_tie), (nat_lit 3, zPqe_push0, zOqe_push0, zMqe_push0), (nat_lit 4, zPqe_push, zOqe_push, zMqe_push), (nat_lit 5, zPqe_add, zOqe_add, zMqe_add), (nat_lit 6, zPqe_waitingRank, zOqe_waitingRank, zMqe_waitingRank)] pCqe_readOperand qCqe_readOperand) 0).1 [1, x6] η1
          have wk0 : yp_wk η := hpp.2
          have hpp := hpp.1
          intro x1 e1 r1 c1 x2 e2 r2 c2 x3 η1 h3 c3 x4 e4 r4 c4 x5 e5 r5 c5 x6 e6 r6
          have y3 : fQqe_waitingRank [] η x3 η1 := h3.2.2
          have k3 : sQ wl_qe zTr zOqe_waitingRank zMqe_waitingRank [] η x3 η1 ∧ oQqe_waitingRank [] η x3 η1 := ⟨h3.1, h3.2.1⟩
          refine yj_a ?_ ?_
          · have y3 : fQqe_waitingRank [] η x3 η1 := h3.2.2
            have k3 : sQ wl_qe zTr zOqe_waitingRank zMqe_waitingRank [] η x3 η1 ∧ oQqe_waitingRank [] η x3 η1 := ⟨h3.1, h3.2.1⟩
            exact k3.2
          · have wk1 : yp_wk η1 := wk_of wk0 (fun j => k3.1.2.2.2.1 62 j (zinr_not (by decide +kernel)))
            exact wk1
        · show ∀ x1 : Int, x1 = η 60 (Int.toNat 6) → zok 0 x1 → (¬ x1 = 0) → ∀ x2 : Int, x2 = η 60 (Int.toNat 6) → zok 0 x2 → (x2 = 3) → ∀ (x3 : Int) (η1 : zE), ((gC2 wl_qe [(nat_lit 0, zPqe_flaw, zOqe_flaw, zMqe_flaw), (nat_lit 1, zPqe_next, zOqe_next, zMqe_next), (nat_lit 2, zPqe_tie, zOqe_tie, zMqe_tie), (nat_lit 3, zPqe_push0, zOqe_push0, zMqe_push0), (nat_lit 4, zPqe_push, zOqe_push, zMqe_push), (nat_lit 5, zPqe_add, zOqe_add, zMqe_add), (nat_lit 6, zPqe_waitingRank, zOqe_waitingRank, zMqe_waitingRank)] pCqe_readOperand qCqe_readOperand) 6).2 [] η x3 η1 → (3 < x3) → ∀ x4 : Int, x4 = η1 60 (Int.toNat 6) → zok 0 x4 → (¬ x4 = 16) → ∀ x5 : Int, x5 = η1 60 (Int.toNat 6) → zok 0 x5 → (¬ x5 = 17) → ∀ x6 : Int, x6 = η1 60 (Int.toNat 7) → zok 0 x6 → ∀ (x7 : Int) (η2 : zE), ((gC2 wl_qe [(nat_lit 0, zPqe_flaw, zOqe_flaw, zMqe_flaw), (nat_lit 1, zPqe_next, zOqe_next, zMqe_next), (nat_lit 2, zPqe_tie, zOqe_tie, zMqe_tie), (nat_lit 3, zPqe_push0, zOqe_push0, zMqe_push0), (nat_lit 4, zPqe_push, zOqe_push, zMqe_push), (nat_lit 5, zPqe_add, zOqe_add, zMqe_add), (nat_lit 6, zPqe_waitingRank, zOqe_waitingRank, zMqe_waitingRank)] pCqe_readOperand qCqe_readOperand) 0).2 [1, x6] η1 x7 η2 → ((gC2 wl_qe [(nat_lit 0, zPqe_flaw, zOqe_flaw, zMqe_flaw), (nat_lit 1, zPqe_next, zOqe_next, zMqe_next), (nat_lit 2, zPqe_tie, zOqe_tie, zMqe_tie), (nat_lit 3, zPqe_push0, zOqe_push0, zMqe_push0), (nat_lit 4, zPqe_push, zOqe_push, zMqe_push), (nat_lit 5, zPqe_add, zOqe_add, zMqe_add), (nat_lit 6, zPqe_waitingRank, zOqe_waitingRank, zMqe_waitingRank)] pCqe_readOperand qCqe_readOperand) 1).1 [] η2
          have wk0 : yp_wk η := hpp.2
          have hpp := hpp.1
          intro x1 e1 r1 c1 x2 e2 r2 c2 x3 η1 h3 c3 x4 e4 r4 c4 x5 e5 r5 c5 x6 e6 r6 x7 η2 h7
          have y3 : fQqe_waitingRank [] η x3 η1 := h3.2.2
          have k3 : sQ wl_qe zTr zOqe_waitingRank zMqe_waitingRank [] η x3 η1 ∧ oQqe_waitingRank [] η x3 η1 := ⟨h3.1, h3.2.1⟩
          have y7 : fQqe_flaw [1, x6] η1 x7 η2 := h7.2.2
          have k7 : sQ wl_qe zTr zOqe_flaw zMqe_flaw [1, x6] η1 x7 η2 ∧ oQqe_flaw [1, x6] η1 x7 η2 := ⟨h7.1, h7.2.1⟩
          refine yj_a ?_ ?_
          · have y3 : fQqe_waitingRank [] η x3 η1 := h3.2.2
            have k3 : sQ wl_qe zTr zOqe_waitingRank zMqe_waitingRank [] η x3 η1 ∧ oQqe_waitingRank [] η x3 η1 := ⟨h3.1, h3.2.1⟩
            have y7 : fQqe_flaw [1, x6] η1 x7 η2 := h7.2.2
            have k7 : sQ wl_qe zTr zOqe_flaw zMqe_flaw [1, x6] η1 x7 η2 ∧ oQqe_flaw [1, x6] η1 x7 η2 := ⟨h7.1, h7.2.1⟩
            exact k7.2
          · have wk1 : yp_wk η1 := wk_of wk0 (fun j => k3.1.2.2.2.1 62 j (zinr_not (by decide +kernel)))
            have wk2 : yp_wk η2 := wk_of wk1 (fun j => k7.1.2.2.2.1 62 j (zinr_not (by decide +kernel)))
            exact wk2
        · show ∀ x1 : Int, x1 = η 60 (Int.toNat 6) → zok 0 x1 → (¬ x1 = 0) → ∀ x2 : Int, x2 = η 60 (Int.toNat 6) → zok 0 x2 → (x2 = 3) → ∀ (x3 : Int) (η1 : zE), ((gC2 wl_qe [(nat_lit 0, zPqe_flaw, zOqe_flaw, zMqe_flaw), (nat_lit 1, zPqe_next, zOqe_next, zMqe_next), (nat_lit 2, zPqe_tie, zOqe_tie, zMqe_tie), (nat_lit 3, zPqe_push0, zOqe_push0, zMqe_push0), (nat_lit 4, zPqe_push, zOqe_push, zMqe_push), (nat_lit 5, zPqe_add, zOqe_add, zMqe_add), (nat_lit 6, zPqe_waitingRank, zOqe_waitingRank, zMqe_waitingRank)] pCqe_readOperand qCqe_readOperand) 6).2 [] η x3 η1 → (3 < x3) → ∀ x4 : Int, x4 = η1 60 (Int.toNat 6) → zok 0 x4 → (¬ x4 = 16) → ∀ x5 : Int, x5 = η1 60 (Int.toNat 6) → zok 0 x5 → (¬ x5 = 17) → ∀ x6 : Int, x6 = η1 60 (Int.toNat 7) → zok 0 x6 → ∀ (x7 : Int) (η2 : zE), ((gC2 wl_qe [(nat_lit 0, zPqe_flaw, zOqe_flaw, zMqe_flaw), (nat_lit 1, zPqe_next, zOqe_next, zMqe_next), (nat_lit 2, zPqe_tie, zOqe_tie, zMqe_tie), (nat_lit 3, zPqe_push0, zOqe_push0, zMqe_push0), (nat_lit 4, zPqe_push, zOqe_push, zMqe_push), (nat_lit 5, zPqe_add, zOqe_add, zMqe_add), (nat_lit 6, zPqe_waitingRank, zOqe_waitingRank, zMqe_waitingRank)] pCqe_readOperand qCqe_readOperand) 0).2 [1, x6] η1 x7 η2 → ∀ (x8 : Int) (η3 : zE), ((gC2 wl_qe [(nat_lit 0, zPqe_flaw, zOqe_flaw, zMqe_flaw), (nat_lit 1, zPqe_next, zOqe_next, zMqe_next), (nat_lit 2, zPqe_tie, zOqe_tie, zMqe_tie), (nat_lit 3, zPqe_push0, zOqe_push0, zMqe_push0), (nat_lit 4, zPqe_push, zOqe_push, zMqe_push), (nat_lit 5, zPqe_add, zOqe_add, zMqe_add), (nat_lit 6, zPqe_waitingRank, zOqe_waitingRank, zMqe_waitingRank)] pCqe_readOperand qCqe_readOperand) 1).2 [] η2 x8 η3 → (fun (_ : Nat) (y : Int) (η' : zE) => pQqe_readOperand [] η y η') 0 0 η3
          have wk0 : yp_wk η := hpp.2
          have hpp := hpp.1
          intro x1 e1 r1 c1 x2 e2 r2 c2 x3 η1 h3 c3 x4 e4 r4 c4 x5 e5 r5 c5 x6 e6 r6 x7 η2 h7 x8 η3 h8
          have y3 : fQqe_waitingRank [] η x3 η1 := h3.2.2
          have k3 : sQ wl_qe zTr zOqe_waitingRank zMqe_waitingRank [] η x3 η1 ∧ oQqe_waitingRank [] η x3 η1 := ⟨h3.1, h3.2.1⟩
          have y7 : fQqe_flaw [1, x6] η1 x7 η2 := h7.2.2
          have k7 : sQ wl_qe zTr zOqe_flaw zMqe_flaw [1, x6] η1 x7 η2 ∧ oQqe_flaw [1, x6] η1 x7 η2 := ⟨h7.1, h7.2.1⟩
          have y8 : fQqe_next [] η2 x8 η3 := h8.2.2
          have k8 : sQ wl_qe zTr zOqe_next zMqe_next [] η2 x8 η3 ∧ oQqe_next [] η2 x8 η3 := ⟨h8.1, h8.2.1⟩
          refine yj_a ?_ ?_
          · have y3 : fQqe_waitingRank [] η x3 η1 := h3.2.2
            have k3 : sQ wl_qe zTr zOqe_waitingRank zMqe_waitingRank [] η x3 η1 ∧ oQqe_waitingRank [] η x3 η1 := ⟨h3.1, h3.2.1⟩
            have y7 : fQqe_flaw [1, x6] η1 x7 η2 := h7.2.2
            have k7 : sQ wl_qe zTr zOqe_flaw zMqe_flaw [1, x6] η1 x7 η2 ∧ oQqe_flaw [1, x6] η1 x7 η2 := ⟨h7.1, h7.2.1⟩
            have y8 : fQqe_next [] η2 x8 η3 := h8.2.2
            have k8 : sQ wl_qe zTr zOqe_next zMqe_next [] η2 x8 η3 ∧ oQqe_next [] η2 x8 η3 := ⟨h8.1, h8.2.1⟩
            exact k8.2
          · have e1 : x1 = η 60 6 := e1
            clear r1
            have e2 : x2 = η 60 6 := e2
            clear r2
            obtain ⟨a3, b3⟩ : x3 = (yp_top η) ∧ η1 = η := y3
            clear k3 h3
            have e4 : x4 = η1 60 6 := e4
            clear r4
            have e5 : x5 = η1 60 6 := e5
            clear r5
            have e6 : x6 = η1 60 7 := e6
            clear r6
            have b7 : η2 = yp_flw 1 x6 η1 := y7
            clear k7 h7
            have b8 : η3 = (yp_adv η2) := y8
            clear k8 h8
            show 0 = (yp_opw η) ∧ η3 = (yp_opd η)
            subst e1
            subst e2
            subst a3; subst b3
            subst e4
            subst e5
            subst e6
            subst b7
            subst b8
            refine ⟨?_, ?_⟩
            · unfold yp_opw
              (repeat' split) <;> first | (exfalso; omega) | rfl
            · unfold yp_opd yp_opn
              (repeat' split) <;> first | (exfalso; omega) | rfl
        · show ∀ x1 : Int, x1 = η 60 (Int.toNat 6) → zok 0 x1 → (¬ x1 = 0) → ∀ x2 : Int, x2 = η 60 (Int.toNat 6) → zok 0 x2 → (x2 = 3) → ∀ (x3 : Int) (η1 : zE), ((gC2 wl_qe [(nat_lit 0, zPqe_flaw, zOqe_flaw, zMqe_flaw), (nat_lit 1, zPqe_next, zOqe_next, zMqe_next), (nat_lit 2, zPqe_tie, zOqe_tie, zMqe_tie), (nat_lit 3, zPqe_push0, zOqe_push0, zMqe_push0), (nat_lit 4, zPqe_push, zOqe_push, zMqe_push), (nat_lit 5, zPqe_add, zOqe_add, zMqe_add), (nat_lit 6, zPqe_waitingRank, zOqe_waitingRank, zMqe_waitingRank)] pCqe_readOperand qCqe_readOperand) 6).2 [] η x3 η1 → (x3 ≤ 3) → ((gC2 wl_qe [(nat_lit 0, zPqe_flaw, zOqe_flaw, zMqe_flaw), (nat_lit 1, zPqe_next, zOqe_next, zMqe_next), (nat_lit 2, zPqe_tie, zOqe_tie, zMqe_tie), (nat_lit 3, zPqe_push0, zOqe_push0, zMqe_push0), (nat_lit 4, zPqe_push, zOqe_push, zMqe_push), (nat_lit 5, zPqe_add, zOqe_add, zMqe_add), (nat_lit 6, zPqe_waitingRank, zOqe_waitingRank, zMqe_waitingRank)] pCqe_readOperand qCqe_readOperand) 2).1 [] η1
          have wk0 : yp_wk η := hpp.2
          have hpp := hpp.1
          intro x1 e1 r1 c1 x2 e2 r2 c2 x3 η1 h3 c3
          have y3 : fQqe_waitingRank [] η x3 η1 := h3.2.2
          have k3 : sQ wl_qe zTr zOqe_waitingRank zMqe_waitingRank [] η x3 η1 ∧ oQqe_waitingRank [] η x3 η1 := ⟨h3.1, h3.2.1⟩
          refine yj_a ?_ ?_
          · have y3 : fQqe_waitingRank [] η x3 η1 := h3.2.2
            have k3 : sQ wl_qe zTr zOqe_waitingRank zMqe_waitingRank [] η x3 η1 ∧ oQqe_waitingRank [] η x3 η1 := ⟨h3.1, h3.2.1⟩
            exact k3.2
          · have wk1 : yp_wk η1 := wk_of wk0 (fun j => k3.1.2.2.2.1 62 j (zinr_not (by decide +kernel)))
            exact wk1
        · show ∀ x1 : Int, x1 = η 60 (Int.toNat 6) → zok 0 x1 → (¬ x1 = 0) → ∀ x2 : Int, x2 = η 60 (Int.toNat 6) → zok 0 x2 → (x2 = 3) → ∀ (x3 : Int) (η1 : zE), ((gC2 wl_qe [(nat_lit 0, zPqe_flaw, zOqe_flaw, zMqe_flaw), (nat_lit 1, zPqe_next, zOqe_next, zMqe_next), (nat_lit 2, zPqe_tie, zOqe_tie, zMqe_tie), (nat_lit 3, zPqe_push0, zOqe_push0, zMqe_push0), (nat_lit 4, zPqe_push, zOqe_push, zMqe_push), (nat_lit 5, zPqe_add, zOqe_add, zMqe_add), (nat_lit 6, zPqe_waitingRank, zOqe_waitingRank, zMqe_waitingRank)] pCqe_readOperand qCqe_readOperand) 6).2 [] η x3 η1 → (x3 ≤ 3) → ∀ (x4 : Int) (η2 : zE), ((gC2 wl_qe [(nat_lit 0, zPqe_flaw, zOqe_flaw, zMqe_flaw), (nat_lit 1, zPqe_next, zOqe_next, zMqe_next), (nat_lit 2, zPqe_tie, zOqe_tie, zMqe_tie), (nat_lit 3, zPqe_push0, zOqe_push0, zMqe_push0), (nat_lit 4, zPqe_push, zOqe_push, zMqe_push), (nat_lit 5, zPqe_add, zOqe_add, zMqe_add), (nat_lit 6, zPqe_waitingRank, zOqe_waitingRank, zMqe_waitingRank)] pCqe_readOperand qCqe_readOperand) 2).2 [] η1 x4 η2 → ((gC2 wl_qe [(nat_lit 0, zPqe_flaw, zOqe_flaw, zMqe_flaw), (nat_lit 1, zPqe_next, zOqe_next, zMqe_next), (nat_lit 2, zPqe_tie, zOqe_tie, zMqe_tie), (nat_lit 3, zPqe_push0, zOqe_push0, zMqe_push0), (nat_lit 4, zPqe_push, zOqe_push, zMqe_push), (nat_lit 5, zPqe_add, zOqe_add, zMqe_add), (nat_lit 6, zPqe_waitingRank, zOqe_waitingRank, zMqe_waitingRank)] pCqe_readOperand qCqe_readOperand) 4).1 [3] η2
          have wk0 : yp_wk η := hpp.2
          have hpp := hpp.1
          intro x1 e1 r1 c1 x2 e2 r2 c2 x3 η1 h3 c3 x4 η2 h4
          have y3 : fQqe_waitingRank [] η x3 η1 := h3.2.2
          have k3 : sQ wl_qe zTr zOqe_waitingRank zMqe_waitingRank [] η x3 η1 ∧ oQqe_waitingRank [] η x3 η1 := ⟨h3.1, h3.2.1⟩
          have y4 : fQqe_tie [] η1 x4 η2 := h4.2.2
          have k4 : sQ wl_qe zTr zOqe_tie zMqe_tie [] η1 x4 η2 ∧ oQqe_tie [] η1 x4 η2 := ⟨h4.1, h4.2.1⟩
          refine yj_a ?_ ?_
          · have y3 : fQqe_waitingRank [] η x3 η1 := h3.2.2
            have k3 : sQ wl_qe zTr zOqe_waitingRank zMqe_waitingRank [] η x3 η1 ∧ oQqe_waitingRank [] η x3 η1 := ⟨h3.1, h3.2.1⟩
            have y4 : fQqe_tie [] η1 x4 η2 := h4.2.2
            have k4 : sQ wl_qe zTr zOqe_tie zMqe_tie [] η1 x4 η2 ∧ oQqe_tie [] η1 x4 η2 := ⟨h4.1, h4.2.1⟩
            exact k4.2.1
          · have wk1 : yp_wk η1 := wk_of wk0 (fun j => k3.1.2.2.2.1 62 j (zinr_not (by decide +kernel)))
            have wk2 : yp_wk η2 := wk_of wk1 (fun j => k4.1.2.2.2.1 62 j (zinr_not (by decide +kernel)))
            exact wk2
        · show ∀ x1 : Int, x1 = η 60 (Int.toNat 6) → zok 0 x1 → (¬ x1 = 0) → ∀ x2 : Int, x2 = η 60 (Int.toNat 6) → zok 0 x2 → (x2 = 3) → ∀ (x3 : Int) (η1 : zE), ((gC2 wl_qe [(nat_lit 0, zPqe_flaw, zOqe_flaw, zMqe_flaw), (nat_lit 1, zPqe_next, zOqe_next, zMqe_next), (nat_lit 2, zPqe_tie, zOqe_tie, zMqe_tie), (nat_lit 3, zPqe_push0, zOqe_push0, zMqe_push0), (nat_lit 4, zPqe_push, zOqe_push, zMqe_push), (nat_lit 5, zPqe_add, zOqe_add, zMqe_add), (nat_lit 6, zPqe_waitingRank, zOqe_waitingRank, zMqe_waitingRank)] pCqe_readOperand qCqe_readOperand) 6).2 [] η x3 η1 → (x3 ≤ 3) → ∀ (x4 : Int) (η2 : zE), ((gC2 wl_qe [(nat_lit 0, zPqe_flaw, zOqe_flaw, zMqe_flaw), (nat_lit 1, zPqe_next, zOqe_next, zMqe_next), (nat_lit 2, zPqe_tie, zOqe_tie, zMqe_tie), (nat_lit 3, zPqe_push0, zOqe_push0, zMqe_push0), (nat_lit 4, zPqe_push, zOqe_push, zMqe_push), (nat_lit 5, zPqe_add, zOqe_add, zMqe_add), (nat_lit 6, zPqe_waitingRank, zOqe_waitingRank, zMqe_waitingRank)] pCqe_readOperand qCqe_readOperand) 2).2 [] η1 x4 η2 → ∀ (x5 : Int) (η3 : zE), ((gC2 wl_qe [(nat_lit 0, zPqe_flaw, zOqe_flaw, zMqe_flaw), (nat_lit 1, zPqe_next, zOqe_next, zMqe_next), (nat_lit 2, zPqe_tie, zOqe_tie, zMqe_tie), (nat_lit 3, zPqe_push0, zOqe_push0, zMqe_push0), (nat_lit 4, zPqe_push, zOqe_push, zMqe_push), (nat_lit 5, zPqe_add, zOqe_add, zMqe_add), (nat_lit 6, zPqe_waitingRank, zOqe_waitingRank, zMqe_waitingRank)] pCqe_readOperand qCqe_readOperand) 4).2 [3] η2 x5 η3 → ((gC2 wl_qe [(nat_lit 0, zPqe_flaw, zOqe_flaw, zMqe_flaw), (nat_lit 1, zPqe_next, zOqe_next, zMqe_next), (nat_lit 2, zPqe_tie, zOqe_tie, zMqe_tie), (nat_lit 3, zPqe_push0, zOqe_push0, zMqe_push0), (nat_lit 4, zPqe_push, zOqe_push, zMqe_push), (nat_lit 5, zPqe_add, zOqe_add, zMqe_add), (nat_lit 6, zPqe_waitingRank, zOqe_waitingRank, zMqe_waitingRank)] pCqe_readOperand qCqe_readOperand) 1).1 [] η3
          have wk0 : yp_wk η := hpp.2
          have hpp := hpp.1
          intro x1 e1 r1 c1 x2 e2 r2 c2 x3 η1 h3 c3 x4 η2 h4 x5 η3 h5
          have y3 : fQqe_waitingRank [] η x3 η1 := h3.2.2
          have k3 : sQ wl_qe zTr zOqe_waitingRank zMqe_waitingRank [] η x3 η1 ∧ oQqe_waitingRank [] η x3 η1 := ⟨h3.1, h3.2.1⟩
          have y4 : fQqe_tie [] η1 x4 η2 := h4.2.2
          have k4 : sQ wl_qe zTr zOqe_tie zMqe_tie [] η1 x4 η2 ∧ oQqe_tie [] η1 x4 η2 := ⟨h4.1, h4.2.1⟩
          have y5 : fQqe_push [3] η2 x5 η3 := h5.2.2
          have k5 : sQ wl_qe zTr zOqe_push zMqe_push [3] η2 x5 η3 ∧ oQqe_push [3] η2 x5 η3 := ⟨h5.1, h5.2.1⟩
          refine yj_a ?_ ?_
          · have y3 : fQqe_waitingRank [] η x3 η1 := h3.2.2
            have k3 : sQ wl_qe zTr zOqe_waitingRank zMqe_waitingRank [] η x3 η1 ∧ oQqe_waitingRank [] η x3 η1 := ⟨h3.1, h3.2.1⟩
            have y4 : fQqe_tie [] η1 x4 η2 := h4.2.2
            have k4 : sQ wl_qe zTr zOqe_tie zMqe_tie [] η1 x4 η2 ∧ oQqe_tie [] η1 x4 η2 := ⟨h4.1, h4.2.1⟩
            have y5 : fQqe_push [3] η2 x5 η3 := h5.2.2
            have k5 : sQ wl_qe zTr zOqe_push zMqe_push [3] η2 x5 η3 ∧ oQqe_push [3] η2 x5 η3 := ⟨h5.1, h5.2.1⟩
            exact k5.2
          · have wk1 : yp_wk η1 := wk_of wk0 (fun j => k3.1.2.2.2.1 62 j (zinr_not (by decide +kernel)))
            have wk2 : yp_wk η2 := wk_of wk1 (fun j => k4.1.2.2.2.1 62 j (zinr_not (by decide +kernel)))
            have wk3 : yp_wk η3 := wk_of wk2 (fun j => k5.1.2.2.2.1 62 j (zinr_not (by decide +kernel)))
            exact wk3
        · show ∀ x1 : Int, x1 = η 60 (Int.toNat 6) → zok 0 x1 → (¬ x1 = 0) → ∀ x2 : Int, x2 = η 60 (Int.toNat 6) → zok 0 x2 → (x2 = 3) → ∀ (x3 : Int) (η1 : zE), ((gC2 wl_qe [(nat_lit 0, zPqe_flaw, zOqe_flaw, zMqe_flaw), (nat_lit 1, zPqe_next, zOqe_next, zMqe_next), (nat_lit 2, zPqe_tie, zOqe_tie, zMqe_tie), (nat_lit 3, zPqe_push0, zOqe_push0, zMqe_push0), (nat_lit 4, zPqe_push, zOqe_push, zMqe_push), (nat_lit 5, zPqe_add, zOqe_add, zMqe_add), (nat_lit 6, zPqe_waitingRank, zOqe_waitingRank, zMqe_waitingRank)] pCqe_readOperand qCqe_readOperand) 6).2 [] η x3 η1 → (x3 ≤ 3) → ∀ (x4 : Int) (η2 : zE), ((gC2 wl_qe [(nat_lit 0, zPqe_flaw, zOqe_flaw, zMqe_flaw), (nat_lit 1, zPqe_next, zOqe_next, zMqe_next), (nat_lit 2, zPqe_tie, zOqe_tie, zMqe_tie), (nat_lit 3, zPqe_push0, zOqe_push0, zMqe_push0), (nat_lit 4, zPqe_push, zOqe_push, zMqe_push), (nat_lit 5, zPqe_add, zOqe_add, zMqe_add), (nat_lit 6, zPqe_waitingRank, zOqe_waitingRank, zMqe_waitingRank)] pCqe_readOperand qCqe_readOperand) 2).2 [] η1 x4 η2 → ∀ (x5 : Int) (η3 : zE), ((gC2 wl_qe [(nat_lit 0, zPqe_flaw, zOqe_flaw, zMqe_flaw), (nat_lit 1, zPqe_next, zOqe_next, zMqe_next), (nat_lit 2, zPqe_tie, zOqe_tie, zMqe_tie), (nat_lit 3, zPqe_push0, zOqe_push0, zMqe_push0), (nat_lit 4, zPqe_push, zOqe_push, zMqe_push), (nat_lit 5, zPqe_add, zOqe_add, zMqe_add), (nat_lit 6, zPqe_waitingRank, zOqe_waitingRank, zMqe_waitingRank)] pCqe_readOperand qCqe_readOperand) 4).2 [3] η2 x5 η3 → ∀ (x6 : Int) (η4 : zE), ((gC2 wl_qe [(nat_lit 0, zPqe_flaw, zOqe_flaw, zMqe_flaw), (nat_lit 1, zPqe_next, zOqe_next, zMqe_next), (nat_lit 2, zPqe_tie, zOqe_tie, zMqe_tie), (nat_lit 3, zPqe_push0, zOqe_push0, zMqe_push0), (nat_lit 4, zPqe_push, zOqe_push, zMqe_push), (nat_lit 5, zPqe_add, zOqe_add, zMqe_add), (nat_lit 6, zPqe_waitingRank, zOqe_waitingRank, zMqe_waitingRank)] pCqe_readOperand qCqe_readOperand) 1).2 [] η3 x6 η4 → (fun (_ : Nat) (y : Int) (η' : zE) => pQqe_readOperand [] η y η') 0 1 η4
          have wk0 : yp_wk η := hpp.2
          have hpp := hpp.1
          intro x1 e1 r1 c1 x2 e2 r2 c2 x3 η1 h3 c3 x4 η2 h4 x5 η3 h5 x6 η4 h6
          have y3 : fQqe_waitingRank [] η x3 η1 := h3.2.2
          have k3 : sQ wl_qe zTr zOqe_waitingRank zMqe_waitingRank [] η x3 η1 ∧ oQqe_waitingRank [] η x3 η1 := ⟨h3.1, h3.2.1⟩
          have y4 : fQqe_tie [] η1 x4 η2 := h4.2.2
          have k4 : sQ wl_qe zTr zOqe_tie zMqe_tie [] η1 x4 η2 ∧ oQqe_tie [] η1 x4 η2 := ⟨h4.1, h4.2.1⟩
          have y5 : fQqe_push [3] η2 x5 η3 := h5.2.2
          have k5 : sQ wl_qe zTr zOqe_push zMqe_push [3] η2 x5 η3 ∧ oQqe_push [3] η2 x5 η3 := ⟨h5.1, h5.2.1⟩
          have y6 : fQqe_next [] η3 x6 η4 := h6.2.2
          have k6 : sQ wl_qe zTr zOqe_next zMqe_next [] η3 x6 η4 ∧ oQqe_next [] η3 x6 η4 := ⟨h6.1, h6.2.1⟩
          refine yj_a ?_ ?_
          · have y3 : fQqe_waitingRank [] η x3 η1 := h3.2.2
            have k3 : sQ wl_qe zTr zOqe_waitingRank zMqe_waitingRank [] η x3 η1 ∧ oQqe_waitingRank [] η x3 η1 := ⟨h3.1, h3.2.1⟩
            have y4 : fQqe_tie [] η1 x4 η2 := h4.2.2
            have k4 : sQ wl_qe zTr zOqe_tie zMqe_tie [] η1 x4 η2 ∧ oQqe_tie [] η1 x4 η2 := ⟨h4.1, h4.2.1⟩
            have y5 : fQqe_push [3] η2 x5 η3 := h5.2.2
            have k5 : sQ wl_qe zTr zOqe_push zMqe_push [3] η2 x5 η3 ∧ oQqe_push [3] η2 x5 η3 := ⟨h5.1, h5.2.1⟩
            have y6 : fQqe_next [] η3 x6 η4 := h6.2.2
            have k6 : sQ wl_qe zTr zOqe_next zMqe_next [] η3 x6 η4 ∧ oQqe_next [] η3 x6 η4 := ⟨h6.1, h6.2.1⟩
            exact k6.2
          · have e1 : x1 = η 60 6 := e1
            clear r1
            have e2 : x2 = η 60 6 := e2
            clear r2
            obtain ⟨a3, b3⟩ : x3 = (yp_top η) ∧ η1 = η := y3
            clear k3 h3
            have b4 : η2 = (yp_tie η1) := y4
            clear k4 h4
            have b5 : η3 = (yp_psh 3 η2) := y5
            clear k5 h5
            have b6 : η4 = (yp_adv η3) := y6
            clear k6 h6
            show 1 = (yp_opw η) ∧ η4 = (yp_opd η)
            subst e1
            subst e2
            subst a3; subst b3
            subst b4
            subst b5
            subst b6
            refine ⟨?_, ?_⟩
            · unfold yp_opw
              (repeat' split) <;> first | (exfalso; omega) | rfl
            · unfold yp_opd yp_opn
              (repeat' split) <;> first | (exfalso; omega) | rfl
        · show ∀ x1 : Int, x1 = η 60 (Int.toNat 6) → zok 0 x1 → (x1 = 0) → ∀ x2 : Int, x2 = η 60 (Int.toNat 13) → zok 0 x2 → (x2 < 8) → ∀ x3 : Int, x3 = η 60 (Int.toNat 13) → zok 0 x3 → ∀ x4 : Int, x4 = zd 0 1 x3 1 → ∀ η1 : zE, η1 = zup η 60 (Int.toNat 13) x4 → ((gC2 wl_qe [(nat_lit 0, zPqe_flaw, zOqe_flaw, zMqe_flaw), (nat_lit 1, zPqe_next, zOqe_next, zMqe_next), (nat_lit 2, zPqe_tie, zOqe_tie, zMqe_tie), (nat_lit 3, zPqe_push0, zOqe_push0, zMqe_push0), (nat_lit 4, zPqe_push, zOqe_push, zMqe_push), (nat_lit 5, zPqe_add, zOqe_add, zMqe_add), (nat_lit 6, zPqe_waitingRank, zOqe_waitingRank, zMqe_waitingRank)] pCqe_readOperand qCqe_readOperand) 3).1 [] η1
          have wk0 : yp_wk η := hpp.2
          have hpp := hpp.1
          intro x1 e1 r1 c1 x2 e2 r2 c2 x3 e3 r3 x4 e4 η1 eη1
          refine yj_a ?_ ?_
          · have e2 : x2 = η 60 13 := e2
            have e3 : x3 = η 60 13 := e3
            have r2 : -2147483648 ≤ x2 ∧ x2 ≤ 2147483647 := r2
            have h4 : x4 = η 60 13 + 1 := by rw [e4, e3]; exact zd_a ⟨by omega, by omega⟩
            show Gd_q 1 1 η1
            rw [eη1, h4]
            exact open_q hpp (by omega)
          · have wk1 : yp_wk η1 := wk_of wk0 (fun j => by rw [eη1]; rfl)
            exact wk1
        · show ∀ x1 : Int, x1 = η 60 (Int.toNat 6) → zok 0 x1 → (x1 = 0) → ∀ x2 : Int, x2 = η 60 (Int.toNat 13) → zok 0 x2 → (x2 < 8) → ∀ x3 : Int, x3 = η 60 (Int.toNat 13) → zok 0 x3 → ∀ x4 : Int, x4 = zd 0 1 x3 1 → ∀ η1 : zE, η1 = zup η 60 (Int.toNat 13) x4 → ∀ (x5 : Int) (η2 : zE), ((gC2 wl_qe [(nat_lit 0, zPqe_flaw, zOqe_flaw, zMqe_flaw), (nat_lit 1, zPqe_next, zOqe_next, zMqe_next), (nat_lit 2, zPqe_tie, zOqe_tie, zMqe_tie), (nat_lit 3, zPqe_push0, zOqe_push0, zMqe_push0), (nat_lit 4, zPqe_push, zOqe_push, zMqe_push), (nat_lit 5, zPqe_add, zOqe_add, zMqe_add), (nat_lit 6, zPqe_waitingRank, zOqe_waitingRank, zMqe_waitingRank)] pCqe_readOperand qCqe_readOperand) 3).2 [] η1 x5 η2 → ((gC2 wl_qe [(nat_lit 0, zPqe_flaw, zOqe_flaw, zMqe_flaw), (nat_lit 1, zPqe_next, zOqe_next, zMqe_next), (nat_lit 2, zPqe_tie, zOqe_tie, zMqe_tie), (nat_lit 3, zPqe_push0, zOqe_push0, zMqe_push0), (nat_lit 4, zPqe_push, zOqe_push, zMqe_push), (nat_lit 5, zPqe_add, zOqe_add, zMqe_add), (nat_lit 6, zPqe_waitingRank, zOqe_waitingRank, zMqe_waitingRank)] pCqe_readOperand qCqe_readOperand) 1).1 [] η2
          have wk0 : yp_wk η := hpp.2
          have hpp := hpp.1
          intro x1 e1 r1 c1 x2 e2 r2 c2 x3 e3 r3 x4 e4 η1 eη1 x5 η2 h5
          have y5 : fQqe_push0 [] η1 x5 η2 := h5.2.2
          have k5 : sQ wl_qe zTr zOqe_push0 zMqe_push0 [] η1 x5 η2 ∧ oQqe_push0 [] η1 x5 η2 := ⟨h5.1, h5.2.1⟩
          refine yj_a ?_ ?_
          · have y5 : fQqe_push0 [] η1 x5 η2 := h5.2.2
            have k5 : sQ wl_qe zTr zOqe_push0 zMqe_push0 [] η1 x5 η2 ∧ oQqe_push0 [] η1 x5 η2 := ⟨h5.1, h5.2.1⟩
            exact k5.2
          · have wk1 : yp_wk η1 := wk_of wk0 (fun j => by rw [eη1]; rfl)
            have wk2 : yp_wk η2 := wk_of wk1 (fun j => k5.1.2.2.2.1 62 j (zinr_not (by decide +kernel)))
            exact wk2
        · show ∀ x1 : Int, x1 = η 60 (Int.toNat 6) → zok 0 x1 → (x1 = 0) → ∀ x2 : Int, x2 = η 60 (Int.toNat 13) → zok 0 x2 → (x2 < 8) → ∀ x3 : Int, x3 = η 60 (Int.toNat 13) → zok 0 x3 → ∀ x4 : Int, x4 = zd 0 1 x3 1 → ∀ η1 : zE, η1 = zup η 60 (Int.toNat 13) x4 → ∀ (x5 : Int) (η2 : zE), ((gC2 wl_qe [(nat_lit 0, zPqe_flaw, zOqe_flaw, zMqe_flaw), (nat_lit 1, zPqe_next, zOqe_next, zMqe_next), (nat_lit 2, zPqe_tie, zOqe_tie, zMqe_tie), (nat_lit 3, zPqe_push0, zOqe_push0, zMqe_push0), (nat_lit 4, zPqe_push, zOqe_push, zMqe_push), (nat_lit 5, zPqe_add, zOqe_add, zMqe_add), (nat_lit 6, zPqe_waitingRank, zOqe_waitingRank, zMqe_waitingRank)] pCqe_readOperand qCqe_readOperand) 3).2 [] η1 x5 η2 → ∀ (x6 : Int) (η3 : zE), ((gC2 wl_qe [(nat_lit 0, zPqe_flaw, zOqe_flaw, zMqe_flaw), (nat_lit 1, zPqe_next, zOqe_next, zMqe_next), (nat_lit 2, zPqe_tie, zOqe_tie, zMqe_tie), (nat_lit 3, zPqe_push0, zOqe_push0, zMqe_push0), (nat_lit 4, zPqe_push, zOqe_push, zMqe_push), (nat_lit 5, zPqe_add, zOqe_add, zMqe_add), (nat_lit 6, zPqe_waitingRank, zOqe_waitingRank, zMqe_waitingRank)] pCqe_readOperand qCqe_readOperand) 1).2 [] η2 x6 η3 → (fun (_ : Nat) (y : Int) (η' : zE) => pQqe_readOperand [] η y η') 0 1 η3
          have wk0 : yp_wk η := hpp.2
          have hpp := hpp.1
          intro x1 e1 r1 c1 x2 e2 r2 c2 x3 e3 r3 x4 e4 η1 eη1 x5 η2 h5 x6 η3 h6
          have y5 : fQqe_push0 [] η1 x5 η2 := h5.2.2
          have k5 : sQ wl_qe zTr zOqe_push0 zMqe_push0 [] η1 x5 η2 ∧ oQqe_push0 [] η1 x5 η2 := ⟨h5.1, h5.2.1⟩
          have y6 : fQqe_next [] η2 x6 η3 := h6.2.2
          have k6 : sQ wl_qe zTr zOqe_next zMqe_next [] η2 x6 η3 ∧ oQqe_next [] η2 x6 η3 := ⟨h6.1, h6.2.1⟩
          refine yj_a ?_ ?_
          · have y5 : fQqe_push0 [] η1 x5 η2 := h5.2.2
            have k5 : sQ wl_qe zTr zOqe_push0 zMqe_push0 [] η1 x5 η2 ∧ oQqe_push0 [] η1 x5 η2 := ⟨h5.1, h5.2.1⟩
            have y6 : fQqe_next [] η2 x6 η3 := h6.2.2
            have k6 : sQ wl_qe zTr zOqe_next zMqe_next [] η2 x6 η3 ∧ oQqe_next [] η2 x6 η3 := ⟨h6.1, h6.2.1⟩
            exact k6.2
          · have e1 : x1 = η 60 6 := e1
            clear r1
            have e2 : x2 = η 60 13 := e2
            clear r2
            have e3 : x3 = η 60 13 := e3
            clear r3
            have eη1 : η1 = zup η 60 13 x4 := eη1
            have b5 : η2 = (yp_psh 0 η1) := y5
            clear k5 h5
            have b6 : η3 = (yp_adv η2) := y6
            clear k6 h6
            show 1 = (yp_opw η) ∧ η3 = (yp_opd η)
            subst e1
            subst e2
            subst e3
            subst e4
            subst eη1
            subst b5
            subst b6
            refine ⟨?_, ?_⟩
            · unfold yp_opw
              (repeat' split) <;> first | (exfalso; omega) | rfl
            · unfold yp_opd yp_opn
              (repeat' split) <;> first | (exfalso; omega) | rfl
        · show ∀ x1 : Int, x1 = η 60 (Int.toNat 6) → zok 0 x1 → (x1 = 0) → ∀ x2 : Int, x2 = η 60 (Int.toNat 13) → zok 0 x2 → (8 ≤ x2) → ∀ x3 : Int, x3 = η 60 (Int.toNat 7) → zok 0 x3 → ((gC2 wl_qe [(nat_lit 0, zPqe_flaw, zOqe_flaw, zMqe_flaw), (nat_lit 1, zPqe_next, zOqe_next, zMqe_next), (nat_lit 2, zPqe_tie, zOqe_tie, zMqe_tie), (nat_lit 3, zPqe_push0, zOqe_push0, zMqe_push0), (nat_lit 4, zPqe_push, zOqe_push, zMqe_push), (nat_lit 5, zPqe_add, zOqe_add, zMqe_add), (nat_lit 6, zPqe_waitingRank, zOqe_waitingRank, zMqe_waitingRank)] pCqe_readOperand qCqe_readOperand) 0).1 [2, x3] η
          have wk0 : yp_wk η := hpp.2
          have hpp := hpp.1
          intro x1 e1 r1 c1 x2 e2 r2 c2 x3 e3 r3
          refine yj_a ?_ ?_
          · exact hpp
          · exact wk0
        · show ∀ x1 : Int, x1 = η 60 (Int.toNat 6) → zok 0 x1 → (x1 = 0) → ∀ x2 : Int, x2 = η 60 (Int.toNat 13) → zok 0 x2 → (8 ≤ x2) → ∀ x3 : Int, x3 = η 60 (Int.toNat 7) → zok 0 x3 → ∀ (x4 : Int) (η1 : zE), ((gC2 wl_qe [(nat_lit 0, zPqe_flaw, zOqe_flaw, zMqe_flaw), (nat_lit 1, zPqe_next, zOqe_next, zMqe_next), (nat_lit 2, zPqe_tie, zOqe_tie, zMqe_tie), (nat_lit 3, zPqe_push0, zOqe_push0, zMqe_push0), (nat_lit 4, zPqe_push, zOqe_push, zMqe_push), (nat_lit 5, zPqe_add, zOqe_add, zMqe_add), (nat_lit 6, zPqe_waitingRank, zOqe_waitingRank, zMqe_waitingRank)] pCqe_readOperand qCqe_readOperand) 0).2 [2, x3] η x4 η1 → ∀ x5 : Int, x5 = η1 60 (Int.toNat 13) → zok 0 x5 → ∀ x6 : Int, x6 = zd 0 1 x5 1 → ∀ η2 : zE, η2 = zup η1 60 (Int.toNat 13) x6 → ((gC2 wl_qe [(nat_lit 0, zPqe_flaw, zOqe_flaw, zMqe_flaw), (nat_lit 1, zPqe_next, zOqe_next, zMqe_next), (nat_lit 2, zPqe_tie, zOqe_tie, zMqe_tie), (nat_lit 3, zPqe_push0, zOqe_push0, zMqe_push0), (nat_lit 4, zPqe_push, zOqe_push, zMqe_push), (nat_lit 5, zPqe_add, zOqe_add, zMqe_add), (nat_lit 6, zPqe_waitingRank, zOqe_waitingRank, zMqe_waitingRank)] pCqe_readOperand qCqe_readOperand) 3).1 [] η2
          have wk0 : yp_wk η := hpp.2
          have hpp := hpp.1
          intro x1 e1 r1 c1 x2 e2 r2 c2 x3 e3 r3 x4 η1 h4 x5 e5 r5 x6 e6 η2 eη2
          have y4 : fQqe_flaw [2, x3] η x4 η1 := h4.2.2
          have k4 : sQ wl_qe zTr zOqe_flaw zMqe_flaw [2, x3] η x4 η1 ∧ oQqe_flaw [2, x3] η x4 η1 := ⟨h4.1, h4.2.1⟩
          refine yj_a ?_ ?_
          · have y4 : fQqe_flaw [2, x3] η x4 η1 := h4.2.2
            have k4 : sQ wl_qe zTr zOqe_flaw zMqe_flaw [2, x3] η x4 η1 ∧ oQqe_flaw [2, x3] η x4 η1 := ⟨h4.1, h4.2.1⟩
            have hf : ¬ η1 60 0 = 0 := (fun e => by have q : (1 : Int) ≤ η1 60 0 ∧ η1 60 0 ≤ 3 := k4.1.2.2.1 _ (List.mem_of_getElem? (i := 0) rfl); omega)
            show Gd_q 1 1 η2
            rw [eη2]
            refine cell_q k4.2 ⟨by decide, by decide, by decide⟩ (fun w => absurd ?_ hf)
            rw [zup_ne (fun _ e => absurd e (by decide))] at w
            exact w
          · have wk1 : yp_wk η1 := wk_of wk0 (fun j => k4.1.2.2.2.1 62 j (zinr_not (by decide +kernel)))
            have wk2 : yp_wk η2 := wk_of wk1 (fun j => by rw [eη2]; rfl)
            exact wk2
        · show ∀ x1 : Int, x1 = η 60 (Int.toNat 6) → zok 0 x1 → (x1 = 0) → ∀ x2 : Int, x2 = η 60 (Int.toNat 13) → zok 0 x2 → (8 ≤ x2) → ∀ x3 : Int, x3 = η 60 (Int.toNat 7) → zok 0 x3 → ∀ (x4 : Int) (η1 : zE), ((gC2 wl_qe [(nat_lit 0, zPqe_flaw, zOqe_flaw, zMqe_flaw), (nat_lit 1, zPqe_next, zOqe_next, zMqe_next), (nat_lit 2, zPqe_tie, zOqe_tie, zMqe_tie), (nat_lit 3, zPqe_push0, zOqe_push0, zMqe_push0), (nat_lit 4, zPqe_push, zOqe_push, zMqe_push), (nat_lit 5, zPqe_add, zOqe_add, zMqe_add), (nat_lit 6, zPqe_waitingRank, zOqe_waitingRank, zMqe_waitingRank)] pCqe_readOperand qCqe_readOperand) 0).2 [2, x3] η x4 η1 → ∀ x5 : Int, x5 = η1 60 (Int.toNat 13) → zok 0 x5 → ∀ x6 : Int, x6 = zd 0 1 x5 1 → ∀ η2 : zE, η2 = zup η1 60 (Int.toNat 13) x6 → ∀ (x7 : Int) (η3 : zE), ((gC2 wl_qe [(nat_lit 0, zPqe_flaw, zOqe_flaw, zMqe_flaw), (nat_lit 1, zPqe_next, zOqe_next, zMqe_next), (nat_lit 2, zPqe_tie, zOqe_tie, zMqe_tie), (nat_lit 3, zPqe_push0, zOqe_push0, zMqe_push0), (nat_lit 4, zPqe_push, zOqe_push, zMqe_push), (nat_lit 5, zPqe_add, zOqe_add, zMqe_add), (nat_lit 6, zPqe_waitingRank, zOqe_waitingRank, zMqe_waitingRank)] pCqe_readOperand qCqe_readOperand) 3).2 [] η2 x7 η3 → ((gC2 wl_qe [(nat_lit 0, zPqe_flaw, zOqe_flaw, zMqe_flaw), (nat_lit 1, zPqe_next, zOqe_next, zMqe_next), (nat_lit 2, zPqe_tie, zOqe_tie, zMqe_tie), (nat_lit 3, zPqe_push0, zOqe_push0, zMqe_push0), (nat_lit 4, zPqe_push, zOqe_push, zMqe_push), (nat_lit 5, zPqe_add, zOqe_add, zMqe_add), (nat_lit 6, zPqe_waitingRank, zOqe_waitingRank, zMqe_waitingRank)] pCqe_readOperand qCqe_readOperand) 1).1 [] η3
          have wk0 : yp_wk η := hpp.2
          have hpp := hpp.1
          intro x1 e1 r1 c1 x2 e2 r2 c2 x3 e3 r3 x4 η1 h4 x5 e5 r5 x6 e6 η2 eη2 x7 η3 h7
          have y4 : fQqe_flaw [2, x3] η x4 η1 := h4.2.2
          have k4 : sQ wl_qe zTr zOqe_flaw zMqe_flaw [2, x3] η x4 η1 ∧ oQqe_flaw [2, x3] η x4 η1 := ⟨h4.1, h4.2.1⟩
          have y7 : fQqe_push0 [] η2 x7 η3 := h7.2.2
          have k7 : sQ wl_qe zTr zOqe_push0 zMqe_push0 [] η2 x7 η3 ∧ oQqe_push0 [] η2 x7 η3 := ⟨h7.1, h7.2.1⟩
          refine yj_a ?_ ?_
          · have y4 : fQqe_flaw [2, x3] η x4 η1 := h4.2.2
            have k4 : sQ wl_qe zTr zOqe_flaw zMqe_flaw [2, x3] η x4 η1 ∧ oQqe_flaw [2, x3] η x4 η1 := ⟨h4.1, h4.2.1⟩
            have y7 : fQqe_push0 [] η2 x7 η3 := h7.2.2
            have k7 : sQ wl_qe zTr zOqe_push0 zMqe_push0 [] η2 x7 η3 ∧ oQqe_push0 [] η2 x7 η3 := ⟨h7.1, h7.2.1⟩
            exact k7.2
          · have wk1 : yp_wk η1 := wk_of wk0 (fun j => k4.1.2.2.2.1 62 j (zinr_not (by decide +kernel)))
            have wk2 : yp_wk η2 := wk_of wk1 (fun j => by rw [eη2]; rfl)
            have wk3 : yp_wk η3 := wk_of wk2 (fun j => k7.1.2.2.2.1 62 j (zinr_not (by decide +kernel)))
            exact wk3
        · show ∀ x1 : Int, x1 = η 60 (Int.toNat 6) → zok 0 x1 → (x1 = 0) → ∀ x2 : Int, x2 = η 60 (Int.toNat 13) → zok 0 x2 → (8 ≤ x2) → ∀ x3 : Int, x3 = η 60 (Int.toNat 7) → zok 0 x3 → ∀ (x4 : Int) (η1 : zE), ((gC2 wl_qe [(nat_lit 0, zPqe_flaw, zOqe_flaw, zMqe_flaw), (nat_lit 1, zPqe_next, zOqe_next, zMqe_next), (nat_lit 2, zPqe_tie, zOqe_tie, zMqe_tie), (nat_lit 3, zPqe_push0, zOqe_push0, zMqe_push0), (nat_lit 4, zPqe_push, zOqe_push, zMqe_push), (nat_lit 5, zPqe_add, zOqe_add, zMqe_add), (nat_lit 6, zPqe_waitingRank, zOqe_waitingRank, zMqe_waitingRank)] pCqe_readOperand qCqe_readOperand) 0).2 [2, x3] η x4 η1 → ∀ x5 : Int, x5 = η1 60 (Int.toNat 13) → zok 0 x5 → ∀ x6 : Int, x6 = zd 0 1 x5 1 → ∀ η2 : zE, η2 = zup η1 60 (Int.toNat 13) x6 → ∀ (x7 : Int) (η3 : zE), ((gC2 wl_qe [(nat_lit 0, zPqe_flaw, zOqe_flaw, zMqe_flaw), (nat_lit 1, zPqe_next, zOqe_next, zMqe_next), (nat_lit 2, zPqe_tie, zOqe_tie, zMqe_tie), (nat_lit 3, zPqe_push0, zOqe_push0, zMqe_push0), (nat_lit 4, zPqe_push, zOqe_push, zMqe_push), (nat_lit 5, zPqe_add, zOqe_add, zMqe_add), (nat_lit 6, zPqe_waitingRank, zOqe_waitingRank, zMqe_waitingRank)] pCqe_readOperand qCqe_readOperand) 3).2 [] η2 x7 η3 → ∀ (x8 : Int) (η4 : zE), ((gC2 wl_qe [(nat_lit 0, zPqe_flaw, zOqe_flaw, zMqe_flaw), (nat_lit 1, zPqe_next, zOqe_next, zMqe_next), (nat_lit 2, zPqe_tie, zOqe_tie, zMqe_tie), (nat_lit 3, zPqe_push0, zOqe_push0, zMqe_push0), (nat_lit 4, zPqe_push, zOqe_push, zMqe_push), (nat_lit 5, zPqe_add, zOqe_add, zMqe_add), (nat_lit 6, zPqe_waitingRank, zOqe_waitingRank, zMqe_waitingRank)] pCqe_readOperand qCqe_readOperand) 1).2 [] η3 x8 η4 → (fun (_ : Nat) (y : Int) (η' : zE) => pQqe_readOperand [] η y η') 0 1 η4
          have wk0 : yp_wk η := hpp.2
          have hpp := hpp.1
          intro x1 e1 r1 c1 x2 e2 r2 c2 x3 e3 r3 x4 η1 h4 x5 e5 r5 x6 e6 η2 eη2 x7 η3 h7 x8 η4 h8
          have y4 : fQqe_flaw [2, x3] η x4 η1 := h4.2.2
          have k4 : sQ wl_qe zTr zOqe_flaw zMqe_flaw [2, x3] η x4 η1 ∧ oQqe_flaw [2, x3] η x4 η1 := ⟨h4.1, h4.2.1⟩
          have y7 : fQqe_push0 [] η2 x7 η3 := h7.2.2
          have k7 : sQ wl_qe zTr zOqe_push0 zMqe_push0 [] η2 x7 η3 ∧ oQqe_push0 [] η2 x7 η3 := ⟨h7.1, h7.2.1⟩
          have y8 : fQqe_next [] η3 x8 η4 := h8.2.2
          have k8 : sQ wl_qe zTr zOqe_next zMqe_next [] η3 x8 η4 ∧ oQqe_next [] η3 x8 η4 := ⟨h8.1, h8.2.1⟩
          refine yj_a ?_ ?_
          · have y4 : fQqe_flaw [2, x3] η x4 η1 := h4.2.2
            have k4 : sQ wl_qe zTr zOqe_flaw zMqe_flaw [2, x3] η x4 η1 ∧ oQqe_flaw [2, x3] η x4 η1 := ⟨h4.1, h4.2.1⟩
            have y7 : fQqe_push0 [] η2 x7 η3 := h7.2.2
            have k7 : sQ wl_qe zTr zOqe_push0 zMqe_push0 [] η2 x7 η3 ∧ oQqe_push0 [] η2 x7 η3 := ⟨h7.1, h7.2.1⟩
            have y8 : fQqe_next [] η3 x8 η4 := h8.2.2
            have k8 : sQ wl_qe zTr zOqe_next zMqe_next [] η3 x8 η4 ∧ oQqe_next [] η3 x8 η4 := ⟨h8.1, h8.2.1⟩
            exact k8.2
          · have e1 : x1 = η 60 6 := e1
            clear r1
            have e2 : x2 = η 60 13 := e2
            clear r2
            have e3 : x3 = η 60 7 := e3
            clear r3
            have b4 : η1 = yp_flw 2 x3 η := y4
            clear k4 h4
            have e5 : x5 = η1 60 13 := e5
            clear r5
            have eη2 : η2 = zup η1 60 13 x6 := eη2
            have b7 : η3 = (yp_psh 0 η2) := y7
            clear k7 h7
            have b8 : η4 = (yp_adv η3) := y8
            clear k8 h8
            show 1 = (yp_opw η) ∧ η4 = (yp_opd η)
            subst e1
            subst e2
            subst e3
            subst b4
            subst e5
            subst e6
            subst eη2
            subst b7
            subst b8
            refine ⟨?_, ?_⟩
            · unfold yp_opw
              (repeat' split) <;> first | (exfalso; omega) | rfl
            · unfold yp_opd yp_opn
              (repeat' split) <;> first | (exfalso; omega) | rfl
      )
    (fun _ _ _ _ _ _ _ h => nomatch h)
    (fun _ h => nomatch h))
