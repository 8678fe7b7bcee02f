set_option maxHeartbeats 8000000 in
theorem zke_signToken_o8 {ro : Nat → List Int32} (η : zE) (hp : sP wl_ke zTr zPke_signToken [] η) (hpp : pPke_signToken [] η) : ∀ x1 : Int, x1 = η 0 (Int.toNat 7) → zok 0 x1 → ∀ x2 : Int, x2 = η 1 (Int.toNat x1) → zok 0 x2 → ∀ η1 : zE, η1 = zup η 0 (Int.toNat 9) x2 → ∀ x3 : Int, x3 = η1 0 (Int.toNat 7) → zok 0 x3 → ∀ x4 : Int, x4 = zd 0 1 x3 1 → ∀ η2 : zE, η2 = zup η1 0 (Int.toNat 7) x4 → ∀ x5 : Int, x5 = η2 0 (Int.toNat 9) → zok 0 x5 → (¬ x5 = 60) → ∀ x6 : Int, x6 = η2 0 (Int.toNat 9) → zok 0 x6 → (¬ x6 = 62) → ∀ x7 : Int, x7 = η2 0 (Int.toNat 9) → zok 0 x7 → (¬ x7 = 61) → ∀ x8 : Int, x8 = η2 0 (Int.toNat 9) → zok 0 x8 → (¬ x8 = 59) → ∀ x9 : Int, x9 = η2 0 (Int.toNat 9) → zok 0 x9 → (x9 = 40) → (¬ (1 : Int) = (0 : Int)) → ∀ η3 : zE, η3 = zup η2 0 (Int.toNat 8) 4 → (fun (_ : Nat) (y : Int) (η' : zE) => pQke_signToken [] η y η') 0 0 η3 := by
  intro x1 e1 r1 x2 e2 r2 η1 eη1 x3 e3 r3 x4 e4 η2 eη2 x5 e5 r5 c1 x6 e6 r6 c2 x7 e7 r7 c3 x8 e8 r8 c4 x9 e9 r9 c5 c6 η3 eη3
  refine yj_a ?_ ?_
  · replace e4 := zEq_i e4
    have w0_0_7 : (0 : Int) ≤ η 0 7 ∧ η 0 7 ≤ 699 := hp.2.2 _ (List.mem_of_getElem? (i := 0) rfl)
    replace e1 : x1 = η 0 7 := e1
    replace r1 : -2147483648 ≤ x1 ∧ x1 ≤ 2147483647 := r1
    replace e2 : x2 = η 1 (Int.toNat x1) := e2
    replace r2 : -2147483648 ≤ x2 ∧ x2 ≤ 2147483647 := r2
    have c0_0_9 : η 0 9 = η 0 9 := rfl
    have v3 : zEq (η1 0 7) (η 0 7) := by rw [eη1]; exact (zup_ne (fun _ e => absurd e (by decide))).trans rfl
    replace e3 : x3 = η 0 7 := e3.trans v3
    replace r3 : -2147483648 ≤ x3 ∧ x3 ≤ 2147483647 := r3
    first
    | replace e4 : x4 = x3 + 1 := zd_a2 (zEq_o e4) (by clear e4; exact ⟨by omega, by omega⟩)
    | clear e4
    have c1_0_7 : η1 0 7 = η 0 7 := v3
    have v4 : zEq (η1 0 9) (x2) := by rw [eη1]; exact zup_eq
    have v5 : zEq (η2 0 9) (x2) := by rw [eη2]; exact (zup_ne (fun _ e => absurd e (by decide))).trans v4
    replace e5 : x5 = x2 := e5.trans v5
    replace r5 : -2147483648 ≤ x5 ∧ x5 ≤ 2147483647 := r5
    replace e6 : x6 = x2 := e6.trans v5
    replace r6 : -2147483648 ≤ x6 ∧ x6 ≤ 2147483647 := r6
    replace e7 : x7 = x2 := e7.trans v5
    replace r7 : -2147483648 ≤ x7 ∧ x7 ≤ 2147483647 := r7
    replace e8 : x8 = x2 := e8.trans v5
    replace r8 : -2147483648 ≤ x8 ∧ x8 ≤ 2147483647 := r8
    replace e9 : x9 = x2 := e9.trans v5
    replace r9 : -2147483648 ≤ x9 ∧ x9 ≤ 2147483647 := r9
    have w0_0_8 : (0 : Int) ≤ η 0 8 ∧ η 0 8 ≤ 6 := wf_ok (a := 8) (b := 8) (z := (0, 6)) hp.1 (by decide +kernel) (Nat.le_refl _) (Nat.le_refl _)
    have v7 : zEq (η1 0 8) (η 0 8) := by rw [eη1]; exact (zup_ne (fun _ e => absurd e (by decide))).trans rfl
    have v8 : zEq (η2 0 8) (η 0 8) := by rw [eη2]; exact (zup_ne (fun _ e => absurd e (by decide))).trans v7
    have c2_0_8 : η2 0 8 = η 0 8 := v8
    have v9 : ∀ j, η1 2 j = η 2 j := fun j => by rw [eη1]; exact zup_ne (fun e _ => absurd e (by decide))
    have v10 : ∀ j, η2 2 j = η 2 j := fun j => by rw [eη2]; exact (zup_ne (fun e _ => absurd e (by decide))).trans (v9 j)
    have v11 : ∀ j, η3 2 j = η 2 j := fun j => by rw [eη3]; exact (zup_ne (fun e _ => absurd e (by decide))).trans (v10 j)
    have fr2 : ∀ j, η3 2 j = η 2 j := v11
    have v12 : zEq (η2 0 7) (x4) := by rw [eη2]; exact zup_eq
    have v13 : zEq (η3 0 7) (x4) := by rw [eη3]; exact (zup_ne (fun _ e => absurd e (by decide))).trans v12
    have f0_7 : η3 0 7 = x4 := v13
    have w0_0_6 : (0 : Int) ≤ η 0 6 ∧ η 0 6 ≤ 700 := wf_ok (a := 6) (b := 6) (z := (0, 700)) hp.1 (by decide +kernel) (Nat.le_refl _) (Nat.le_refl _)
    have v15 : zEq (η1 0 6) (η 0 6) := by rw [eη1]; exact (zup_ne (fun _ e => absurd e (by decide))).trans rfl
    have v16 : zEq (η2 0 6) (η 0 6) := by rw [eη2]; exact (zup_ne (fun _ e => absurd e (by decide))).trans v15
    have v17 : zEq (η3 0 6) (η 0 6) := by rw [eη3]; exact (zup_ne (fun _ e => absurd e (by decide))).trans v16
    have f0_6 : η3 0 6 = η 0 6 := v17
    have v18 : zEq (η3 0 8) (4) := by rw [eη3]; exact zup_eq
    have f0_8 : η3 0 8 = 4 := v18
    have v19 : zEq (η3 0 9) (x2) := by rw [eη3]; exact (zup_ne (fun _ e => absurd e (by decide))).trans v5
    have f0_9 : η3 0 9 = x2 := v19
    have hh : η 0 7 < η 0 6 := hpp.1
    refine ⟨gk_v f0_7 f0_6 f0_8 f0_9 fr2 hpp.2 (by omega) ?_, show η 0 7 < η3 0 7 by omega⟩
    first
    | exact k_o (by decide) (by decide)
    | exact ⟨fun h => absurd h (by decide), fun _ => ⟨by decide, by decide⟩⟩
    | exact ⟨fun _ => ⟨by omega, by omega⟩, fun h => absurd h (by decide)⟩
  · have z1 : x1 = η 0 7 := e1
    have z2 : x2 = η 1 (η 0 7).toNat := by rw [← z1]; exact e2
    have z4 : zEq x4 (zd 0 1 (η 0 7) 1) := by rw [← z1]; exact e4.trans (by rw [show x3 = x1 from e3.trans (by rw [eη1]; exact e1.symm)])
    replace e4 := zEq_i e4
    have w0_0_7 : (0 : Int) ≤ η 0 7 ∧ η 0 7 ≤ 699 := hp.2.2 _ (List.mem_of_getElem? (i := 0) rfl)
    replace e1 : x1 = η 0 7 := e1
    replace r1 : -2147483648 ≤ x1 ∧ x1 ≤ 2147483647 := r1
    replace e2 : x2 = η 1 (Int.toNat x1) := e2
    replace r2 : -2147483648 ≤ x2 ∧ x2 ≤ 2147483647 := r2
    have c0_0_9 : η 0 9 = η 0 9 := rfl
    have v3 : zEq (η1 0 7) (η 0 7) := by rw [eη1]; exact (zup_ne (fun _ e => absurd e (by decide))).trans rfl
    replace e3 : x3 = η 0 7 := e3.trans v3
    replace r3 : -2147483648 ≤ x3 ∧ x3 ≤ 2147483647 := r3
    first
    | replace e4 : x4 = x3 + 1 := zd_a2 (zEq_o e4) (by clear e4; exact ⟨by omega, by omega⟩)
    | clear e4
    have c1_0_7 : η1 0 7 = η 0 7 := v3
    have v4 : zEq (η1 0 9) (x2) := by rw [eη1]; exact zup_eq
    have v5 : zEq (η2 0 9) (x2) := by rw [eη2]; exact (zup_ne (fun _ e => absurd e (by decide))).trans v4
    replace e5 : x5 = x2 := e5.trans v5
    replace r5 : -2147483648 ≤ x5 ∧ x5 ≤ 2147483647 := r5
    replace e6 : x6 = x2 := e6.trans v5
    replace r6 : -2147483648 ≤ x6 ∧ x6 ≤ 2147483647 := r6
    replace e7 : x7 = x2 := e7.trans v5
    replace r7 : -2147483648 ≤ x7 ∧ x7 ≤ 2147483647 := r7
    replace e8 : x8 = x2 := e8.trans v5
    replace r8 : -2147483648 ≤ x8 ∧ x8 ≤ 2147483647 := r8
    replace e9 : x9 = x2 := e9.trans v5
    replace r9 : -2147483648 ≤ x9 ∧ x9 ≤ 2147483647 := r9
    have w0_0_8 : (0 : Int) ≤ η 0 8 ∧ η 0 8 ≤ 6 := wf_ok (a := 8) (b := 8) (z := (0, 6)) hp.1 (by decide +kernel) (Nat.le_refl _) (Nat.le_refl _)
    have v7 : zEq (η1 0 8) (η 0 8) := by rw [eη1]; exact (zup_ne (fun _ e => absurd e (by decide))).trans rfl
    have v8 : zEq (η2 0 8) (η 0 8) := by rw [eη2]; exact (zup_ne (fun _ e => absurd e (by decide))).trans v7
    have c2_0_8 : η2 0 8 = η 0 8 := v8
    have v9 : ∀ j, η1 2 j = η 2 j := fun j => by rw [eη1]; exact zup_ne (fun e _ => absurd e (by decide))
    have v10 : ∀ j, η2 2 j = η 2 j := fun j => by rw [eη2]; exact (zup_ne (fun e _ => absurd e (by decide))).trans (v9 j)
    have v11 : ∀ j, η3 2 j = η 2 j := fun j => by rw [eη3]; exact (zup_ne (fun e _ => absurd e (by decide))).trans (v10 j)
    have fr2 : ∀ j, η3 2 j = η 2 j := v11
    have v12 : zEq (η2 0 7) (x4) := by rw [eη2]; exact zup_eq
    have v13 : zEq (η3 0 7) (x4) := by rw [eη3]; exact (zup_ne (fun _ e => absurd e (by decide))).trans v12
    have f0_7 : η3 0 7 = x4 := v13
    have w0_0_6 : (0 : Int) ≤ η 0 6 ∧ η 0 6 ≤ 700 := wf_ok (a := 6) (b := 6) (z := (0, 700)) hp.1 (by decide +kernel) (Nat.le_refl _) (Nat.le_refl _)
    have v15 : zEq (η1 0 6) (η 0 6) := by rw [eη1]; exact (zup_ne (fun _ e => absurd e (by decide))).trans rfl
    have v16 : zEq (η2 0 6) (η 0 6) := by rw [eη2]; exact (zup_ne (fun _ e => absurd e (by decide))).trans v15
    have v17 : zEq (η3 0 6) (η 0 6) := by rw [eη3]; exact (zup_ne (fun _ e => absurd e (by decide))).trans v16
    have f0_6 : η3 0 6 = η 0 6 := v17
    have v18 : zEq (η3 0 8) (4) := by rw [eη3]; exact zup_eq
    have f0_8 : η3 0 8 = 4 := v18
    have v19 : zEq (η3 0 9) (x2) := by rw [eη3]; exact (zup_ne (fun _ e => absurd e (by decide))).trans v5
    have f0_9 : η3 0 9 = x2 := v19
    have xx : x2 = 40 := e9.symm.trans c5
    show _ = yq_snS η
    rw [qsn_l (c := x2) (x := x4) (d := 0) (k := 4) (w := x2) (e := 0) z2 (zEq_o z4) (Or.inr (Or.inr (fun d => (by rw [xx]; rfl)))) ((by rw [xx]; rfl))]
    rw [eη3, eη2, eη1]
    rw [if_pos rfl]
    exact qsn_4
set_option maxHeartbeats 8000000 in
theorem zke_signToken_o9 {ro : Nat → List Int32} (η : zE) (hp : sP wl_ke zTr zPke_signToken [] η) (hpp : pPke_signToken [] η) : ∀ x1 : Int, x1 = η 0 (Int.toNat 7) → zok 0 x1 → ∀ x2 : Int, x2 = η 1 (Int.toNat x1) → zok 0 x2 → ∀ η1 : zE, η1 = zup η 0 (Int.toNat 9) x2 → ∀ x3 : Int, x3 = η1 0 (Int.toNat 7) → zok 0 x3 → ∀ x4 : Int, x4 = zd 0 1 x3 1 → ∀ η2 : zE, η2 = zup η1 0 (Int.toNat 7) x4 → ∀ x5 : Int, x5 = η2 0 (Int.toNat 9) → zok 0 x5 → (¬ x5 = 60) → ∀ x6 : Int, x6 = η2 0 (Int.toNat 9) → zok 0 x6 → (¬ x6 = 62) → ∀ x7 : Int, x7 = η2 0 (Int.toNat 9) → zok 0 x7 → (¬ x7 = 61) → ∀ x8 : Int, x8 = η2 0 (Int.toNat 9) → zok 0 x8 → (¬ x8 = 59) → ∀ x9 : Int, x9 = η2 0 (Int.toNat 9) → zok 0 x9 → (¬ x9 = 40) → ∀ x10 : Int, x10 = η2 0 (Int.toNat 9) → zok 0 x10 → (x10 = 41) → (¬ (1 : Int) = (0 : Int)) → ∀ η3 : zE, η3 = zup η2 0 (Int.toNat 8) 4 → (fun (_ : Nat) (y : Int) (η' : zE) => pQke_signToken [] η y η') 0 0 η3 := by
  intro x1 e1 r1 x2 e2 r2 η1 eη1 x3 e3 r3 x4 e4 η2 eη2 x5 e5 r5 c1 x6 e6 r6 c2 x7 e7 r7 c3 x8 e8 r8 c4 x9 e9 r9 c5 x10 e10 r10 c6 c7 η3 eη3
  refine yj_a ?_ ?_
  · replace e4 := zEq_i e4
    have w0_0_7 : (0 : Int) ≤ η 0 7 ∧ η 0 7 ≤ 699 := hp.2.2 _ (List.mem_of_getElem? (i := 0) rfl)
    replace e1 : x1 = η 0 7 := e1
    replace r1 : -2147483648 ≤ x1 ∧ x1 ≤ 2147483647 := r1
    replace e2 : x2 = η 1 (Int.toNat x1) := e2
    replace r2 : -2147483648 ≤ x2 ∧ x2 ≤ 2147483647 := r2
    have c0_0_9 : η 0 9 = η 0 9 := rfl
    have v3 : zEq (η1 0 7) (η 0 7) := by rw [eη1]; exact (zup_ne (fun _ e => absurd e (by decide))).trans rfl
    replace e3 : x3 = η 0 7 := e3.trans v3
    replace r3 : -2147483648 ≤ x3 ∧ x3 ≤ 2147483647 := r3
    first
    | replace e4 : x4 = x3 + 1 := zd_a2 (zEq_o e4) (by clear e4; exact ⟨by omega, by omega⟩)
    | clear e4
    have c1_0_7 : η1 0 7 = η 0 7 := v3
    have v4 : zEq (η1 0 9) (x2) := by rw [eη1]; exact zup_eq
    have v5 : zEq (η2 0 9) (x2) := by rw [eη2]; exact (zup_ne (fun _ e => absurd e (by decide))).trans v4
    replace e5 : x5 = x2 := e5.trans v5
    replace r5 : -2147483648 ≤ x5 ∧ x5 ≤ 2147483647 := r5
    replace e6 : x6 = x2 := e6.trans v5
    replace r6 : -2147483648 ≤ x6 ∧ x6 ≤ 2147483647 := r6
    replace e7 : x7 = x2 := e7.trans v5
    replace r7 : -2147483648 ≤ x7 ∧ x7 ≤ 2147483647 := r7
    replace e8 : x8 = x2 := e8.trans v5
    replace r8 : -2147483648 ≤ x8 ∧ x8 ≤ 2147483647 := r8
    replace e9 : x9 = x2 := e9.trans v5
    replace r9 : -2147483648 ≤ x9 ∧ x9 ≤ 2147483647 := r9
    replace e10 : x10 = x2 := e10.trans v5
    replace r10 : -2147483648 ≤ x10 ∧ x10 ≤ 2147483647 := r10
    have w0_0_8 : (0 : Int) ≤ η 0 8 ∧ η 0 8 ≤ 6 := wf_ok (a := 8) (b := 8) (z := (0, 6)) hp.1 (by decide +kernel) (Nat.le_refl _) (Nat.le_refl _)
    have v7 : zEq (η1 0 8) (η 0 8) := by rw [eη1]; exact (zup_ne (fun _ e => absurd e (by decide))).trans rfl
    have v8 : zEq (η2 0 8) (η 0 8) := by rw [eη2]; exact (zup_ne (fun _ e => absurd e (by decide))).trans v7
    have c2_0_8 : η2 0 8 = η 0 8 := v8
    have v9 : ∀ j, η1 2 j = η 2 j := fun j => by rw [eη1]; exact zup_ne (fun e _ => absurd e (by decide))
    have v10 : ∀ j, η2 2 j = η 2 j := fun j => by rw [eη2]; exact (zup_ne (fun e _ => absurd e (by decide))).trans (v9 j)
    have v11 : ∀ j, η3 2 j = η 2 j := fun j => by rw [eη3]; exact (zup_ne (fun e _ => absurd e (by decide))).trans (v10 j)
    have fr2 : ∀ j, η3 2 j = η 2 j := v11
    have v12 : zEq (η2 0 7) (x4) := by rw [eη2]; exact zup_eq
    have v13 : zEq (η3 0 7) (x4) := by rw [eη3]; exact (zup_ne (fun _ e => absurd e (by decide))).trans v12
    have f0_7 : η3 0 7 = x4 := v13
    have w0_0_6 : (0 : Int) ≤ η 0 6 ∧ η 0 6 ≤ 700 := wf_ok (a := 6) (b := 6) (z := (0, 700)) hp.1 (by decide +kernel) (Nat.le_refl _) (Nat.le_refl _)
    have v15 : zEq (η1 0 6) (η 0 6) := by rw [eη1]; exact (zup_ne (fun _ e => absurd e (by decide))).trans rfl
    have v16 : zEq (η2 0 6) (η 0 6) := by rw [eη2]; exact (zup_ne (fun _ e => absurd e (by decide))).trans v15
    have v17 : zEq (η3 0 6) (η 0 6) := by rw [eη3]; exact (zup_ne (fun _ e => absurd e (by decide))).trans v16
    have f0_6 : η3 0 6 = η 0 6 := v17
    have v18 : zEq (η3 0 8) (4) := by rw [eη3]; exact zup_eq
    have f0_8 : η3 0 8 = 4 := v18
    have v19 : zEq (η3 0 9) (x2) := by rw [eη3]; exact (zup_ne (fun _ e => absurd e (by decide))).trans v5
    have f0_9 : η3 0 9 = x2 := v19
    have hh : η 0 7 < η 0 6 := hpp.1
    refine ⟨gk_v f0_7 f0_6 f0_8 f0_9 fr2 hpp.2 (by omega) ?_, show η 0 7 < η3 0 7 by omega⟩
    first
    | exact k_o (by decide) (by decide)
    | exact ⟨fun h => absurd h (by decide), fun _ => ⟨by decide, by decide⟩⟩
    | exact ⟨fun _ => ⟨by omega, by omega⟩, fun h => absurd h (by decide)⟩
  · have z1 : x1 = η 0 7 := e1
    have z2 : x2 = η 1 (η 0 7).toNat := by rw [← z1]; exact e2
    have z4 : zEq x4 (zd 0 1 (η 0 7) 1) := by rw [← z1]; exact e4.trans (by rw [show x3 = x1 from e3.trans (by rw [eη1]; exact e1.symm)])
    replace e4 := zEq_i e4
    have w0_0_7 : (0 : Int) ≤ η 0 7 ∧ η 0 7 ≤ 699 := hp.2.2 _ (List.mem_of_getElem? (i := 0) rfl)
    replace e1 : x1 = η 0 7 := e1
    replace r1 : -2147483648 ≤ x1 ∧ x1 ≤ 2147483647 := r1
    replace e2 : x2 = η 1 (Int.toNat x1) := e2
    replace r2 : -2147483648 ≤ x2 ∧ x2 ≤ 2147483647 := r2
    have c0_0_9 : η 0 9 = η 0 9 := rfl
    have v3 : zEq (η1 0 7) (η 0 7) := by rw [eη1]; exact (zup_ne (fun _ e => absurd e (by decide))).trans rfl
    replace e3 : x3 = η 0 7 := e3.trans v3
    replace r3 : -2147483648 ≤ x3 ∧ x3 ≤ 2147483647 := r3
    first
    | replace e4 : x4 = x3 + 1 := zd_a2 (zEq_o e4) (by clear e4; exact ⟨by omega, by omega⟩)
    | clear e4
    have c1_0_7 : η1 0 7 = η 0 7 := v3
    have v4 : zEq (η1 0 9) (x2) := by rw [eη1]; exact zup_eq
    have v5 : zEq (η2 0 9) (x2) := by rw [eη2]; exact (zup_ne (fun _ e => absurd e (by decide))).trans v4
    replace e5 : x5 = x2 := e5.trans v5
    replace r5 : -2147483648 ≤ x5 ∧ x5 ≤ 2147483647 := r5
    replace e6 : x6 = x2 := e6.trans v5
    replace r6 : -2147483648 ≤ x6 ∧ x6 ≤ 2147483647 := r6
    replace e7 : x7 = x2 := e7.trans v5
    replace r7 : -2147483648 ≤ x7 ∧ x7 ≤ 2147483647 := r7
    replace e8 : x8 = x2 := e8.trans v5
    replace r8 : -2147483648 ≤ x8 ∧ x8 ≤ 2147483647 := r8
    replace e9 : x9 = x2 := e9.trans v5
    replace r9 : -2147483648 ≤ x9 ∧ x9 ≤ 2147483647 := r9
    replace e10 : x10 = x2 := e10.trans v5
    replace r10 : -2147483648 ≤ x10 ∧ x10 ≤ 2147483647 := r10
    have w0_0_8 : (0 : Int) ≤ η 0 8 ∧ η 0 8 ≤ 6 := wf_ok (a := 8) (b := 8) (z := (0, 6)) hp.1 (by decide +kernel) (Nat.le_refl _) (Nat.le_refl _)
    have v7 : zEq (η1 0 8) (η 0 8) := by rw [eη1]; exact (zup_ne (fun _ e => absurd e (by decide))).trans rfl
    have v8 : zEq (η2 0 8) (η 0 8) := by rw [eη2]; exact (zup_ne (fun _ e => absurd e (by decide))).trans v7
    have c2_0_8 : η2 0 8 = η 0 8 := v8
    have v9 : ∀ j, η1 2 j = η 2 j := fun j => by rw [eη1]; exact zup_ne (fun e _ => absurd e (by decide))
    have v10 : ∀ j, η2 2 j = η 2 j := fun j => by rw [eη2]; exact (zup_ne (fun e _ => absurd e (by decide))).trans (v9 j)
    have v11 : ∀ j, η3 2 j = η 2 j := fun j => by rw [eη3]; exact (zup_ne (fun e _ => absurd e (by decide))).trans (v10 j)
    have fr2 : ∀ j, η3 2 j = η 2 j := v11
    have v12 : zEq (η2 0 7) (x4) := by rw [eη2]; exact zup_eq
    have v13 : zEq (η3 0 7) (x4) := by rw [eη3]; exact (zup_ne (fun _ e => absurd e (by decide))).trans v12
    have f0_7 : η3 0 7 = x4 := v13
    have w0_0_6 : (0 : Int) ≤ η 0 6 ∧ η 0 6 ≤ 700 := wf_ok (a := 6) (b := 6) (z := (0, 700)) hp.1 (by decide +kernel) (Nat.le_refl _) (Nat.le_refl _)
    have v15 : zEq (η1 0 6) (η 0 6) := by rw [eη1]; exact (zup_ne (fun _ e => absurd e (by decide))).trans rfl
    have v16 : zEq (η2 0 6) (η 0 6) := by rw [eη2]; exact (zup_ne (fun _ e => absurd e (by decide))).trans v15
    have v17 : zEq (η3 0 6) (η 0 6) := by rw [eη3]; exact (zup_ne (fun _ e => absurd e (by decide))).trans v16
    have f0_6 : η3 0 6 = η 0 6 := v17
    have v18 : zEq (η3 0 8) (4) := by rw [eη3]; exact zup_eq
    have f0_8 : η3 0 8 = 4 := v18
    have v19 : zEq (η3 0 9) (x2) := by rw [eη3]; exact (zup_ne (fun _ e => absurd e (by decide))).trans v5
    have f0_9 : η3 0 9 = x2 := v19
    have xx : x2 = 41 := e10.symm.trans c6
    show _ = yq_snS η
    rw [qsn_l (c := x2) (x := x4) (d := 0) (k := 4) (w := x2) (e := 0) z2 (zEq_o z4) (Or.inr (Or.inr (fun d => (by rw [xx]; rfl)))) ((by rw [xx]; rfl))]
    rw [eη3, eη2, eη1]
    rw [if_pos rfl]
    exact qsn_4
set_option maxHeartbeats 8000000 in
theorem zke_signToken_o10 {ro : Nat → List Int32} (η : zE) (hp : sP wl_ke zTr zPke_signToken [] η) (hpp : pPke_signToken [] η) : ∀ x1 : Int, x1 = η 0 (Int.toNat 7) → zok 0 x1 → ∀ x2 : Int, x2 = η 1 (Int.toNat x1) → zok 0 x2 → ∀ η1 : zE, η1 = zup η 0 (Int.toNat 9) x2 → ∀ x3 : Int, x3 = η1 0 (Int.toNat 7) → zok 0 x3 → ∀ x4 : Int, x4 = zd 0 1 x3 1 → ∀ η2 : zE, η2 = zup η1 0 (Int.toNat 7) x4 → ∀ x5 : Int, x5 = η2 0 (Int.toNat 9) → zok 0 x5 → (¬ x5 = 60) → ∀ x6 : Int, x6 = η2 0 (Int.toNat 9) → zok 0 x6 → (¬ x6 = 62) → ∀ x7 : Int, x7 = η2 0 (Int.toNat 9) → zok 0 x7 → (¬ x7 = 61) → ∀ x8 : Int, x8 = η2 0 (Int.toNat 9) → zok 0 x8 → (¬ x8 = 59) → ∀ x9 : Int, x9 = η2 0 (Int.toNat 9) → zok 0 x9 → (¬ x9 = 40) → ∀ x10 : Int, x10 = η2 0 (Int.toNat 9) → zok 0 x10 → (¬ x10 = 41) → ∀ x11 : Int, x11 = η2 0 (Int.toNat 9) → zok 0 x11 → (x11 = 43) → (¬ (1 : Int) = (0 : Int)) → ∀ η3 : zE, η3 = zup η2 0 (Int.toNat 8) 4 → (fun (_ : Nat) (y : Int) (η' : zE) => pQke_signToken [] η y η') 0 0 η3 := by
  intro x1 e1 r1 x2 e2 r2 η1 eη1 x3 e3 r3 x4 e4 η2 eη2 x5 e5 r5 c1 x6 e6 r6 c2 x7 e7 r7 c3 x8 e8 r8 c4 x9 e9 r9 c5 x10 e10 r10 c6 x11 e11 r11 c7 c8 η3 eη3
  refine yj_a ?_ ?_
  · replace e4 := zEq_i e4
    have w0_0_7 : (0 : Int) ≤ η 0 7 ∧ η 0 7 ≤ 699 := hp.2.2 _ (List.mem_of_getElem? (i := 0) rfl)
    replace e1 : x1 = η 0 7 := e1
    replace r1 : -2147483648 ≤ x1 ∧ x1 ≤ 2147483647 := r1
    replace e2 : x2 = η 1 (Int.toNat x1) := e2
    replace r2 : -2147483648 ≤ x2 ∧ x2 ≤ 2147483647 := r2
    have c0_0_9 : η 0 9 = η 0 9 := rfl
    have v3 : zEq (η1 0 7) (η 0 7) := by rw [eη1]; exact (zup_ne (fun _ e => absurd e (by decide))).trans rfl
    replace e3 : x3 = η 0 7 := e3.trans v3
    replace r3 : -2147483648 ≤ x3 ∧ x3 ≤ 2147483647 := r3
    first
    | replace e4 : x4 = x3 + 1 := zd_a2 (zEq_o e4) (by clear e4; exact ⟨by omega, by omega⟩)
    | clear e4
    have c1_0_7 : η1 0 7 = η 0 7 := v3
    have v4 : zEq (η1 0 9) (x2) := by rw [eη1]; exact zup_eq
    have v5 : zEq (η2 0 9) (x2) := by rw [eη2]; exact (zup_ne (fun _ e => absurd e (by decide))).trans v4
    replace e5 : x5 = x2 := e5.trans v5
    replace r5 : -2147483648 ≤ x5 ∧ x5 ≤ 2147483647 := r5
    replace e6 : x6 = x2 := e6.trans v5
    replace r6 : -2147483648 ≤ x6 ∧ x6 ≤ 2147483647 := r6
    replace e7 : x7 = x2 := e7.trans v5
    replace r7 : -2147483648 ≤ x7 ∧ x7 ≤ 2147483647 := r7
    replace e8 : x8 = x2 := e8.trans v5
    replace r8 : -2147483648 ≤ x8 ∧ x8 ≤ 2147483647 := r8
    replace e9 : x9 = x2 := e9.trans v5
    replace r9 : -2147483648 ≤ x9 ∧ x9 ≤ 2147483647 := r9
    replace e10 : x10 = x2 := e10.trans v5
    replace r10 : -2147483648 ≤ x10 ∧ x10 ≤ 2147483647 := r10
    replace e11 : x11 = x2 := e11.trans v5
    replace r11 : -2147483648 ≤ x11 ∧ x11 ≤ 2147483647 := r11
    have w0_0_8 : (0 : Int) ≤ η 0 8 ∧ η 0 8 ≤ 6 := wf_ok (a := 8) (b := 8) (z := (0, 6)) hp.1 (by decide +kernel) (Nat.le_refl _) (Nat.le_refl _)
    have v7 : zEq (η1 0 8) (η 0 8) := by rw [eη1]; exact (zup_ne (fun _ e => absurd e (by decide))).trans rfl
    have v8 : zEq (η2 0 8) (η 0 8) := by rw [eη2]; exact (zup_ne (fun _ e => absurd e (by decide))).trans v7
    have c2_0_8 : η2 0 8 = η 0 8 := v8
    have v9 : ∀ j, η1 2 j = η 2 j := fun j => by rw [eη1]; exact zup_ne (fun e _ => absurd e (by decide))
    have v10 : ∀ j, η2 2 j = η 2 j := fun j => by rw [eη2]; exact (zup_ne (fun e _ => absurd e (by decide))).trans (v9 j)
    have v11 : ∀ j, η3 2 j = η 2 j := fun j => by rw [eη3]; exact (zup_ne (fun e _ => absurd e (by decide))).trans (v10 j)
    have fr2 : ∀ j, η3 2 j = η 2 j := v11
    have v12 : zEq (η2 0 7) (x4) := by rw [eη2]; exact zup_eq
    have v13 : zEq (η3 0 7) (x4) := by rw [eη3]; exact (zup_ne (fun _ e => absurd e (by decide))).trans v12
    have f0_7 : η3 0 7 = x4 := v13
    have w0_0_6 : (0 : Int) ≤ η 0 6 ∧ η 0 6 ≤ 700 := wf_ok (a := 6) (b := 6) (z := (0, 700)) hp.1 (by decide +kernel) (Nat.le_refl _) (Nat.le_refl _)
    have v15 : zEq (η1 0 6) (η 0 6) := by rw [eη1]; exact (zup_ne (fun _ e => absurd e (by decide))).trans rfl
    have v16 : zEq (η2 0 6) (η 0 6) := by rw [eη2]; exact (zup_ne (fun _ e => absurd e (by decide))).trans v15
    have v17 : zEq (η3 0 6) (η 0 6) := by rw [eη3]; exact (zup_ne (fun _ e => absurd e (by decide))).trans v16
    have f0_6 : η3 0 6 = η 0 6 := v17
    have v18 : zEq (η3 0 8) (4) := by rw [eη3]; exact zup_eq
    have f0_8 : η3 0 8 = 4 := v18
    have v19 : zEq (η3 0 9) (x2) := by rw [eη3]; exact (zup_ne (fun _ e => absurd e (by decide))).trans v5
    have f0_9 : η3 0 9 = x2 := v19
    have hh : η 0 7 < η 0 6 := hpp.1
    refine ⟨gk_v f0_7 f0_6 f0_8 f0_9 fr2 hpp.2 (by omega) ?_, show η 0 7 < η3 0 7 by omega⟩
    first
    | exact k_o (by decide) (by decide)
    | exact ⟨fun h => absurd h (by decide), fun _ => ⟨by decide, by decide⟩⟩
    | exact ⟨fun _ => ⟨by omega, by omega⟩, fun h => absurd h (by decide)⟩
  · have z1 : x1 = η 0 7 := e1
    have z2 : x2 = η 1 (η 0 7).toNat := by rw [← z1]; exact e2
    have z4 : zEq x4 (zd 0 1 (η 0 7) 1) := by rw [← z1]; exact e4.trans (by rw [show x3 = x1 from e3.trans (by rw [eη1]; exact e1.symm)])
    replace e4 := zEq_i e4
    have w0_0_7 : (0 : Int) ≤ η 0 7 ∧ η 0 7 ≤ 699 := hp.2.2 _ (List.mem_of_getElem? (i := 0) rfl)
    replace e1 : x1 = η 0 7 := e1
    replace r1 : -2147483648 ≤ x1 ∧ x1 ≤ 2147483647 := r1
    replace e2 : x2 = η 1 (Int.toNat x1) := e2
    replace r2 : -2147483648 ≤ x2 ∧ x2 ≤ 2147483647 := r2
    have c0_0_9 : η 0 9 = η 0 9 := rfl
    have v3 : zEq (η1 0 7) (η 0 7) := by rw [eη1]; exact (zup_ne (fun _ e => absurd e (by decide))).trans rfl
    replace e3 : x3 = η 0 7 := e3.trans v3
    replace r3 : -2147483648 ≤ x3 ∧ x3 ≤ 2147483647 := r3
    first
    | replace e4 : x4 = x3 + 1 := zd_a2 (zEq_o e4) (by clear e4; exact ⟨by omega, by omega⟩)
    | clear e4
    have c1_0_7 : η1 0 7 = η 0 7 := v3
    have v4 : zEq (η1 0 9) (x2) := by rw [eη1]; exact zup_eq
    have v5 : zEq (η2 0 9) (x2) := by rw [eη2]; exact (zup_ne (fun _ e => absurd e (by decide))).trans v4
    replace e5 : x5 = x2 := e5.trans v5
    replace r5 : -2147483648 ≤ x5 ∧ x5 ≤ 2147483647 := r5
    replace e6 : x6 = x2 := e6.trans v5
    replace r6 : -2147483648 ≤ x6 ∧ x6 ≤ 2147483647 := r6
    replace e7 : x7 = x2 := e7.trans v5
    replace r7 : -2147483648 ≤ x7 ∧ x7 ≤ 2147483647 := r7
    replace e8 : x8 = x2 := e8.trans v5
    replace r8 : -2147483648 ≤ x8 ∧ x8 ≤ 2147483647 := r8
    replace e9 : x9 = x2 := e9.trans v5
    replace r9 : -2147483648 ≤ x9 ∧ x9 ≤ 2147483647 := r9
    replace e10 : x10 = x2 := e10.trans v5
    replace r10 : -2147483648 ≤ x10 ∧ x10 ≤ 2147483647 := r10
    replace e11 : x11 = x2 := e11.trans v5
    replace r11 : -2147483648 ≤ x11 ∧ x11 ≤ 2147483647 := r11
    have w0_0_8 : (0 : Int) ≤ η 0 8 ∧ η 0 8 ≤ 6 := wf_ok (a := 8) (b := 8) (z := (0, 6)) hp.1 (by decide +kernel) (Nat.le_refl _) (Nat.le_refl _)
    have v7 : zEq (η1 0 8) (η 0 8) := by rw [eη1]; exact (zup_ne (fun _ e => absurd e (by decide))).trans rfl
    have v8 : zEq (η2 0 8) (η 0 8) := by rw [eη2]; exact (zup_ne (fun _ e => absurd e (by decide))).trans v7
    have c2_0_8 : η2 0 8 = η 0 8 := v8
    have v9 : ∀ j, η1 2 j = η 2 j := fun j => by rw [eη1]; exact zup_ne (fun e _ => absurd e (by decide))
    have v10 : ∀ j, η2 2 j = η 2 j := fun j => by rw [eη2]; exact (zup_ne (fun e _ => absurd e (by decide))).trans (v9 j)
    have v11 : ∀ j, η3 2 j = η 2 j := fun j => by rw [eη3]; exact (zup_ne (fun e _ => absurd e (by decide))).trans (v10 j)
    have fr2 : ∀ j, η3 2 j = η 2 j := v11
    have v12 : zEq (η2 0 7) (x4) := by rw [eη2]; exact zup_eq
    have v13 : zEq (η3 0 7) (x4) := by rw [eη3]; exact (zup_ne (fun _ e => absurd e (by decide))).trans v12
    have f0_7 : η3 0 7 = x4 := v13
    have w0_0_6 : (0 : Int) ≤ η 0 6 ∧ η 0 6 ≤ 700 := wf_ok (a := 6) (b := 6) (z := (0, 700)) hp.1 (by decide +kernel) (Nat.le_refl _) (Nat.le_refl _)
    have v15 : zEq (η1 0 6) (η 0 6) := by rw [eη1]; exact (zup_ne (fun _ e => absurd e (by decide))).trans rfl
    have v16 : zEq (η2 0 6) (η 0 6) := by rw [eη2]; exact (zup_ne (fun _ e => absurd e (by decide))).trans v15
    have v17 : zEq (η3 0 6) (η 0 6) := by rw [eη3]; exact (zup_ne (fun _ e => absurd e (by decide))).trans v16
    have f0_6 : η3 0 6 = η 0 6 := v17
    have v18 : zEq (η3 0 8) (4) := by rw [eη3]; exact zup_eq
    have f0_8 : η3 0 8 = 4 := v18
    have v19 : zEq (η3 0 9) (x2) := by rw [eη3]; exact (zup_ne (fun _ e => absurd e (by decide))).trans v5
    have f0_9 : η3 0 9 = x2 := v19
    have xx : x2 = 43 := e11.symm.trans c7
    show _ = yq_snS η
    rw [qsn_l (c := x2) (x := x4) (d := 0) (k := 4) (w := x2) (e := 0) z2 (zEq_o z4) (Or.inr (Or.inr (fun d => (by rw [xx]; rfl)))) ((by rw [xx]; rfl))]
    rw [eη3, eη2, eη1]
    rw [if_pos rfl]
    exact qsn_4
set_option maxHeartbeats 8000000 in
theorem zke_signToken_o11 {ro : Nat → List Int32} (η : zE) (hp : sP wl_ke zTr zPke_signToken [] η) (hpp : pPke_signToken [] η) : ∀ x1 : Int, x1 = η 0 (Int.toNat 7) → zok 0 x1 → ∀ x2 : Int, x2 = η 1 (Int.toNat x1) → zok 0 x2 → ∀ η1 : zE, η1 = zup η 0 (Int.toNat 9) x2 → ∀ x3 : Int, x3 = η1 0 (Int.toNat 7) → zok 0 x3 → ∀ x4 : Int, x4 = zd 0 1 x3 1 → ∀ η2 : zE, η2 = zup η1 0 (Int.toNat 7) x4 → ∀ x5 : Int, x5 = η2 0 (Int.toNat 9) → zok 0 x5 → (¬ x5 = 60) → ∀ x6 : Int, x6 = η2 0 (Int.toNat 9) → zok 0 x6 → (¬ x6 = 62) → ∀ x7 : Int, x7 = η2 0 (Int.toNat 9) → zok 0 x7 → (¬ x7 = 61) → ∀ x8 : Int, x8 = η2 0 (Int.toNat 9) → zok 0 x8 → (¬ x8 = 59) → ∀ x9 : Int, x9 = η2 0 (Int.toNat 9) → zok 0 x9 → (¬ x9 = 40) → ∀ x10 : Int, x10 = η2 0 (Int.toNat 9) → zok 0 x10 → (¬ x10 = 41) → ∀ x11 : Int, x11 = η2 0 (Int.toNat 9) → zok 0 x11 → (¬ x11 = 43) → ∀ x12 : Int, x12 = η2 0 (Int.toNat 9) → zok 0 x12 → (x12 = 45) → (¬ (1 : Int) = (0 : Int)) → ∀ η3 : zE, η3 = zup η2 0 (Int.toNat 8) 4 → (fun (_ : Nat) (y : Int) (η' : zE) => pQke_signToken [] η y η') 0 0 η3 := by
  intro x1 e1 r1 x2 e2 r2 η1 eη1 x3 e3 r3 x4 e4 η2 eη2 x5 e5 r5 c1 x6 e6 r6 c2 x7 e7 r7 c3 x8 e8 r8 c4 x9 e9 r9 c5 x10 e10 r10 c6 x11 e11 r11 c7 x12 e12 r12 c8 c9 η3 eη3
  refine yj_a ?_ ?_
  · replace e4 := zEq_i e4
    have w0_0_7 : (0 : Int) ≤ η 0 7 ∧ η 0 7 ≤ 699 := hp.2.2 _ (List.mem_of_getElem? (i := 0) rfl)
    replace e1 : x1 = η 0 7 := e1
    replace r1 : -2147483648 ≤ x1 ∧ x1 ≤ 2147483647 := r1
    replace e2 : x2 = η 1 (Int.toNat x1) := e2
    replace r2 : -2147483648 ≤ x2 ∧ x2 ≤ 2147483647 := r2
    have c0_0_9 : η 0 9 = η 0 9 := rfl
    have v3 : zEq (η1 0 7) (η 0 7) := by rw [eη1]; exact (zup_ne (fun _ e => absurd e (by decide))).trans rfl
    replace e3 : x3 = η 0 7 := e3.trans v3
    replace r3 : -2147483648 ≤ x3 ∧ x3 ≤ 2147483647 := r3
    first
    | replace e4 : x4 = x3 + 1 := zd_a2 (zEq_o e4) (by clear e4; exact ⟨by omega, by omega⟩)
    | clear e4
    have c1_0_7 : η1 0 7 = η 0 7 := v3
    have v4 : zEq (η1 0 9) (x2) := by rw [eη1]; exact zup_eq
    have v5 : zEq (η2 0 9) (x2) := by rw [eη2]; exact (zup_ne (fun _ e => absurd e (by decide))).trans v4
    replace e5 : x5 = x2 := e5.trans v5
    replace r5 : -2147483648 ≤ x5 ∧ x5 ≤ 2147483647 := r5
    replace e6 : x6 = x2 := e6.trans v5
    replace r6 : -2147483648 ≤ x6 ∧ x6 ≤ 2147483647 := r6
    replace e7 : x7 = x2 := e7.trans v5
    replace r7 : -2147483648 ≤ x7 ∧ x7 ≤ 2147483647 := r7
    replace e8 : x8 = x2 := e8.trans v5
    replace r8 : -2147483648 ≤ x8 ∧ x8 ≤ 2147483647 := r8
    replace e9 : x9 = x2 := e9.trans v5
    replace r9 : -2147483648 ≤ x9 ∧ x9 ≤ 2147483647 := r9
    replace e10 : x10 = x2 := e10.trans v5
    replace r10 : -2147483648 ≤ x10 ∧ x10 ≤ 2147483647 := r10
    replace e11 : x11 = x2 := e11.trans v5
    replace r11 : -2147483648 ≤ x11 ∧ x11 ≤ 2147483647 := r11
    replace e12 : x12 = x2 := e12.trans v5
    replace r12 : -2147483648 ≤ x12 ∧ x12 ≤ 2147483647 := r12
    have w0_0_8 : (0 : Int) ≤ η 0 8 ∧ η 0 8 ≤ 6 := wf_ok (a := 8) (b := 8) (z := (0, 6)) hp.1 (by decide +kernel) (Nat.le_refl _) (Nat.le_refl _)
    have v7 : zEq (η1 0 8) (η 0 8) := by rw [eη1]; exact (zup_ne (fun _ e => absurd e (by decide))).trans rfl
    have v8 : zEq (η2 0 8) (η 0 8) := by rw [eη2]; exact (zup_ne (fun _ e => absurd e (by decide))).trans v7
    have c2_0_8 : η2 0 8 = η 0 8 := v8
    have v9 : ∀ j, η1 2 j = η 2 j := fun j => by rw [eη1]; exact zup_ne (fun e _ => absurd e (by decide))
    have v10 : ∀ j, η2 2 j = η 2 j := fun j => by rw [eη2]; exact (zup_ne (fun e _ => absurd e (by decide))).trans (v9 j)
    have v11 : ∀ j, η3 2 j = η 2 j := fun j => by rw [eη3]; exact (zup_ne (fun e _ => absurd e (by decide))).trans (v10 j)
    have fr2 : ∀ j, η3 2 j = η 2 j := v11
    have v12 : zEq (η2 0 7) (x4) := by rw [eη2]; exact zup_eq
    have v13 : zEq (η3 0 7) (x4) := by rw [eη3]; exact (zup_ne (fun _ e => absurd e (by decide))).trans v12
    have f0_7 : η3 0 7 = x4 := v13
    have w0_0_6 : (0 : Int) ≤ η 0 6 ∧ η 0 6 ≤ 700 := wf_ok (a := 6) (b := 6) (z := (0, 700)) hp.1 (by decide +kernel) (Nat.le_refl _) (Nat.le_refl _)
    have v15 : zEq (η1 0 6) (η 0 6) := by rw [eη1]; exact (zup_ne (fun _ e => absurd e (by decide))).trans rfl
    have v16 : zEq (η2 0 6) (η 0 6) := by rw [eη2]; exact (zup_ne (fun _ e => absurd e (by decide))).trans v15
    have v17 : zEq (η3 0 6) (η 0 6) := by rw [eη3]; exact (zup_ne (fun _ e => absurd e (by decide))).trans v16
    have f0_6 : η3 0 6 = η 0 6 := v17
    have v18 : zEq (η3 0 8) (4) := by rw [eη3]; exact zup_eq
    have f0_8 : η3 0 8 = 4 := v18
    have v19 : zEq (η3 0 9) (x2) := by rw [eη3]; exact (zup_ne (fun _ e => absurd e (by decide))).trans v5
    have f0_9 : η3 0 9 = x2 := v19
    have hh : η 0 7 < η 0 6 := hpp.1
    refine ⟨gk_v f0_7 f0_6 f0_8 f0_9 fr2 hpp.2 (by omega) ?_, show η 0 7 < η3 0 7 by omega⟩
    first
    | exact k_o (by decide) (by decide)
    | exact ⟨fun h => absurd h (by decide), fun _ => ⟨by decide, by decide⟩⟩
    | exact ⟨fun _ => ⟨by omega, by omega⟩, fun h => absurd h (by decide)⟩
  · have z1 : x1 = η 0 7 := e1
    have z2 : x2 = η 1 (η 0 7).toNat := by rw [← z1]; exact e2
    have z4 : zEq x4 (zd 0 1 (η 0 7) 1) := by rw [← z1]; exact e4.trans (by rw [show x3 = x1 from e3.trans (by rw [eη1]; exact e1.symm)])
    replace e4 := zEq_i e4
    have w0_0_7 : (0 : Int) ≤ η 0 7 ∧ η 0 7 ≤ 699 := hp.2.2 _ (List.mem_of_getElem? (i := 0) rfl)
    replace e1 : x1 = η 0 7 := e1
    replace r1 : -2147483648 ≤ x1 ∧ x1 ≤ 2147483647 := r1
    replace e2 : x2 = η 1 (Int.toNat x1) := e2
    replace r2 : -2147483648 ≤ x2 ∧ x2 ≤ 2147483647 := r2
    have c0_0_9 : η 0 9 = η 0 9 := rfl
    have v3 : zEq (η1 0 7) (η 0 7) := by rw [eη1]; exact (zup_ne (fun _ e => absurd e (by decide))).trans rfl
    replace e3 : x3 = η 0 7 := e3.trans v3
    replace r3 : -2147483648 ≤ x3 ∧ x3 ≤ 2147483647 := r3
    first
    | replace e4 : x4 = x3 + 1 := zd_a2 (zEq_o e4) (by clear e4; exact ⟨by omega, by omega⟩)
    | clear e4
    have c1_0_7 : η1 0 7 = η 0 7 := v3
    have v4 : zEq (η1 0 9) (x2) := by rw [eη1]; exact zup_eq
    have v5 : zEq (η2 0 9) (x2) := by rw [eη2]; exact (zup_ne (fun _ e => absurd e (by decide))).trans v4
    replace e5 : x5 = x2 := e5.trans v5
    replace r5 : -2147483648 ≤ x5 ∧ x5 ≤ 2147483647 := r5
    replace e6 : x6 = x2 := e6.trans v5
    replace r6 : -2147483648 ≤ x6 ∧ x6 ≤ 2147483647 := r6
    replace e7 : x7 = x2 := e7.trans v5
    replace r7 : -2147483648 ≤ x7 ∧ x7 ≤ 2147483647 := r7
    replace e8 : x8 = x2 := e8.trans v5
    replace r8 : -2147483648 ≤ x8 ∧ x8 ≤ 2147483647 := r8
    replace e9 : x9 = x2 := e9.trans v5
    replace r9 : -2147483648 ≤ x9 ∧ x9 ≤ 2147483647 := r9
    replace e10 : x10 = x2 := e10.trans v5
    replace r10 : -2147483648 ≤ x10 ∧ x10 ≤ 2147483647 := r10
    replace e11 : x11 = x2 := e11.trans v5
    replace r11 : -2147483648 ≤ x11 ∧ x11 ≤ 2147483647 := r11
    replace e12 : x12 = x2 := e12.trans v5
    replace r12 : -2147483648 ≤ x12 ∧ x12 ≤ 2147483647 := r12
    have w0_0_8 : (0 : Int) ≤ η 0 8 ∧ η 0 8 ≤ 6 := wf_ok (a := 8) (b := 8) (z := (0, 6)) hp.1 (by decide +kernel) (Nat.le_refl _) (Nat.le_refl _)
    have v7 : zEq (η1 0 8) (η 0 8) := by rw [eη1]; exact (zup_ne (fun _ e => absurd e (by decide))).trans rfl
    have v8 : zEq (η2 0 8) (η 0 8) := by rw [eη2]; exact (zup_ne (fun _ e => absurd e (by decide))).trans v7
    have c2_0_8 : η2 0 8 = η 0 8 := v8
    have v9 : ∀ j, η1 2 j = η 2 j := fun j => by rw [eη1]; exact zup_ne (fun e _ => absurd e (by decide))
    have v10 : ∀ j, η2 2 j = η 2 j := fun j => by rw [eη2]; exact (zup_ne (fun e _ => absurd e (by decide))).trans (v9 j)
    have v11 : ∀ j, η3 2 j = η 2 j := fun j => by rw [eη3]; exact (zup_ne (fun e _ => absurd e (by decide))).trans (v10 j)
    have fr2 : ∀ j, η3 2 j = η 2 j := v11
    have v12 : zEq (η2 0 7) (x4) := by rw [eη2]; exact zup_eq
    have v13 : zEq (η3 0 7) (x4) := by rw [eη3]; exact (zup_ne (fun _ e => absurd e (by decide))).trans v12
    have f0_7 : η3 0 7 = x4 := v13
    have w0_0_6 : (0 : Int) ≤ η 0 6 ∧ η 0 6 ≤ 700 := wf_ok (a := 6) (b := 6) (z := (0, 700)) hp.1 (by decide +kernel) (Nat.le_refl _) (Nat.le_refl _)
    have v15 : zEq (η1 0 6) (η 0 6) := by rw [eη1]; exact (zup_ne (fun _ e => absurd e (by decide))).trans rfl
    have v16 : zEq (η2 0 6) (η 0 6) := by rw [eη2]; exact (zup_ne (fun _ e => absurd e (by decide))).trans v15
    have v17 : zEq (η3 0 6) (η 0 6) := by rw [eη3]; exact (zup_ne (fun _ e => absurd e (by decide))).trans v16
    have f0_6 : η3 0 6 = η 0 6 := v17
    have v18 : zEq (η3 0 8) (4) := by rw [eη3]; exact zup_eq
    have f0_8 : η3 0 8 = 4 := v18
    have v19 : zEq (η3 0 9) (x2) := by rw [eη3]; exact (zup_ne (fun _ e => absurd e (by decide))).trans v5
    have f0_9 : η3 0 9 = x2 := v19
    have xx : x2 = 45 := e12.symm.trans c8
    show _ = yq_snS η
    rw [qsn_l (c := x2) (x := x4) (d := 0) (k := 4) (w := x2) (e := 0) z2 (zEq_o z4) (Or.inr (Or.inr (fun d => (by rw [xx]; rfl)))) ((by rw [xx]; rfl))]
    rw [eη3, eη2, eη1]
    rw [if_pos rfl]
    exact qsn_4
set_option maxHeartbeats 8000000 in
theorem zke_signToken_o12 {ro : Nat → List Int32} (η : zE) (hp : sP wl_ke zTr zPke_signToken [] η) (hpp : pPke_signToken [] η) : ∀ x1 : Int, x1 = η 0 (Int.toNat 7) → zok 0 x1 → ∀ x2 : Int, x2 = η 1 (Int.toNat x1) → zok 0 x2 → ∀ η1 : zE, η1 = zup η 0 (Int.toNat 9) x2 → ∀ x3 : Int, x3 = η1 0 (Int.toNat 7) → zok 0 x3 → ∀ x4 : Int, x4 = zd 0 1 x3 1 → ∀ η2 : zE, η2 = zup η1 0 (Int.toNat 7) x4 → ∀ x5 : Int, x5 = η2 0 (Int.toNat 9) → zok 0 x5 → (¬ x5 = 60) → ∀ x6 : Int, x6 = η2 0 (Int.toNat 9) → zok 0 x6 → (¬ x6 = 62) → ∀ x7 : Int, x7 = η2 0 (Int.toNat 9) → zok 0 x7 → (¬ x7 = 61) → ∀ x8 : Int, x8 = η2 0 (Int.toNat 9) → zok 0 x8 → (¬ x8 = 59) → ∀ x9 : Int, x9 = η2 0 (Int.toNat 9) → zok 0 x9 → (¬ x9 = 40) → ∀ x10 : Int, x10 = η2 0 (Int.toNat 9) → zok 0 x10 → (¬ x10 = 41) → ∀ x11 : Int, x11 = η2 0 (Int.toNat 9) → zok 0 x11 → (¬ x11 = 43) → ∀ x12 : Int, x12 = η2 0 (Int.toNat 9) → zok 0 x12 → (¬ x12 = 45) → ∀ x13 : Int, x13 = η2 0 (Int.toNat 9) → zok 0 x13 → (x13 = 42) → (¬ (1 : Int) = (0 : Int)) → ∀ η3 : zE, η3 = zup η2 0 (Int.toNat 8) 4 → (fun (_ : Nat) (y : Int) (η' : zE) => pQke_signToken [] η y η') 0 0 η3 := by
  intro x1 e1 r1 x2 e2 r2 η1 eη1 x3 e3 r3 x4 e4 η2 eη2 x5 e5 r5 c1 x6 e6 r6 c2 x7 e7 r7 c3 x8 e8 r8 c4 x9 e9 r9 c5 x10 e10 r10 c6 x11 e11 r11 c7 x12 e12 r12 c8 x13 e13 r13 c9 c10 η3 eη3
  refine yj_a ?_ ?_
  · replace e4 := zEq_i e4
    have w0_0_7 : (0 : Int) ≤ η 0 7 ∧ η 0 7 ≤ 699 := hp.2.2 _ (List.mem_of_getElem? (i := 0) rfl)
    replace e1 : x1 = η 0 7 := e1
    replace r1 : -2147483648 ≤ x1 ∧ x1 ≤ 2147483647 := r1
    replace e2 : x2 = η 1 (Int.toNat x1) := e2
    replace r2 : -2147483648 ≤ x2 ∧ x2 ≤ 2147483647 := r2
    have c0_0_9 : η 0 9 = η 0 9 := rfl
    have v3 : zEq (η1 0 7) (η 0 7) := by rw [eη1]; exact (zup_ne (fun _ e => absurd e (by decide))).trans rfl
    replace e3 : x3 = η 0 7 := e3.trans v3
    replace r3 : -2147483648 ≤ x3 ∧ x3 ≤ 2147483647 := r3
    first
    | replace e4 : x4 = x3 + 1 := zd_a2 (zEq_o e4) (by clear e4; exact ⟨by omega, by omega⟩)
    | clear e4
    have c1_0_7 : η1 0 7 = η 0 7 := v3
    have v4 : zEq (η1 0 9) (x2) := by rw [eη1]; exact zup_eq
    have v5 : zEq (η2 0 9) (x2) := by rw [eη2]; exact (zup_ne (fun _ e => absurd e (by decide))).trans v4
    replace e5 : x5 = x2 := e5.trans v5
    replace r5 : -2147483648 ≤ x5 ∧ x5 ≤ 2147483647 := r5
    replace e6 : x6 = x2 := e6.trans v5
    replace r6 : -2147483648 ≤ x6 ∧ x6 ≤ 2147483647 := r6
    replace e7 : x7 = x2 := e7.trans v5
    replace r7 : -2147483648 ≤ x7 ∧ x7 ≤ 2147483647 := r7
    replace e8 : x8 = x2 := e8.trans v5
    replace r8 : -2147483648 ≤ x8 ∧ x8 ≤ 2147483647 := r8
    replace e9 : x9 = x2 := e9.trans v5
    replace r9 : -2147483648 ≤ x9 ∧ x9 ≤ 2147483647 := r9
    replace e10 : x10 = x2 := e10.trans v5
    replace r10 : -2147483648 ≤ x10 ∧ x10 ≤ 2147483647 := r10
    replace e11 : x11 = x2 := e11.trans v5
    replace r11 : -2147483648 ≤ x11 ∧ x11 ≤ 2147483647 := r11
    replace e12 : x12 = x2 := e12.trans v5
    replace r12 : -2147483648 ≤ x12 ∧ x12 ≤ 2147483647 := r12
    replace e13 : x13 = x2 := e13.trans v5
    replace r13 : -2147483648 ≤ x13 ∧ x13 ≤ 2147483647 := r13
    have w0_0_8 : (0 : Int) ≤ η 0 8 ∧ η 0 8 ≤ 6 := wf_ok (a := 8) (b := 8) (z := (0, 6)) hp.1 (by decide +kernel) (Nat.le_refl _) (Nat.le_refl _)
    have v7 : zEq (η1 0 8) (η 0 8) := by rw [eη1]; exact (zup_ne (fun _ e => absurd e (by decide))).trans rfl
    have v8 : zEq (η2 0 8) (η 0 8) := by rw [eη2]; exact (zup_ne (fun _ e => absurd e (by decide))).trans v7
    have c2_0_8 : η2 0 8 = η 0 8 := v8
    have v9 : ∀ j, η1 2 j = η 2 j := fun j => by rw [eη1]; exact zup_ne (fun e _ => absurd e (by decide))
    have v10 : ∀ j, η2 2 j = η 2 j := fun j => by rw [eη2]; exact (zup_ne (fun e _ => absurd e (by decide))).trans (v9 j)
    have v11 : ∀ j, η3 2 j = η 2 j := fun j => by rw [eη3]; exact (zup_ne (fun e _ => absurd e (by decide))).trans (v10 j)
    have fr2 : ∀ j, η3 2 j = η 2 j := v11
    have v12 : zEq (η2 0 7) (x4) := by rw [eη2]; exact zup_eq
    have v13 : zEq (η3 0 7) (x4) := by rw [eη3]; exact (zup_ne (fun _ e => absurd e (by decide))).trans v12
    have f0_7 : η3 0 7 = x4 := v13
    have w0_0_6 : (0 : Int) ≤ η 0 6 ∧ η 0 6 ≤ 700 := wf_ok (a := 6) (b := 6) (z := (0, 700)) hp.1 (by decide +kernel) (Nat.le_refl _) (Nat.le_refl _)
    have v15 : zEq (η1 0 6) (η 0 6) := by rw [eη1]; exact (zup_ne (fun _ e => absurd e (by decide))).trans rfl
    have v16 : zEq (η2 0 6) (η 0 6) := by rw [eη2]; exact (zup_ne (fun _ e => absurd e (by decide))).trans v15
    have v17 : zEq (η3 0 6) (η 0 6) := by rw [eη3]; exact (zup_ne (fun _ e => absurd e (by decide))).trans v16
    have f0_6 : η3 0 6 = η 0 6 := v17
    have v18 : zEq (η3 0 8) (4) := by rw [eη3]; exact zup_eq
    have f0_8 : η3 0 8 = 4 := v18
    have v19 : zEq (η3 0 9) (x2) := by rw [eη3]; exact (zup_ne (fun _ e => absurd e (by decide))).trans v5
    have f0_9 : η3 0 9 = x2 := v19
    have hh : η 0 7 < η 0 6 := hpp.1
    refine ⟨gk_v f0_7 f0_6 f0_8 f0_9 fr2 hpp.2 (by omega) ?_, show η 0 7 < η3 0 7 by omega⟩
    first
    | exact k_o (by decide) (by decide)
    | exact ⟨fun h => absurd h (by decide), fun _ => ⟨by decide, by decide⟩⟩
    | exact ⟨fun _ => ⟨by omega, by omega⟩, fun h => absurd h (by decide)⟩
  · have z1 : x1 = η 0 7 := e1
    have z2 : x2 = η 1 (η 0 7).toNat := by rw [← z1]; exact e2
    have z4 : zEq x4 (zd 0 1 (η 0 7) 1) := by rw [← z1]; exact e4.trans (by rw [show x3 = x1 from e3.trans (by rw [eη1]; exact e1.symm)])
    replace e4 := zEq_i e4
    have w0_0_7 : (0 : Int) ≤ η 0 7 ∧ η 0 7 ≤ 699 := hp.2.2 _ (List.mem_of_getElem? (i := 0) rfl)
    replace e1 : x1 = η 0 7 := e1
    replace r1 : -2147483648 ≤ x1 ∧ x1 ≤ 2147483647 := r1
    replace e2 : x2 = η 1 (Int.toNat x1) := e2
    replace r2 : -2147483648 ≤ x2 ∧ x2 ≤ 2147483647 := r2
    have c0_0_9 : η 0 9 = η 0 9 := rfl
    have v3 : zEq (η1 0 7) (η 0 7) := by rw [eη1]; exact (zup_ne (fun _ e => absurd e (by decide))).trans rfl
    replace e3 : x3 = η 0 7 := e3.trans v3
    replace r3 : -2147483648 ≤ x3 ∧ x3 ≤ 2147483647 := r3
    first
    | replace e4 : x4 = x3 + 1 := zd_a2 (zEq_o e4) (by clear e4; exact ⟨by omega, by omega⟩)
    | clear e4
    have c1_0_7 : η1 0 7 = η 0 7 := v3
    have v4 : zEq (η1 0 9) (x2) := by rw [eη1]; exact zup_eq
    have v5 : zEq (η2 0 9) (x2) := by rw [eη2]; exact (zup_ne (fun _ e => absurd e (by decide))).trans v4
    replace e5 : x5 = x2 := e5.trans v5
    replace r5 : -2147483648 ≤ x5 ∧ x5 ≤ 2147483647 := r5
    replace e6 : x6 = x2 := e6.trans v5
    replace r6 : -2147483648 ≤ x6 ∧ x6 ≤ 2147483647 := r6
    replace e7 : x7 = x2 := e7.trans v5
    replace r7 : -2147483648 ≤ x7 ∧ x7 ≤ 2147483647 := r7
    replace e8 : x8 = x2 := e8.trans v5
    replace r8 : -2147483648 ≤ x8 ∧ x8 ≤ 2147483647 := r8
    replace e9 : x9 = x2 := e9.trans v5
    replace r9 : -2147483648 ≤ x9 ∧ x9 ≤ 2147483647 := r9
    replace e10 : x10 = x2 := e10.trans v5
    replace r10 : -2147483648 ≤ x10 ∧ x10 ≤ 2147483647 := r10
    replace e11 : x11 = x2 := e11.trans v5
    replace r11 : -2147483648 ≤ x11 ∧ x11 ≤ 2147483647 := r11
    replace e12 : x12 = x2 := e12.trans v5
    replace r12 : -2147483648 ≤ x12 ∧ x12 ≤ 2147483647 := r12
    replace e13 : x13 = x2 := e13.trans v5
    replace r13 : -2147483648 ≤ x13 ∧ x13 ≤ 2147483647 := r13
    have w0_0_8 : (0 : Int) ≤ η 0 8 ∧ η 0 8 ≤ 6 := wf_ok (a := 8) (b := 8) (z := (0, 6)) hp.1 (by decide +kernel) (Nat.le_refl _) (Nat.le_refl _)
    have v7 : zEq (η1 0 8) (η 0 8) := by rw [eη1]; exact (zup_ne (fun _ e => absurd e (by decide))).trans rfl
    have v8 : zEq (η2 0 8) (η 0 8) := by rw [eη2]; exact (zup_ne (fun _ e => absurd e (by decide))).trans v7
    have c2_0_8 : η2 0 8 = η 0 8 := v8
    have v9 : ∀ j, η1 2 j = η 2 j := fun j => by rw [eη1]; exact zup_ne (fun e _ => absurd e (by decide))
    have v10 : ∀ j, η2 2 j = η 2 j := fun j => by rw [eη2]; exact (zup_ne (fun e _ => absurd e (by decide))).trans (v9 j)
    have v11 : ∀ j, η3 2 j = η 2 j := fun j => by rw [eη3]; exact (zup_ne (fun e _ => absurd e (by decide))).trans (v10 j)
    have fr2 : ∀ j, η3 2 j = η 2 j := v11
    have v12 : zEq (η2 0 7) (x4) := by rw [eη2]; exact zup_eq
    have v13 : zEq (η3 0 7) (x4) := by rw [eη3]; exact (zup_ne (fun _ e => absurd e (by decide))).trans v12
    have f0_7 : η3 0 7 = x4 := v13
    have w0_0_6 : (0 : Int) ≤ η 0 6 ∧ η 0 6 ≤ 700 := wf_ok (a := 6) (b := 6) (z := (0, 700)) hp.1 (by decide +kernel) (Nat.le_refl _) (Nat.le_refl _)
    have v15 : zEq (η1 0 6) (η 0 6) := by rw [eη1]; exact (zup_ne (fun _ e => absurd e (by decide))).trans rfl
    have v16 : zEq (η2 0 6) (η 0 6) := by rw [eη2]; exact (zup_ne (fun _ e => absurd e (by decide))).trans v15
    have v17 : zEq (η3 0 6) (η 0 6) := by rw [eη3]; exact (zup_ne (fun _ e => absurd e (by decide))).trans v16
    have f0_6 : η3 0 6 = η 0 6 := v17
    have v18 : zEq (η3 0 8) (4) := by rw [eη3]; exact zup_eq
    have f0_8 : η3 0 8 = 4 := v18
    have v19 : zEq (η3 0 9) (x2) := by rw [eη3]; exact (zup_ne (fun _ e => absurd e (by decide))).trans v5
    have f0_9 : η3 0 9 = x2 := v19
    have xx : x2 = 42 := e13.symm.trans c9
    show _ = yq_snS η
    rw [qsn_l (c := x2) (x := x4) (d := 0) (k := 4) (w := x2) (e := 0) z2 (zEq_o z4) (Or.inr (Or.inr (fun d => (by rw [xx]; rfl)))) ((by rw [xx]; rfl))]
    rw [eη3, eη2, eη1]
    rw [if_pos rfl]
    exact qsn_4
set_option maxHeartbeats 8000000 in
theorem zke_signToken_o13 {ro : Nat → List Int32} (η : zE) (hp : sP wl_ke zTr zPke_signToken [] η) (hpp : pPke_signToken [] η) : ∀ x1 : Int, x1 = η 0 (Int.toNat 7) → zok 0 x1 → ∀ x2 : Int, x2 = η 1 (Int.toNat x1) → zok 0 x2 → ∀ η1 : zE, η1 = zup η 0 (Int.toNat 9) x2 → ∀ x3 : Int, x3 = η1 0 (Int.toNat 7) → zok 0 x3 → ∀ x4 : Int, x4 = zd 0 1 x3 1 → ∀ η2 : zE, η2 = zup η1 0 (Int.toNat 7) x4 → ∀ x5 : Int, x5 = η2 0 (Int.toNat 9) → zok 0 x5 → (¬ x5 = 60) → ∀ x6 : Int, x6 = η2 0 (Int.toNat 9) → zok 0 x6 → (¬ x6 = 62) → ∀ x7 : Int, x7 = η2 0 (Int.toNat 9) → zok 0 x7 → (¬ x7 = 61) → ∀ x8 : Int, x8 = η2 0 (Int.toNat 9) → zok 0 x8 → (¬ x8 = 59) → ∀ x9 : Int, x9 = η2 0 (Int.toNat 9) → zok 0 x9 → (¬ x9 = 40) → ∀ x10 : Int, x10 = η2 0 (Int.toNat 9) → zok 0 x10 → (¬ x10 = 41) → ∀ x11 : Int, x11 = η2 0 (Int.toNat 9) → zok 0 x11 → (¬ x11 = 43) → ∀ x12 : Int, x12 = η2 0 (Int.toNat 9) → zok 0 x12 → (¬ x12 = 45) → ∀ x13 : Int, x13 = η2 0 (Int.toNat 9) → zok 0 x13 → (¬ x13 = 42) → ∀ x14 : Int, x14 = η2 0 (Int.toNat 9) → zok 0 x14 → (x14 = 47) → (¬ (1 : Int) = (0 : Int)) → ∀ η3 : zE, η3 = zup η2 0 (Int.toNat 8) 4 → (fun (_ : Nat) (y : Int) (η' : zE) => pQke_signToken [] η y η') 0 0 η3 := by
  intro x1 e1 r1 x2 e2 r2 η1 eη1 x3 e3 r3 x4 e4 η2 eη2 x5 e5 r5 c1 x6 e6 r6 c2 x7 e7 r7 c3 x8 e8 r8 c4 x9 e9 r9 c5 x10 e10 r10 c6 x11 e11 r11 c7 x12 e12 r12 c8 x13 e13 r13 c9 x14 e14 r14 c10 c11 η3 eη3
  refine yj_a ?_ ?_
  · replace e4 := zEq_i e4
    have w0_0_7 : (0 : Int) ≤ η 0 7 ∧ η 0 7 ≤ 699 := hp.2.2 _ (List.mem_of_getElem? (i := 0) rfl)
    replace e1 : x1 = η 0 7 := e1
    replace r1 : -2147483648 ≤ x1 ∧ x1 ≤ 2147483647 := r1
    replace e2 : x2 = η 1 (Int.toNat x1) := e2
    replace r2 : -2147483648 ≤ x2 ∧ x2 ≤ 2147483647 := r2
    have c0_0_9 : η 0 9 = η 0 9 := rfl
    have v3 : zEq (η1 0 7) (η 0 7) := by rw [eη1]; exact (zup_ne (fun _ e => absurd e (by decide))).trans rfl
    replace e3 : x3 = η 0 7 := e3.trans v3
    replace r3 : -2147483648 ≤ x3 ∧ x3 ≤ 2147483647 := r3
    first
    | replace e4 : x4 = x3 + 1 := zd_a2 (zEq_o e4) (by clear e4; exact ⟨by omega, by omega⟩)
    | clear e4
    have c1_0_7 : η1 0 7 = η 0 7 := v3
    have v4 : zEq (η1 0 9) (x2) := by rw [eη1]; exact zup_eq
    have v5 : zEq (η2 0 9) (x2) := by rw [eη2]; exact (zup_ne (fun _ e => absurd e (by decide))).trans v4
    replace e5 : x5 = x2 := e5.trans v5
    replace r5 : -2147483648 ≤ x5 ∧ x5 ≤ 2147483647 := r5
    replace e6 : x6 = x2 := e6.trans v5
    replace r6 : -2147483648 ≤ x6 ∧ x6 ≤ 2147483647 := r6
    replace e7 : x7 = x2 := e7.trans v5
    replace r7 : -2147483648 ≤ x7 ∧ x7 ≤ 2147483647 := r7
    replace e8 : x8 = x2 := e8.trans v5
    replace r8 : -2147483648 ≤ x8 ∧ x8 ≤ 2147483647 := r8
    replace e9 : x9 = x2 := e9.trans v5
    replace r9 : -2147483648 ≤ x9 ∧ x9 ≤ 2147483647 := r9
    replace e10 : x10 = x2 := e10.trans v5
    replace r10 : -2147483648 ≤ x10 ∧ x10 ≤ 2147483647 := r10
    replace e11 : x11 = x2 := e11.trans v5
    replace r11 : -2147483648 ≤ x11 ∧ x11 ≤ 2147483647 := r11
    replace e12 : x12 = x2 := e12.trans v5
    replace r12 : -2147483648 ≤ x12 ∧ x12 ≤ 2147483647 := r12
    replace e13 : x13 = x2 := e13.trans v5
    replace r13 : -2147483648 ≤ x13 ∧ x13 ≤ 2147483647 := r13
    replace e14 : x14 = x2 := e14.trans v5
    replace r14 : -2147483648 ≤ x14 ∧ x14 ≤ 2147483647 := r14
    have w0_0_8 : (0 : Int) ≤ η 0 8 ∧ η 0 8 ≤ 6 := wf_ok (a := 8) (b := 8) (z := (0, 6)) hp.1 (by decide +kernel) (Nat.le_refl _) (Nat.le_refl _)
    have v7 : zEq (η1 0 8) (η 0 8) := by rw [eη1]; exact (zup_ne (fun _ e => absurd e (by decide))).trans rfl
    have v8 : zEq (η2 0 8) (η 0 8) := by rw [eη2]; exact (zup_ne (fun _ e => absurd e (by decide))).trans v7
    have c2_0_8 : η2 0 8 = η 0 8 := v8
    have v9 : ∀ j, η1 2 j = η 2 j := fun j => by rw [eη1]; exact zup_ne (fun e _ => absurd e (by decide))
    have v10 : ∀ j, η2 2 j = η 2 j := fun j => by rw [eη2]; exact (zup_ne (fun e _ => absurd e (by decide))).trans (v9 j)
    have v11 : ∀ j, η3 2 j = η 2 j := fun j => by rw [eη3]; exact (zup_ne (fun e _ => absurd e (by decide))).trans (v10 j)
    have fr2 : ∀ j, η3 2 j = η 2 j := v11
    have v12 : zEq (η2 0 7) (x4) := by rw [eη2]; exact zup_eq
    have v13 : zEq (η3 0 7) (x4) := by rw [eη3]; exact (zup_ne (fun _ e => absurd e (by decide))).trans v12
    have f0_7 : η3 0 7 = x4 := v13
    have w0_0_6 : (0 : Int) ≤ η 0 6 ∧ η 0 6 ≤ 700 := wf_ok (a := 6) (b := 6) (z := (0, 700)) hp.1 (by decide +kernel) (Nat.le_refl _) (Nat.le_refl _)
    have v15 : zEq (η1 0 6) (η 0 6) := by rw [eη1]; exact (zup_ne (fun _ e => absurd e (by decide))).trans rfl
    have v16 : zEq (η2 0 6) (η 0 6) := by rw [eη2]; exact (zup_ne (fun _ e => absurd e (by decide))).trans v15
    have v17 : zEq (η3 0 6) (η 0 6) := by rw [eη3]; exact (zup_ne (fun _ e => absurd e (by decide))).trans v16
    have f0_6 : η3 0 6 = η 0 6 := v17
    have v18 : zEq (η3 0 8) (4) := by rw [eη3]; exact zup_eq
    have f0_8 : η3 0 8 = 4 := v18
    have v19 : zEq (η3 0 9) (x2) := by rw [eη3]; exact (zup_ne (fun _ e => absurd e (by decide))).trans v5
    have f0_9 : η3 0 9 = x2 := v19
    have hh : η 0 7 < η 0 6 := hpp.1
    refine ⟨gk_v f0_7 f0_6 f0_8 f0_9 fr2 hpp.2 (by omega) ?_, show η 0 7 < η3 0 7 by omega⟩
    first
    | exact k_o (by decide) (by decide)
    | exact ⟨fun h => absurd h (by decide), fun _ => ⟨by decide, by decide⟩⟩
    | exact ⟨fun _ => ⟨by omega, by omega⟩, fun h => absurd h (by decide)⟩
  · have z1 : x1 = η 0 7 := e1
    have z2 : x2 = η 1 (η 0 7).toNat := by rw [← z1]; exact e2
    have z4 : zEq x4 (zd 0 1 (η 0 7) 1) := by rw [← z1]; exact e4.trans (by rw [show x3 = x1 from e3.trans (by rw [eη1]; exact e1.symm)])
    replace e4 := zEq_i e4
    have w0_0_7 : (0 : Int) ≤ η 0 7 ∧ η 0 7 ≤ 699 := hp.2.2 _ (List.mem_of_getElem? (i := 0) rfl)
    replace e1 : x1 = η 0 7 := e1
    replace r1 : -2147483648 ≤ x1 ∧ x1 ≤ 2147483647 := r1
    replace e2 : x2 = η 1 (Int.toNat x1) := e2
    replace r2 : -2147483648 ≤ x2 ∧ x2 ≤ 2147483647 := r2
    have c0_0_9 : η 0 9 = η 0 9 := rfl
    have v3 : zEq (η1 0 7) (η 0 7) := by rw [eη1]; exact (zup_ne (fun _ e => absurd e (by decide))).trans rfl
    replace e3 : x3 = η 0 7 := e3.trans v3
    replace r3 : -2147483648 ≤ x3 ∧ x3 ≤ 2147483647 := r3
    first
    | replace e4 : x4 = x3 + 1 := zd_a2 (zEq_o e4) (by clear e4; exact ⟨by omega, by omega⟩)
    | clear e4
    have c1_0_7 : η1 0 7 = η 0 7 := v3
    have v4 : zEq (η1 0 9) (x2) := by rw [eη1]; exact zup_eq
    have v5 : zEq (η2 0 9) (x2) := by rw [eη2]; exact (zup_ne (fun _ e => absurd e (by decide))).trans v4
    replace e5 : x5 = x2 := e5.trans v5
    replace r5 : -2147483648 ≤ x5 ∧ x5 ≤ 2147483647 := r5
    replace e6 : x6 = x2 := e6.trans v5
    replace r6 : -2147483648 ≤ x6 ∧ x6 ≤ 2147483647 := r6
    replace e7 : x7 = x2 := e7.trans v5
    replace r7 : -2147483648 ≤ x7 ∧ x7 ≤ 2147483647 := r7
    replace e8 : x8 = x2 := e8.trans v5
    replace r8 : -2147483648 ≤ x8 ∧ x8 ≤ 2147483647 := r8
    replace e9 : x9 = x2 := e9.trans v5
    replace r9 : -2147483648 ≤ x9 ∧ x9 ≤ 2147483647 := r9
    replace e10 : x10 = x2 := e10.trans v5
    replace r10 : -2147483648 ≤ x10 ∧ x10 ≤ 2147483647 := r10
    replace e11 : x11 = x2 := e11.trans v5
    replace r11 : -2147483648 ≤ x11 ∧ x11 ≤ 2147483647 := r11
    replace e12 : x12 = x2 := e12.trans v5
    replace r12 : -2147483648 ≤ x12 ∧ x12 ≤ 2147483647 := r12
    replace e13 : x13 = x2 := e13.trans v5
    replace r13 : -2147483648 ≤ x13 ∧ x13 ≤ 2147483647 := r13
    replace e14 : x14 = x2 := e14.trans v5
    replace r14 : -2147483648 ≤ x14 ∧ x14 ≤ 2147483647 := r14
    have w0_0_8 : (0 : Int) ≤ η 0 8 ∧ η 0 8 ≤ 6 := wf_ok (a := 8) (b := 8) (z := (0, 6)) hp.1 (by decide +kernel) (Nat.le_refl _) (Nat.le_refl _)
    have v7 : zEq (η1 0 8) (η 0 8) := by rw [eη1]; exact (zup_ne (fun _ e => absurd e (by decide))).trans rfl
    have v8 : zEq (η2 0 8) (η 0 8) := by rw [eη2]; exact (zup_ne (fun _ e => absurd e (by decide))).trans v7
    have c2_0_8 : η2 0 8 = η 0 8 := v8
    have v9 : ∀ j, η1 2 j = η 2 j := fun j => by rw [eη1]; exact zup_ne (fun e _ => absurd e (by decide))
    have v10 : ∀ j, η2 2 j = η 2 j := fun j => by rw [eη2]; exact (zup_ne (fun e _ => absurd e (by decide))).trans (v9 j)
    have v11 : ∀ j, η3 2 j = η 2 j := fun j => by rw [eη3]; exact (zup_ne (fun e _ => absurd e (by decide))).trans (v10 j)
    have fr2 : ∀ j, η3 2 j = η 2 j := v11
    have v12 : zEq (η2 0 7) (x4) := by rw [eη2]; exact zup_eq
    have v13 : zEq (η3 0 7) (x4) := by rw [eη3]; exact (zup_ne (fun _ e => absurd e (by decide))).trans v12
    have f0_7 : η3 0 7 = x4 := v13
    have w0_0_6 : (0 : Int) ≤ η 0 6 ∧ η 0 6 ≤ 700 := wf_ok (a := 6) (b := 6) (z := (0, 700)) hp.1 (by decide +kernel) (Nat.le_refl _) (Nat.le_refl _)
    have v15 : zEq (η1 0 6) (η 0 6) := by rw [eη1]; exact (zup_ne (fun _ e => absurd e (by decide))).trans rfl
    have v16 : zEq (η2 0 6) (η 0 6) := by rw [eη2]; exact (zup_ne (fun _ e => absurd e (by decide))).trans v15
    have v17 : zEq (η3 0 6) (η 0 6) := by rw [eη3]; exact (zup_ne (fun _ e => absurd e (by decide))).trans v16
    have f0_6 : η3 0 6 = η 0 6 := v17
    have v18 : zEq (η3 0 8) (4) := by rw [eη3]; exact zup_eq
    have f0_8 : η3 0 8 = 4 := v18
    have v19 : zEq (η3 0 9) (x2) := by rw [eη3]; exact (zup_ne (fun _ e => absurd e (by decide))).trans v5
    have f0_9 : η3 0 9 = x2 := v19
    have xx : x2 = 47 := e14.symm.trans c10
    show _ = yq_snS η
    rw [qsn_l (c := x2) (x := x4) (d := 0) (k := 4) (w := x2) (e := 0) z2 (zEq_o z4) (Or.inr (Or.inr (fun d => (by rw [xx]; rfl)))) ((by rw [xx]; rfl))]
    rw [eη3, eη2, eη1]
    rw [if_pos rfl]
    exact qsn_4
set_option maxHeartbeats 8000000 in
theorem zke_signToken_o14 {ro : Nat → List Int32} (η : zE) (hp : sP wl_ke zTr zPke_signToken [] η) (hpp : pPke_signToken [] η) : ∀ x1 : Int, x1 = η 0 (Int.toNat 7) → zok 0 x1 → ∀ x2 : Int, x2 = η 1 (Int.toNat x1) → zok 0 x2 → ∀ η1 : zE, η1 = zup η 0 (Int.toNat 9) x2 → ∀ x3 : Int, x3 = η1 0 (Int.toNat 7) → zok 0 x3 → ∀ x4 : Int, x4 = zd 0 1 x3 1 → ∀ η2 : zE, η2 = zup η1 0 (Int.toNat 7) x4 → ∀ x5 : Int, x5 = η2 0 (Int.toNat 9) → zok 0 x5 → (¬ x5 = 60) → ∀ x6 : Int, x6 = η2 0 (Int.toNat 9) → zok 0 x6 → (¬ x6 = 62) → ∀ x7 : Int, x7 = η2 0 (Int.toNat 9) → zok 0 x7 → (¬ x7 = 61) → ∀ x8 : Int, x8 = η2 0 (Int.toNat 9) → zok 0 x8 → (¬ x8 = 59) → ∀ x9 : Int, x9 = η2 0 (Int.toNat 9) → zok 0 x9 → (¬ x9 = 40) → ∀ x10 : Int, x10 = η2 0 (Int.toNat 9) → zok 0 x10 → (¬ x10 = 41) → ∀ x11 : Int, x11 = η2 0 (Int.toNat 9) → zok 0 x11 → (¬ x11 = 43) → ∀ x12 : Int, x12 = η2 0 (Int.toNat 9) → zok 0 x12 → (¬ x12 = 45) → ∀ x13 : Int, x13 = η2 0 (Int.toNat 9) → zok 0 x13 → (¬ x13 = 42) → ∀ x14 : Int, x14 = η2 0 (Int.toNat 9) → zok 0 x14 → (¬ x14 = 47) → ∀ x15 : Int, x15 = η2 0 (Int.toNat 9) → zok 0 x15 → (¬ x15 = 37) → ((0 : Int) = (0 : Int)) → ∀ η3 : zE, η3 = zup η2 0 (Int.toNat 8) 6 → (fun (_ : Nat) (y : Int) (η' : zE) => pQke_signToken [] η y η') 0 0 η3 := by
  intro x1 e1 r1 x2 e2 r2 η1 eη1 x3 e3 r3 x4 e4 η2 eη2 x5 e5 r5 c1 x6 e6 r6 c2 x7 e7 r7 c3 x8 e8 r8 c4 x9 e9 r9 c5 x10 e10 r10 c6 x11 e11 r11 c7 x12 e12 r12 c8 x13 e13 r13 c9 x14 e14 r14 c10 x15 e15 r15 c11 c12 η3 eη3
  refine yj_a ?_ ?_
  · replace e4 := zEq_i e4
    have w0_0_7 : (0 : Int) ≤ η 0 7 ∧ η 0 7 ≤ 699 := hp.2.2 _ (List.mem_of_getElem? (i := 0) rfl)
    replace e1 : x1 = η 0 7 := e1
    replace r1 : -2147483648 ≤ x1 ∧ x1 ≤ 2147483647 := r1
    replace e2 : x2 = η 1 (Int.toNat x1) := e2
    replace r2 : -2147483648 ≤ x2 ∧ x2 ≤ 2147483647 := r2
    have c0_0_9 : η 0 9 = η 0 9 := rfl
    have v3 : zEq (η1 0 7) (η 0 7) := by rw [eη1]; exact (zup_ne (fun _ e => absurd e (by decide))).trans rfl
    replace e3 : x3 = η 0 7 := e3.trans v3
    replace r3 : -2147483648 ≤ x3 ∧ x3 ≤ 2147483647 := r3
    first
    | replace e4 : x4 = x3 + 1 := zd_a2 (zEq_o e4) (by clear e4; exact ⟨by omega, by omega⟩)
    | clear e4
    have c1_0_7 : η1 0 7 = η 0 7 := v3
    have v4 : zEq (η1 0 9) (x2) := by rw [eη1]; exact zup_eq
    have v5 : zEq (η2 0 9) (x2) := by rw [eη2]; exact (zup_ne (fun _ e => absurd e (by decide))).trans v4
    replace e5 : x5 = x2 := e5.trans v5
    replace r5 : -2147483648 ≤ x5 ∧ x5 ≤ 2147483647 := r5
    replace e6 : x6 = x2 := e6.trans v5
    replace r6 : -2147483648 ≤ x6 ∧ x6 ≤ 2147483647 := r6
    replace e7 : x7 = x2 := e7.trans v5
    replace r7 : -2147483648 ≤ x7 ∧ x7 ≤ 2147483647 := r7
    replace e8 : x8 = x2 := e8.trans v5
    replace r8 : -2147483648 ≤ x8 ∧ x8 ≤ 2147483647 := r8
    replace e9 : x9 = x2 := e9.trans v5
    replace r9 : -2147483648 ≤ x9 ∧ x9 ≤ 2147483647 := r9
    replace e10 : x10 = x2 := e10.trans v5
    replace r10 : -2147483648 ≤ x10 ∧ x10 ≤ 2147483647 := r10
    replace e11 : x11 = x2 := e11.trans v5
    replace r11 : -2147483648 ≤ x11 ∧ x11 ≤ 2147483647 := r11
    replace e12 : x12 = x2 := e12.trans v5
    replace r12 : -2147483648 ≤ x12 ∧ x12 ≤ 2147483647 := r12
    replace e13 : x13 = x2 := e13.trans v5
    replace r13 : -2147483648 ≤ x13 ∧ x13 ≤ 2147483647 := r13
    replace e14 : x14 = x2 := e14.trans v5
    replace r14 : -2147483648 ≤ x14 ∧ x14 ≤ 2147483647 := r14
    replace e15 : x15 = x2 := e15.trans v5
    replace r15 : -2147483648 ≤ x15 ∧ x15 ≤ 2147483647 := r15
    have w0_0_8 : (0 : Int) ≤ η 0 8 ∧ η 0 8 ≤ 6 := wf_ok (a := 8) (b := 8) (z := (0, 6)) hp.1 (by decide +kernel) (Nat.le_refl _) (Nat.le_refl _)
    have v7 : zEq (η1 0 8) (η 0 8) := by rw [eη1]; exact (zup_ne (fun _ e => absurd e (by decide))).trans rfl
    have v8 : zEq (η2 0 8) (η 0 8) := by rw [eη2]; exact (zup_ne (fun _ e => absurd e (by decide))).trans v7
    have c2_0_8 : η2 0 8 = η 0 8 := v8
    have v9 : ∀ j, η1 2 j = η 2 j := fun j => by rw [eη1]; exact zup_ne (fun e _ => absurd e (by decide))
    have v10 : ∀ j, η2 2 j = η 2 j := fun j => by rw [eη2]; exact (zup_ne (fun e _ => absurd e (by decide))).trans (v9 j)
    have v11 : ∀ j, η3 2 j = η 2 j := fun j => by rw [eη3]; exact (zup_ne (fun e _ => absurd e (by decide))).trans (v10 j)
    have fr2 : ∀ j, η3 2 j = η 2 j := v11
    have v12 : zEq (η2 0 7) (x4) := by rw [eη2]; exact zup_eq
    have v13 : zEq (η3 0 7) (x4) := by rw [eη3]; exact (zup_ne (fun _ e => absurd e (by decide))).trans v12
    have f0_7 : η3 0 7 = x4 := v13
    have w0_0_6 : (0 : Int) ≤ η 0 6 ∧ η 0 6 ≤ 700 := wf_ok (a := 6) (b := 6) (z := (0, 700)) hp.1 (by decide +kernel) (Nat.le_refl _) (Nat.le_refl _)
    have v15 : zEq (η1 0 6) (η 0 6) := by rw [eη1]; exact (zup_ne (fun _ e => absurd e (by decide))).trans rfl
    have v16 : zEq (η2 0 6) (η 0 6) := by rw [eη2]; exact (zup_ne (fun _ e => absurd e (by decide))).trans v15
    have v17 : zEq (η3 0 6) (η 0 6) := by rw [eη3]; exact (zup_ne (fun _ e => absurd e (by decide))).trans v16
    have f0_6 : η3 0 6 = η 0 6 := v17
    have v18 : zEq (η3 0 8) (6) := by rw [eη3]; exact zup_eq
    have f0_8 : η3 0 8 = 6 := v18
    have v19 : zEq (η3 0 9) (x2) := by rw [eη3]; exact (zup_ne (fun _ e => absurd e (by decide))).trans v5
    have f0_9 : η3 0 9 = x2 := v19
    have hh : η 0 7 < η 0 6 := hpp.1
    refine ⟨gk_v f0_7 f0_6 f0_8 f0_9 fr2 hpp.2 (by omega) ?_, show η 0 7 < η3 0 7 by omega⟩
    first
    | exact k_o (by decide) (by decide)
    | exact ⟨fun h => absurd h (by decide), fun _ => ⟨by decide, by decide⟩⟩
    | exact ⟨fun _ => ⟨by omega, by omega⟩, fun h => absurd h (by decide)⟩
  · have z1 : x1 = η 0 7 := e1
    have z2 : x2 = η 1 (η 0 7).toNat := by rw [← z1]; exact e2
    have z4 : zEq x4 (zd 0 1 (η 0 7) 1) := by rw [← z1]; exact e4.trans (by rw [show x3 = x1 from e3.trans (by rw [eη1]; exact e1.symm)])
    replace e4 := zEq_i e4
    have w0_0_7 : (0 : Int) ≤ η 0 7 ∧ η 0 7 ≤ 699 := hp.2.2 _ (List.mem_of_getElem? (i := 0) rfl)
    replace e1 : x1 = η 0 7 := e1
    replace r1 : -2147483648 ≤ x1 ∧ x1 ≤ 2147483647 := r1
    replace e2 : x2 = η 1 (Int.toNat x1) := e2
    replace r2 : -2147483648 ≤ x2 ∧ x2 ≤ 2147483647 := r2
    have c0_0_9 : η 0 9 = η 0 9 := rfl
    have v3 : zEq (η1 0 7) (η 0 7) := by rw [eη1]; exact (zup_ne (fun _ e => absurd e (by decide))).trans rfl
    replace e3 : x3 = η 0 7 := e3.trans v3
    replace r3 : -2147483648 ≤ x3 ∧ x3 ≤ 2147483647 := r3
    first
    | replace e4 : x4 = x3 + 1 := zd_a2 (zEq_o e4) (by clear e4; exact ⟨by omega, by omega⟩)
    | clear e4
    have c1_0_7 : η1 0 7 = η 0 7 := v3
    have v4 : zEq (η1 0 9) (x2) := by rw [eη1]; exact zup_eq
    have v5 : zEq (η2 0 9) (x2) := by rw [eη2]; exact (zup_ne (fun _ e => absurd e (by decide))).trans v4
    replace e5 : x5 = x2 := e5.trans v5
    replace r5 : -2147483648 ≤ x5 ∧ x5 ≤ 2147483647 := r5
    replace e6 : x6 = x2 := e6.trans v5
    replace r6 : -2147483648 ≤ x6 ∧ x6 ≤ 2147483647 := r6
    replace e7 : x7 = x2 := e7.trans v5
    replace r7 : -2147483648 ≤ x7 ∧ x7 ≤ 2147483647 := r7
    replace e8 : x8 = x2 := e8.trans v5
    replace r8 : -2147483648 ≤ x8 ∧ x8 ≤ 2147483647 := r8
    replace e9 : x9 = x2 := e9.trans v5
    replace r9 : -2147483648 ≤ x9 ∧ x9 ≤ 2147483647 := r9
    replace e10 : x10 = x2 := e10.trans v5
    replace r10 : -2147483648 ≤ x10 ∧ x10 ≤ 2147483647 := r10
    replace e11 : x11 = x2 := e11.trans v5
    replace r11 : -2147483648 ≤ x11 ∧ x11 ≤ 2147483647 := r11
    replace e12 : x12 = x2 := e12.trans v5
    replace r12 : -2147483648 ≤ x12 ∧ x12 ≤ 2147483647 := r12
    replace e13 : x13 = x2 := e13.trans v5
    replace r13 : -2147483648 ≤ x13 ∧ x13 ≤ 2147483647 := r13
    replace e14 : x14 = x2 := e14.trans v5
    replace r14 : -2147483648 ≤ x14 ∧ x14 ≤ 2147483647 := r14
    replace e15 : x15 = x2 := e15.trans v5
    replace r15 : -2147483648 ≤ x15 ∧ x15 ≤ 2147483647 := r15
    have w0_0_8 : (0 : Int) ≤ η 0 8 ∧ η 0 8 ≤ 6 := wf_ok (a := 8) (b := 8) (z := (0, 6)) hp.1 (by decide +kernel) (Nat.le_refl _) (Nat.le_refl _)
    have v7 : zEq (η1 0 8) (η 0 8) := by rw [eη1]; exact (zup_ne (fun _ e => absurd e (by decide))).trans rfl
    have v8 : zEq (η2 0 8) (η 0 8) := by rw [eη2]; exact (zup_ne (fun _ e => absurd e (by decide))).trans v7
    have c2_0_8 : η2 0 8 = η 0 8 := v8
    have v9 : ∀ j, η1 2 j = η 2 j := fun j => by rw [eη1]; exact zup_ne (fun e _ => absurd e (by decide))
    have v10 : ∀ j, η2 2 j = η 2 j := fun j => by rw [eη2]; exact (zup_ne (fun e _ => absurd e (by decide))).trans (v9 j)
    have v11 : ∀ j, η3 2 j = η 2 j := fun j => by rw [eη3]; exact (zup_ne (fun e _ => absurd e (by decide))).trans (v10 j)
    have fr2 : ∀ j, η3 2 j = η 2 j := v11
    have v12 : zEq (η2 0 7) (x4) := by rw [eη2]; exact zup_eq
    have v13 : zEq (η3 0 7) (x4) := by rw [eη3]; exact (zup_ne (fun _ e => absurd e (by decide))).trans v12
    have f0_7 : η3 0 7 = x4 := v13
    have w0_0_6 : (0 : Int) ≤ η 0 6 ∧ η 0 6 ≤ 700 := wf_ok (a := 6) (b := 6) (z := (0, 700)) hp.1 (by decide +kernel) (Nat.le_refl _) (Nat.le_refl _)
    have v15 : zEq (η1 0 6) (η 0 6) := by rw [eη1]; exact (zup_ne (fun _ e => absurd e (by decide))).trans rfl
    have v16 : zEq (η2 0 6) (η 0 6) := by rw [eη2]; exact (zup_ne (fun _ e => absurd e (by decide))).trans v15
    have v17 : zEq (η3 0 6) (η 0 6) := by rw [eη3]; exact (zup_ne (fun _ e => absurd e (by decide))).trans v16
    have f0_6 : η3 0 6 = η 0 6 := v17
    have v18 : zEq (η3 0 8) (6) := by rw [eη3]; exact zup_eq
    have f0_8 : η3 0 8 = 6 := v18
    have v19 : zEq (η3 0 9) (x2) := by rw [eη3]; exact (zup_ne (fun _ e => absurd e (by decide))).trans v5
    have f0_9 : η3 0 9 = x2 := v19
    show _ = yq_snS η
    rw [qsn_l (c := x2) (x := x4) (d := 0) (k := 6) (w := x2) (e := 0) z2 (zEq_o z4) (Or.inr (Or.inr (fun d => (qsg_o (fun w => c1 (e5.trans w)) (fun w => c2 (e6.trans w)) (fun w => c3 (e7.trans w)) (fun w => c4 (e8.trans w)) (fun w => c5 (e9.trans w)) (fun w => c6 (e10.trans w)) (fun w => c7 (e11.trans w)) (fun w => c8 (e12.trans w)) (fun w => c9 (e13.trans w)) (fun w => c10 (e14.trans w)) (fun w => c11 (e15.trans w)))))) ((qsg_o (fun w => c1 (e5.trans w)) (fun w => c2 (e6.trans w)) (fun w => c3 (e7.trans w)) (fun w => c4 (e8.trans w)) (fun w => c5 (e9.trans w)) (fun w => c6 (e10.trans w)) (fun w => c7 (e11.trans w)) (fun w => c8 (e12.trans w)) (fun w => c9 (e13.trans w)) (fun w => c10 (e14.trans w)) (fun w => c11 (e15.trans w))))]
    rw [eη3, eη2, eη1]
    rw [if_pos rfl]
    exact qsn_4
set_option maxHeartbeats 8000000 in
theorem zke_signToken_o15 {ro : Nat → List Int32} (η : zE) (hp : sP wl_ke zTr zPke_signToken [] η) (hpp : pPke_signToken [] η) : ∀ x1 : Int, x1 = η 0 (Int.toNat 7) → zok 0 x1 → ∀ x2 : Int, x2 = η 1 (Int.toNat x1) → zok 0 x2 → ∀ η1 : zE, η1 = zup η 0 (Int.toNat 9) x2 → ∀ x3 : Int, x3 = η1 0 (Int.toNat 7) → zok 0 x3 → ∀ x4 : Int, x4 = zd 0 1 x3 1 → ∀ η2 : zE, η2 = zup η1 0 (Int.toNat 7) x4 → ∀ x5 : Int, x5 = η2 0 (Int.toNat 9) → zok 0 x5 → (¬ x5 = 60) → ∀ x6 : Int, x6 = η2 0 (Int.toNat 9) → zok 0 x6 → (¬ x6 = 62) → ∀ x7 : Int, x7 = η2 0 (Int.toNat 9) → zok 0 x7 → (¬ x7 = 61) → ∀ x8 : Int, x8 = η2 0 (Int.toNat 9) → zok 0 x8 → (¬ x8 = 59) → ∀ x9 : Int, x9 = η2 0 (Int.toNat 9) → zok 0 x9 → (¬ x9 = 40) → ∀ x10 : Int, x10 = η2 0 (Int.toNat 9) → zok 0 x10 → (¬ x10 = 41) → ∀ x11 : Int, x11 = η2 0 (Int.toNat 9) → zok 0 x11 → (¬ x11 = 43) → ∀ x12 : Int, x12 = η2 0 (Int.toNat 9) → zok 0 x12 → (¬ x12 = 45) → ∀ x13 : Int, x13 = η2 0 (Int.toNat 9) → zok 0 x13 → (¬ x13 = 42) → ∀ x14 : Int, x14 = η2 0 (Int.toNat 9) → zok 0 x14 → (¬ x14 = 47) → ∀ x15 : Int, x15 = η2 0 (Int.toNat 9) → zok 0 x15 → (x15 = 37) → (¬ (1 : Int) = (0 : Int)) → ∀ η3 : zE, η3 = zup η2 0 (Int.toNat 8) 4 → (fun (_ : Nat) (y : Int) (η' : zE) => pQke_signToken [] η y η') 0 0 η3 := by
  intro x1 e1 r1 x2 e2 r2 η1 eη1 x3 e3 r3 x4 e4 η2 eη2 x5 e5 r5 c1 x6 e6 r6 c2 x7 e7 r7 c3 x8 e8 r8 c4 x9 e9 r9 c5 x10 e10 r10 c6 x11 e11 r11 c7 x12 e12 r12 c8 x13 e13 r13 c9 x14 e14 r14 c10 x15 e15 r15 c11 c12 η3 eη3
  refine yj_a ?_ ?_
  · replace e4 := zEq_i e4
    have w0_0_7 : (0 : Int) ≤ η 0 7 ∧ η 0 7 ≤ 699 := hp.2.2 _ (List.mem_of_getElem? (i := 0) rfl)
    replace e1 : x1 = η 0 7 := e1
    replace r1 : -2147483648 ≤ x1 ∧ x1 ≤ 2147483647 := r1
    replace e2 : x2 = η 1 (Int.toNat x1) := e2
    replace r2 : -2147483648 ≤ x2 ∧ x2 ≤ 2147483647 := r2
    have c0_0_9 : η 0 9 = η 0 9 := rfl
    have v3 : zEq (η1 0 7) (η 0 7) := by rw [eη1]; exact (zup_ne (fun _ e => absurd e (by decide))).trans rfl
    replace e3 : x3 = η 0 7 := e3.trans v3
    replace r3 : -2147483648 ≤ x3 ∧ x3 ≤ 2147483647 := r3
    first
    | replace e4 : x4 = x3 + 1 := zd_a2 (zEq_o e4) (by clear e4; exact ⟨by omega, by omega⟩)
    | clear e4
    have c1_0_7 : η1 0 7 = η 0 7 := v3
    have v4 : zEq (η1 0 9) (x2) := by rw [eη1]; exact zup_eq
    have v5 : zEq (η2 0 9) (x2) := by rw [eη2]; exact (zup_ne (fun _ e => absurd e (by decide))).trans v4
    replace e5 : x5 = x2 := e5.trans v5
    replace r5 : -2147483648 ≤ x5 ∧ x5 ≤ 2147483647 := r5
    replace e6 : x6 = x2 := e6.trans v5
    replace r6 : -2147483648 ≤ x6 ∧ x6 ≤ 2147483647 := r6
    replace e7 : x7 = x2 := e7.trans v5
    replace r7 : -2147483648 ≤ x7 ∧ x7 ≤ 2147483647 := r7
    replace e8 : x8 = x2 := e8.trans v5
    replace r8 : -2147483648 ≤ x8 ∧ x8 ≤ 2147483647 := r8
    replace e9 : x9 = x2 := e9.trans v5
    replace r9 : -2147483648 ≤ x9 ∧ x9 ≤ 2147483647 := r9
    replace e10 : x10 = x2 := e10.trans v5
    replace r10 : -2147483648 ≤ x10 ∧ x10 ≤ 2147483647 := r10
    replace e11 : x11 = x2 := e11.trans v5
    replace r11 : -2147483648 ≤ x11 ∧ x11 ≤ 2147483647 := r11
    replace e12 : x12 = x2 := e12.trans v5
    replace r12 : -2147483648 ≤ x12 ∧ x12 ≤ 2147483647 := r12
    replace e13 : x13 = x2 := e13.trans v5
    replace r13 : -2147483648 ≤ x13 ∧ x13 ≤ 2147483647 := r13
    replace e14 : x14 = x2 := e14.trans v5
    replace r14 : -2147483648 ≤ x14 ∧ x14 ≤ 2147483647 := r14
    replace e15 : x15 = x2 := e15.trans v5
    replace r15 : -2147483648 ≤ x15 ∧ x15 ≤ 2147483647 := r15
    have w0_0_8 : (0 : Int) ≤ η 0 8 ∧ η 0 8 ≤ 6 := wf_ok (a := 8) (b := 8) (z := (0, 6)) hp.1 (by decide +kernel) (Nat.le_refl _) (Nat.le_refl _)
    have v7 : zEq (η1 0 8) (η 0 8) := by rw [eη1]; exact (zup_ne (fun _ e => absurd e (by decide))).trans rfl
    have v8 : zEq (η2 0 8) (η 0 8) := by rw [eη2]; exact (zup_ne (fun _ e => absurd e (by decide))).trans v7
    have c2_0_8 : η2 0 8 = η 0 8 := v8
    have v9 : ∀ j, η1 2 j = η 2 j := fun j => by rw [eη1]; exact zup_ne (fun e _ => absurd e (by decide))
    have v10 : ∀ j, η2 2 j = η 2 j := fun j => by rw [eη2]; exact (zup_ne (fun e _ => absurd e (by decide))).trans (v9 j)
    have v11 : ∀ j, η3 2 j = η 2 j := fun j => by rw [eη3]; exact (zup_ne (fun e _ => absurd e (by decide))).trans (v10 j)
    have fr2 : ∀ j, η3 2 j = η 2 j := v11
    have v12 : zEq (η2 0 7) (x4) := by rw [eη2]; exact zup_eq
    have v13 : zEq (η3 0 7) (x4) := by rw [eη3]; exact (zup_ne (fun _ e => absurd e (by decide))).trans v12
    have f0_7 : η3 0 7 = x4 := v13
    have w0_0_6 : (0 : Int) ≤ η 0 6 ∧ η 0 6 ≤ 700 := wf_ok (a := 6) (b := 6) (z := (0, 700)) hp.1 (by decide +kernel) (Nat.le_refl _) (Nat.le_refl _)
    have v15 : zEq (η1 0 6) (η 0 6) := by rw [eη1]; exact (zup_ne (fun _ e => absurd e (by decide))).trans rfl
    have v16 : zEq (η2 0 6) (η 0 6) := by rw [eη2]; exact (zup_ne (fun _ e => absurd e (by decide))).trans v15
    have v17 : zEq (η3 0 6) (η 0 6) := by rw [eη3]; exact (zup_ne (fun _ e => absurd e (by decide))).trans v16
    have f0_6 : η3 0 6 = η 0 6 := v17
    have v18 : zEq (η3 0 8) (4) := by rw [eη3]; exact zup_eq
    have f0_8 : η3 0 8 = 4 := v18
    have v19 : zEq (η3 0 9) (x2) := by rw [eη3]; exact (zup_ne (fun _ e => absurd e (by decide))).trans v5
    have f0_9 : η3 0 9 = x2 := v19
    have hh : η 0 7 < η 0 6 := hpp.1
    refine ⟨gk_v f0_7 f0_6 f0_8 f0_9 fr2 hpp.2 (by omega) ?_, show η 0 7 < η3 0 7 by omega⟩
    first
    | exact k_o (by decide) (by decide)
    | exact ⟨fun h => absurd h (by decide), fun _ => ⟨by decide, by decide⟩⟩
    | exact ⟨fun _ => ⟨by omega, by omega⟩, fun h => absurd h (by decide)⟩
  · have z1 : x1 = η 0 7 := e1
    have z2 : x2 = η 1 (η 0 7).toNat := by rw [← z1]; exact e2
    have z4 : zEq x4 (zd 0 1 (η 0 7) 1) := by rw [← z1]; exact e4.trans (by rw [show x3 = x1 from e3.trans (by rw [eη1]; exact e1.symm)])
    replace e4 := zEq_i e4
    have w0_0_7 : (0 : Int) ≤ η 0 7 ∧ η 0 7 ≤ 699 := hp.2.2 _ (List.mem_of_getElem? (i := 0) rfl)
    replace e1 : x1 = η 0 7 := e1
    replace r1 : -2147483648 ≤ x1 ∧ x1 ≤ 2147483647 := r1
    replace e2 : x2 = η 1 (Int.toNat x1) := e2
    replace r2 : -2147483648 ≤ x2 ∧ x2 ≤ 2147483647 := r2
    have c0_0_9 : η 0 9 = η 0 9 := rfl
    have v3 : zEq (η1 0 7) (η 0 7) := by rw [eη1]; exact (zup_ne (fun _ e => absurd e (by decide))).trans rfl
    replace e3 : x3 = η 0 7 := e3.trans v3
    replace r3 : -2147483648 ≤ x3 ∧ x3 ≤ 2147483647 := r3
    first
    | replace e4 : x4 = x3 + 1 := zd_a2 (zEq_o e4) (by clear e4; exact ⟨by omega, by omega⟩)
    | clear e4
    have c1_0_7 : η1 0 7 = η 0 7 := v3
    have v4 : zEq (η1 0 9) (x2) := by rw [eη1]; exact zup_eq
    have v5 : zEq (η2 0 9) (x2) := by rw [eη2]; exact (zup_ne (fun _ e => absurd e (by decide))).trans v4
    replace e5 : x5 = x2 := e5.trans v5
    replace r5 : -2147483648 ≤ x5 ∧ x5 ≤ 2147483647 := r5
    replace e6 : x6 = x2 := e6.trans v5
    replace r6 : -2147483648 ≤ x6 ∧ x6 ≤ 2147483647 := r6
    replace e7 : x7 = x2 := e7.trans v5
    replace r7 : -2147483648 ≤ x7 ∧ x7 ≤ 2147483647 := r7
    replace e8 : x8 = x2 := e8.trans v5
    replace r8 : -2147483648 ≤ x8 ∧ x8 ≤ 2147483647 := r8
    replace e9 : x9 = x2 := e9.trans v5
    replace r9 : -2147483648 ≤ x9 ∧ x9 ≤ 2147483647 := r9
    replace e10 : x10 = x2 := e10.trans v5
    replace r10 : -2147483648 ≤ x10 ∧ x10 ≤ 2147483647 := r10
    replace e11 : x11 = x2 := e11.trans v5
    replace r11 : -2147483648 ≤ x11 ∧ x11 ≤ 2147483647 := r11
    replace e12 : x12 = x2 := e12.trans v5
    replace r12 : -2147483648 ≤ x12 ∧ x12 ≤ 2147483647 := r12
    replace e13 : x13 = x2 := e13.trans v5
    replace r13 : -2147483648 ≤ x13 ∧ x13 ≤ 2147483647 := r13
    replace e14 : x14 = x2 := e14.trans v5
    replace r14 : -2147483648 ≤ x14 ∧ x14 ≤ 2147483647 := r14
    replace e15 : x15 = x2 := e15.trans v5
    replace r15 : -2147483648 ≤ x15 ∧ x15 ≤ 2147483647 := r15
    have w0_0_8 : (0 : Int) ≤ η 0 8 ∧ η 0 8 ≤ 6 := wf_ok (a := 8) (b := 8) (z := (0, 6)) hp.1 (by decide +kernel) (Nat.le_refl _) (Nat.le_refl _)
    have v7 : zEq (η1 0 8) (η 0 8) := by rw [eη1]; exact (zup_ne (fun _ e => absurd e (by decide))).trans rfl
    have v8 : zEq (η2 0 8) (η 0 8) := by rw [eη2]; exact (zup_ne (fun _ e => absurd e (by decide))).trans v7
    have c2_0_8 : η2 0 8 = η 0 8 := v8
    have v9 : ∀ j, η1 2 j = η 2 j := fun j => by rw [eη1]; exact zup_ne (fun e _ => absurd e (by decide))
    have v10 : ∀ j, η2 2 j = η 2 j := fun j => by rw [eη2]; exact (zup_ne (fun e _ => absurd e (by decide))).trans (v9 j)
    have v11 : ∀ j, η3 2 j = η 2 j := fun j => by rw [eη3]; exact (zup_ne (fun e _ => absurd e (by decide))).trans (v10 j)
    have fr2 : ∀ j, η3 2 j = η 2 j := v11
    have v12 : zEq (η2 0 7) (x4) := by rw [eη2]; exact zup_eq
    have v13 : zEq (η3 0 7) (x4) := by rw [eη3]; exact (zup_ne (fun _ e => absurd e (by decide))).trans v12
    have f0_7 : η3 0 7 = x4 := v13
    have w0_0_6 : (0 : Int) ≤ η 0 6 ∧ η 0 6 ≤ 700 := wf_ok (a := 6) (b := 6) (z := (0, 700)) hp.1 (by decide +kernel) (Nat.le_refl _) (Nat.le_refl _)
    have v15 : zEq (η1 0 6) (η 0 6) := by rw [eη1]; exact (zup_ne (fun _ e => absurd e (by decide))).trans rfl
    have v16 : zEq (η2 0 6) (η 0 6) := by rw [eη2]; exact (zup_ne (fun _ e => absurd e (by decide))).trans v15
    have v17 : zEq (η3 0 6) (η 0 6) := by rw [eη3]; exact (zup_ne (fun _ e => absurd e (by decide))).trans v16
    have f0_6 : η3 0 6 = η 0 6 := v17
    have v18 : zEq (η3 0 8) (4) := by rw [eη3]; exact zup_eq
    have f0_8 : η3 0 8 = 4 := v18
    have v19 : zEq (η3 0 9) (x2) := by rw [eη3]; exact (zup_ne (fun _ e => absurd e (by decide))).trans v5
    have f0_9 : η3 0 9 = x2 := v19
    have xx : x2 = 37 := e15.symm.trans c11
    show _ = yq_snS η
    rw [qsn_l (c := x2) (x := x4) (d := 0) (k := 4) (w := x2) (e := 0) z2 (zEq_o z4) (Or.inr (Or.inr (fun d => (by rw [xx]; rfl)))) ((by rw [xx]; rfl))]
    rw [eη3, eη2, eη1]
    rw [if_pos rfl]
    exact qsn_4
set_option maxHeartbeats 8000000 in
theorem zke_signToken_o16 {ro : Nat → List Int32} (η : zE) (hp : sP wl_ke zTr zPke_signToken [] η) (hpp : pPke_signToken [] η) : ∀ x1 : Int, x1 = η 0 (Int.toNat 7) → zok 0 x1 → ∀ x2 : Int, x2 = η 1 (Int.toNat x1) → zok 0 x2 → ∀ η1 : zE, η1 = zup η 0 (Int.toNat 9) x2 → ∀ x3 : Int, x3 = η1 0 (Int.toNat 7) → zok 0 x3 → ∀ x4 : Int, x4 = zd 0 1 x3 1 → ∀ η2 : zE, η2 = zup η1 0 (Int.toNat 7) x4 → ∀ x5 : Int, x5 = η2 0 (Int.toNat 9) → zok 0 x5 → (¬ x5 = 60) → ∀ x6 : Int, x6 = η2 0 (Int.toNat 9) → zok 0 x6 → (¬ x6 = 62) → ∀ x7 : Int, x7 = η2 0 (Int.toNat 9) → zok 0 x7 → (x7 = 61) → ∀ x8 : Int, x8 = η2 0 (Int.toNat 7) → zok 0 x8 → ∀ x9 : Int, x9 = η2 0 (Int.toNat 6) → zok 0 x9 → (x9 ≤ x8) → ∀ x10 : Int, x10 = η2 0 (Int.toNat 9) → zok 0 x10 → (x10 = 61) → ∀ x11 : Int, x11 = η2 0 (Int.toNat 9) → zok 0 x11 → (¬ x11 = 60) → ((0 : Int) = (0 : Int)) → ((0 : Int) = (0 : Int)) → ∀ η3 : zE, η3 = zup η2 0 (Int.toNat 8) 5 → ∀ x12 : Int, x12 = η3 0 (Int.toNat 9) → zok 0 x12 → (x12 = 61) → ∀ η4 : zE, η4 = zup η3 0 (Int.toNat 9) 2 → (fun (_ : Nat) (y : Int) (η' : zE) => pQke_signToken [] η y η') 0 0 η4 := by
  intro x1 e1 r1 x2 e2 r2 η1 eη1 x3 e3 r3 x4 e4 η2 eη2 x5 e5 r5 c1 x6 e6 r6 c2 x7 e7 r7 c3 x8 e8 r8 x9 e9 r9 c4 x10 e10 r10 c5 x11 e11 r11 c6 c7 c8 η3 eη3 x12 e12 r12 c9 η4 eη4
  refine yj_a ?_ ?_
  · replace e4 := zEq_i e4
    have w0_0_7 : (0 : Int) ≤ η 0 7 ∧ η 0 7 ≤ 699 := hp.2.2 _ (List.mem_of_getElem? (i := 0) rfl)
    replace e1 : x1 = η 0 7 := e1
    replace r1 : -2147483648 ≤ x1 ∧ x1 ≤ 2147483647 := r1
    replace e2 : x2 = η 1 (Int.toNat x1) := e2
    replace r2 : -2147483648 ≤ x2 ∧ x2 ≤ 2147483647 := r2
    have c0_0_9 : η 0 9 = η 0 9 := rfl
    have v3 : zEq (η1 0 7) (η 0 7) := by rw [eη1]; exact (zup_ne (fun _ e => absurd e (by decide))).trans rfl
    replace e3 : x3 = η 0 7 := e3.trans v3
    replace r3 : -2147483648 ≤ x3 ∧ x3 ≤ 2147483647 := r3
    first
    | replace e4 : x4 = x3 + 1 := zd_a2 (zEq_o e4) (by clear e4; exact ⟨by omega, by omega⟩)
    | clear e4
    have c1_0_7 : η1 0 7 = η 0 7 := v3
    have v4 : zEq (η1 0 9) (x2) := by rw [eη1]; exact zup_eq
    have v5 : zEq (η2 0 9) (x2) := by rw [eη2]; exact (zup_ne (fun _ e => absurd e (by decide))).trans v4
    replace e5 : x5 = x2 := e5.trans v5
    replace r5 : -2147483648 ≤ x5 ∧ x5 ≤ 2147483647 := r5
    replace e6 : x6 = x2 := e6.trans v5
    replace r6 : -2147483648 ≤ x6 ∧ x6 ≤ 2147483647 := r6
    replace e7 : x7 = x2 := e7.trans v5
    replace r7 : -2147483648 ≤ x7 ∧ x7 ≤ 2147483647 := r7
    have v6 : zEq (η2 0 7) (x4) := by rw [eη2]; exact zup_eq
    replace e8 : x8 = x4 := e8.trans v6
    replace r8 : -2147483648 ≤ x8 ∧ x8 ≤ 2147483647 := r8
    have w0_0_6 : (0 : Int) ≤ η 0 6 ∧ η 0 6 ≤ 700 := wf_ok (a := 6) (b := 6) (z := (0, 700)) hp.1 (by decide +kernel) (Nat.le_refl _) (Nat.le_refl _)
    have v8 : zEq (η1 0 6) (η 0 6) := by rw [eη1]; exact (zup_ne (fun _ e => absurd e (by decide))).trans rfl
    have v9 : zEq (η2 0 6) (η 0 6) := by rw [eη2]; exact (zup_ne (fun _ e => absurd e (by decide))).trans v8
    replace e9 : x9 = η 0 6 := e9.trans v9
    replace r9 : -2147483648 ≤ x9 ∧ x9 ≤ 2147483647 := r9
    replace e10 : x10 = x2 := e10.trans v5
    replace r10 : -2147483648 ≤ x10 ∧ x10 ≤ 2147483647 := r10
    replace e11 : x11 = x2 := e11.trans v5
    replace r11 : -2147483648 ≤ x11 ∧ x11 ≤ 2147483647 := r11
    have w0_0_8 : (0 : Int) ≤ η 0 8 ∧ η 0 8 ≤ 6 := wf_ok (a := 8) (b := 8) (z := (0, 6)) hp.1 (by decide +kernel) (Nat.le_refl _) (Nat.le_refl _)
    have v11 : zEq (η1 0 8) (η 0 8) := by rw [eη1]; exact (zup_ne (fun _ e => absurd e (by decide))).trans rfl
    have v12 : zEq (η2 0 8) (η 0 8) := by rw [eη2]; exact (zup_ne (fun _ e => absurd e (by decide))).trans v11
    have c2_0_8 : η2 0 8 = η 0 8 := v12
    have v13 : zEq (η3 0 9) (x2) := by rw [eη3]; exact (zup_ne (fun _ e => absurd e (by decide))).trans v5
    replace e12 : x12 = x2 := e12.trans v13
    replace r12 : -2147483648 ≤ x12 ∧ x12 ≤ 2147483647 := r12
    have c3_0_9 : η3 0 9 = x2 := v13
    have v14 : ∀ j, η1 2 j = η 2 j := fun j => by rw [eη1]; exact zup_ne (fun e _ => absurd e (by decide))
    have v15 : ∀ j, η2 2 j = η 2 j := fun j => by rw [eη2]; exact (zup_ne (fun e _ => absurd e (by decide))).trans (v14 j)
    have v16 : ∀ j, η3 2 j = η 2 j := fun j => by rw [eη3]; exact (zup_ne (fun e _ => absurd e (by decide))).trans (v15 j)
    have v17 : ∀ j, η4 2 j = η 2 j := fun j => by rw [eη4]; exact (zup_ne (fun e _ => absurd e (by decide))).trans (v16 j)
    have fr2 : ∀ j, η4 2 j = η 2 j := v17
    have v18 : zEq (η3 0 7) (x4) := by rw [eη3]; exact (zup_ne (fun _ e => absurd e (by decide))).trans v6
    have v19 : zEq (η4 0 7) (x4) := by rw [eη4]; exact (zup_ne (fun _ e => absurd e (by decide))).trans v18
    have f0_7 : η4 0 7 = x4 := v19
    have v20 : zEq (η3 0 6) (η 0 6) := by rw [eη3]; exact (zup_ne (fun _ e => absurd e (by decide))).trans v9
    have v21 : zEq (η4 0 6) (η 0 6) := by rw [eη4]; exact (zup_ne (fun _ e => absurd e (by decide))).trans v20
    have f0_6 : η4 0 6 = η 0 6 := v21
    have v22 : zEq (η3 0 8) (5) := by rw [eη3]; exact zup_eq
    have v23 : zEq (η4 0 8) (5) := by rw [eη4]; exact (zup_ne (fun _ e => absurd e (by decide))).trans v22
    have f0_8 : η4 0 8 = 5 := v23
    have v24 : zEq (η4 0 9) (2) := by rw [eη4]; exact zup_eq
    have f0_9 : η4 0 9 = 2 := v24
    have hh : η 0 7 < η 0 6 := hpp.1
    refine ⟨gk_v f0_7 f0_6 f0_8 f0_9 fr2 hpp.2 (by omega) ?_, show η 0 7 < η4 0 7 by omega⟩
    first
    | exact k_o (by decide) (by decide)
    | exact ⟨fun h => absurd h (by decide), fun _ => ⟨by decide, by decide⟩⟩
    | exact ⟨fun _ => ⟨by omega, by omega⟩, fun h => absurd h (by decide)⟩
  · have z1 : x1 = η 0 7 := e1
    have z2 : x2 = η 1 (η 0 7).toNat := by rw [← z1]; exact e2
    have z4 : zEq x4 (zd 0 1 (η 0 7) 1) := by rw [← z1]; exact e4.trans (by rw [show x3 = x1 from e3.trans (by rw [eη1]; exact e1.symm)])
    replace e4 := zEq_i e4
    have w0_0_7 : (0 : Int) ≤ η 0 7 ∧ η 0 7 ≤ 699 := hp.2.2 _ (List.mem_of_getElem? (i := 0) rfl)
    replace e1 : x1 = η 0 7 := e1
    replace r1 : -2147483648 ≤ x1 ∧ x1 ≤ 2147483647 := r1
    replace e2 : x2 = η 1 (Int.toNat x1) := e2
    replace r2 : -2147483648 ≤ x2 ∧ x2 ≤ 2147483647 := r2
    have c0_0_9 : η 0 9 = η 0 9 := rfl
    have v3 : zEq (η1 0 7) (η 0 7) := by rw [eη1]; exact (zup_ne (fun _ e => absurd e (by decide))).trans rfl
    replace e3 : x3 = η 0 7 := e3.trans v3
    replace r3 : -2147483648 ≤ x3 ∧ x3 ≤ 2147483647 := r3
    first
    | replace e4 : x4 = x3 + 1 := zd_a2 (zEq_o e4) (by clear e4; exact ⟨by omega, by omega⟩)
    | clear e4
    have c1_0_7 : η1 0 7 = η 0 7 := v3
    have v4 : zEq (η1 0 9) (x2) := by rw [eη1]; exact zup_eq
    have v5 : zEq (η2 0 9) (x2) := by rw [eη2]; exact (zup_ne (fun _ e => absurd e (by decide))).trans v4
    replace e5 : x5 = x2 := e5.trans v5
    replace r5 : -2147483648 ≤ x5 ∧ x5 ≤ 2147483647 := r5
    replace e6 : x6 = x2 := e6.trans v5
    replace r6 : -2147483648 ≤ x6 ∧ x6 ≤ 2147483647 := r6
    replace e7 : x7 = x2 := e7.trans v5
    replace r7 : -2147483648 ≤ x7 ∧ x7 ≤ 2147483647 := r7
    have v6 : zEq (η2 0 7) (x4) := by rw [eη2]; exact zup_eq
    replace e8 : x8 = x4 := e8.trans v6
    replace r8 : -2147483648 ≤ x8 ∧ x8 ≤ 2147483647 := r8
    have w0_0_6 : (0 : Int) ≤ η 0 6 ∧ η 0 6 ≤ 700 := wf_ok (a := 6) (b := 6) (z := (0, 700)) hp.1 (by decide +kernel) (Nat.le_refl _) (Nat.le_refl _)
    have v8 : zEq (η1 0 6) (η 0 6) := by rw [eη1]; exact (zup_ne (fun _ e => absurd e (by decide))).trans rfl
    have v9 : zEq (η2 0 6) (η 0 6) := by rw [eη2]; exact (zup_ne (fun _ e => absurd e (by decide))).trans v8
    replace e9 : x9 = η 0 6 := e9.trans v9
    replace r9 : -2147483648 ≤ x9 ∧ x9 ≤ 2147483647 := r9
    replace e10 : x10 = x2 := e10.trans v5
    replace r10 : -2147483648 ≤ x10 ∧ x10 ≤ 2147483647 := r10
    replace e11 : x11 = x2 := e11.trans v5
    replace r11 : -2147483648 ≤ x11 ∧ x11 ≤ 2147483647 := r11
    have w0_0_8 : (0 : Int) ≤ η 0 8 ∧ η 0 8 ≤ 6 := wf_ok (a := 8) (b := 8) (z := (0, 6)) hp.1 (by decide +kernel) (Nat.le_refl _) (Nat.le_refl _)
    have v11 : zEq (η1 0 8) (η 0 8) := by rw [eη1]; exact (zup_ne (fun _ e => absurd e (by decide))).trans rfl
    have v12 : zEq (η2 0 8) (η 0 8) := by rw [eη2]; exact (zup_ne (fun _ e => absurd e (by decide))).trans v11
    have c2_0_8 : η2 0 8 = η 0 8 := v12
    have v13 : zEq (η3 0 9) (x2) := by rw [eη3]; exact (zup_ne (fun _ e => absurd e (by decide))).trans v5
    replace e12 : x12 = x2 := e12.trans v13
    replace r12 : -2147483648 ≤ x12 ∧ x12 ≤ 2147483647 := r12
    have c3_0_9 : η3 0 9 = x2 := v13
    have v14 : ∀ j, η1 2 j = η 2 j := fun j => by rw [eη1]; exact zup_ne (fun e _ => absurd e (by decide))
    have v15 : ∀ j, η2 2 j = η 2 j := fun j => by rw [eη2]; exact (zup_ne (fun e _ => absurd e (by decide))).trans (v14 j)
    have v16 : ∀ j, η3 2 j = η 2 j := fun j => by rw [eη3]; exact (zup_ne (fun e _ => absurd e (by decide))).trans (v15 j)
    have v17 : ∀ j, η4 2 j = η 2 j := fun j => by rw [eη4]; exact (zup_ne (fun e _ => absurd e (by decide))).trans (v16 j)
    have fr2 : ∀ j, η4 2 j = η 2 j := v17
    have v18 : zEq (η3 0 7) (x4) := by rw [eη3]; exact (zup_ne (fun _ e => absurd e (by decide))).trans v6
    have v19 : zEq (η4 0 7) (x4) := by rw [eη4]; exact (zup_ne (fun _ e => absurd e (by decide))).trans v18
    have f0_7 : η4 0 7 = x4 := v19
    have v20 : zEq (η3 0 6) (η 0 6) := by rw [eη3]; exact (zup_ne (fun _ e => absurd e (by decide))).trans v9
    have v21 : zEq (η4 0 6) (η 0 6) := by rw [eη4]; exact (zup_ne (fun _ e => absurd e (by decide))).trans v20
    have f0_6 : η4 0 6 = η 0 6 := v21
    have v22 : zEq (η3 0 8) (5) := by rw [eη3]; exact zup_eq
    have v23 : zEq (η4 0 8) (5) := by rw [eη4]; exact (zup_ne (fun _ e => absurd e (by decide))).trans v22
    have f0_8 : η4 0 8 = 5 := v23
    have v24 : zEq (η4 0 9) (2) := by rw [eη4]; exact zup_eq
    have f0_9 : η4 0 9 = 2 := v24
    show _ = yq_snS η
    rw [qsn_l (c := x2) (x := x4) (d := 0) (k := 5) (w := 2) (e := 0) z2 (zEq_o z4) (Or.inr (Or.inr (fun d => by unfold yq_sg; (repeat' split) <;> first | (exfalso; omega) | rfl))) (by unfold yq_sg; (repeat' split) <;> first | (exfalso; omega) | rfl)]
    rw [eη4, eη3, eη2, eη1]
    rw [if_pos rfl]
    rfl
set_option maxHeartbeats 8000000 in
theorem zke_signToken_o17 {ro : Nat → List Int32} (η : zE) (hp : sP wl_ke zTr zPke_signToken [] η) (hpp : pPke_signToken [] η) : ∀ x1 : Int, x1 = η 0 (Int.toNat 7) → zok 0 x1 → ∀ x2 : Int, x2 = η 1 (Int.toNat x1) → zok 0 x2 → ∀ η1 : zE, η1 = zup η 0 (Int.toNat 9) x2 → ∀ x3 : Int, x3 = η1 0 (Int.toNat 7) → zok 0 x3 → ∀ x4 : Int, x4 = zd 0 1 x3 1 → ∀ η2 : zE, η2 = zup η1 0 (Int.toNat 7) x4 → ∀ x5 : Int, x5 = η2 0 (Int.toNat 9) → zok 0 x5 → (¬ x5 = 60) → ∀ x6 : Int, x6 = η2 0 (Int.toNat 9) → zok 0 x6 → (¬ x6 = 62) → ∀ x7 : Int, x7 = η2 0 (Int.toNat 9) → zok 0 x7 → (x7 = 61) → ∀ x8 : Int, x8 = η2 0 (Int.toNat 7) → zok 0 x8 → ∀ x9 : Int, x9 = η2 0 (Int.toNat 6) → zok 0 x9 → (x8 < x9) → ∀ x10 : Int, x10 = η2 0 (Int.toNat 7) → zok 0 x10 → ∀ x11 : Int, x11 = η2 1 (Int.toNat x10) → zok 0 x11 → ∀ x12 : Int, x12 = η2 0 (Int.toNat 9) → zok 0 x12 → (x12 = 61) → ∀ x13 : Int, x13 = η2 0 (Int.toNat 9) → zok 0 x13 → (¬ x13 = 60) → ((0 : Int) = (0 : Int)) → ((0 : Int) = (0 : Int)) → ∀ η3 : zE, η3 = zup η2 0 (Int.toNat 8) 5 → ∀ x14 : Int, x14 = η3 0 (Int.toNat 9) → zok 0 x14 → (x14 = 61) → ∀ η4 : zE, η4 = zup η3 0 (Int.toNat 9) 2 → (fun (_ : Nat) (y : Int) (η' : zE) => pQke_signToken [] η y η') 0 0 η4 := by
  intro x1 e1 r1 x2 e2 r2 η1 eη1 x3 e3 r3 x4 e4 η2 eη2 x5 e5 r5 c1 x6 e6 r6 c2 x7 e7 r7 c3 x8 e8 r8 x9 e9 r9 c4 x10 e10 r10 x11 e11 r11 x12 e12 r12 c5 x13 e13 r13 c6 c7 c8 η3 eη3 x14 e14 r14 c9 η4 eη4
  refine yj_a ?_ ?_
  · replace e4 := zEq_i e4
    have w0_0_7 : (0 : Int) ≤ η 0 7 ∧ η 0 7 ≤ 699 := hp.2.2 _ (List.mem_of_getElem? (i := 0) rfl)
    replace e1 : x1 = η 0 7 := e1
    replace r1 : -2147483648 ≤ x1 ∧ x1 ≤ 2147483647 := r1
    replace e2 : x2 = η 1 (Int.toNat x1) := e2
    replace r2 : -2147483648 ≤ x2 ∧ x2 ≤ 2147483647 := r2
    have c0_0_9 : η 0 9 = η 0 9 := rfl
    have v3 : zEq (η1 0 7) (η 0 7) := by rw [eη1]; exact (zup_ne (fun _ e => absurd e (by decide))).trans rfl
    replace e3 : x3 = η 0 7 := e3.trans v3
    replace r3 : -2147483648 ≤ x3 ∧ x3 ≤ 2147483647 := r3
    first
    | replace e4 : x4 = x3 + 1 := zd_a2 (zEq_o e4) (by clear e4; exact ⟨by omega, by omega⟩)
    | clear e4
    have c1_0_7 : η1 0 7 = η 0 7 := v3
    have v4 : zEq (η1 0 9) (x2) := by rw [eη1]; exact zup_eq
    have v5 : zEq (η2 0 9) (x2) := by rw [eη2]; exact (zup_ne (fun _ e => absurd e (by decide))).trans v4
    replace e5 : x5 = x2 := e5.trans v5
    replace r5 : -2147483648 ≤ x5 ∧ x5 ≤ 2147483647 := r5
    replace e6 : x6 = x2 := e6.trans v5
    replace r6 : -2147483648 ≤ x6 ∧ x6 ≤ 2147483647 := r6
    replace e7 : x7 = x2 := e7.trans v5
    replace r7 : -2147483648 ≤ x7 ∧ x7 ≤ 2147483647 := r7
    have v6 : zEq (η2 0 7) (x4) := by rw [eη2]; exact zup_eq
    replace e8 : x8 = x4 := e8.trans v6
    replace r8 : -2147483648 ≤ x8 ∧ x8 ≤ 2147483647 := r8
    have w0_0_6 : (0 : Int) ≤ η 0 6 ∧ η 0 6 ≤ 700 := wf_ok (a := 6) (b := 6) (z := (0, 700)) hp.1 (by decide +kernel) (Nat.le_refl _) (Nat.le_refl _)
    have v8 : zEq (η1 0 6) (η 0 6) := by rw [eη1]; exact (zup_ne (fun _ e => absurd e (by decide))).trans rfl
    have v9 : zEq (η2 0 6) (η 0 6) := by rw [eη2]; exact (zup_ne (fun _ e => absurd e (by decide))).trans v8
    replace e9 : x9 = η 0 6 := e9.trans v9
    replace r9 : -2147483648 ≤ x9 ∧ x9 ≤ 2147483647 := r9
    replace e10 : x10 = x4 := e10.trans v6
    replace r10 : -2147483648 ≤ x10 ∧ x10 ≤ 2147483647 := r10
    have v11 : zEq (η1 1 (Int.toNat x10)) (η 1 (Int.toNat x10)) := by rw [eη1]; exact (zup_ne (fun e _ => absurd e (by decide))).trans rfl
    have v12 : zEq (η2 1 (Int.toNat x10)) (η 1 (Int.toNat x10)) := by rw [eη2]; exact (zup_ne (fun e _ => absurd e (by decide))).trans v11
    replace e11 : x11 = η 1 (Int.toNat x10) := e11.trans v12
    replace r11 : -2147483648 ≤ x11 ∧ x11 ≤ 2147483647 := r11
    replace e12 : x12 = x2 := e12.trans v5
    replace r12 : -2147483648 ≤ x12 ∧ x12 ≤ 2147483647 := r12
    replace e13 : x13 = x2 := e13.trans v5
    replace r13 : -2147483648 ≤ x13 ∧ x13 ≤ 2147483647 := r13
    have w0_0_8 : (0 : Int) ≤ η 0 8 ∧ η 0 8 ≤ 6 := wf_ok (a := 8) (b := 8) (z := (0, 6)) hp.1 (by decide +kernel) (Nat.le_refl _) (Nat.le_refl _)
    have v14 : zEq (η1 0 8) (η 0 8) := by rw [eη1]; exact (zup_ne (fun _ e => absurd e (by decide))).trans rfl
    have v15 : zEq (η2 0 8) (η 0 8) := by rw [eη2]; exact (zup_ne (fun _ e => absurd e (by decide))).trans v14
    have c2_0_8 : η2 0 8 = η 0 8 := v15
    have v16 : zEq (η3 0 9) (x2) := by rw [eη3]; exact (zup_ne (fun _ e => absurd e (by decide))).trans v5
    replace e14 : x14 = x2 := e14.trans v16
    replace r14 : -2147483648 ≤ x14 ∧ x14 ≤ 2147483647 := r14
    have c3_0_9 : η3 0 9 = x2 := v16
    have v17 : ∀ j, η1 2 j = η 2 j := fun j => by rw [eη1]; exact zup_ne (fun e _ => absurd e (by decide))
    have v18 : ∀ j, η2 2 j = η 2 j := fun j => by rw [eη2]; exact (zup_ne (fun e _ => absurd e (by decide))).trans (v17 j)
    have v19 : ∀ j, η3 2 j = η 2 j := fun j => by rw [eη3]; exact (zup_ne (fun e _ => absurd e (by decide))).trans (v18 j)
    have v20 : ∀ j, η4 2 j = η 2 j := fun j => by rw [eη4]; exact (zup_ne (fun e _ => absurd e (by decide))).trans (v19 j)
    have fr2 : ∀ j, η4 2 j = η 2 j := v20
    have v21 : zEq (η3 0 7) (x4) := by rw [eη3]; exact (zup_ne (fun _ e => absurd e (by decide))).trans v6
    have v22 : zEq (η4 0 7) (x4) := by rw [eη4]; exact (zup_ne (fun _ e => absurd e (by decide))).trans v21
    have f0_7 : η4 0 7 = x4 := v22
    have v23 : zEq (η3 0 6) (η 0 6) := by rw [eη3]; exact (zup_ne (fun _ e => absurd e (by decide))).trans v9
    have v24 : zEq (η4 0 6) (η 0 6) := by rw [eη4]; exact (zup_ne (fun _ e => absurd e (by decide))).trans v23
    have f0_6 : η4 0 6 = η 0 6 := v24
    have v25 : zEq (η3 0 8) (5) := by rw [eη3]; exact zup_eq
    have v26 : zEq (η4 0 8) (5) := by rw [eη4]; exact (zup_ne (fun _ e => absurd e (by decide))).trans v25
    have f0_8 : η4 0 8 = 5 := v26
    have v27 : zEq (η4 0 9) (2) := by rw [eη4]; exact zup_eq
    have f0_9 : η4 0 9 = 2 := v27
    have hh : η 0 7 < η 0 6 := hpp.1
    refine ⟨gk_v f0_7 f0_6 f0_8 f0_9 fr2 hpp.2 (by omega) ?_, show η 0 7 < η4 0 7 by omega⟩
    first
    | exact k_o (by decide) (by decide)
    | exact ⟨fun h => absurd h (by decide), fun _ => ⟨by decide, by decide⟩⟩
    | exact ⟨fun _ => ⟨by omega, by omega⟩, fun h => absurd h (by decide)⟩
  · have z1 : x1 = η 0 7 := e1
    have z2 : x2 = η 1 (η 0 7).toNat := by rw [← z1]; exact e2
    have z4 : zEq x4 (zd 0 1 (η 0 7) 1) := by rw [← z1]; exact e4.trans (by rw [show x3 = x1 from e3.trans (by rw [eη1]; exact e1.symm)])
    have z9 : x11 = η 1 x10.toNat := by rw [e11, eη2, eη1]; rfl
    replace e4 := zEq_i e4
    have w0_0_7 : (0 : Int) ≤ η 0 7 ∧ η 0 7 ≤ 699 := hp.2.2 _ (List.mem_of_getElem? (i := 0) rfl)
    replace e1 : x1 = η 0 7 := e1
    replace r1 : -2147483648 ≤ x1 ∧ x1 ≤ 2147483647 := r1
    replace e2 : x2 = η 1 (Int.toNat x1) := e2
    replace r2 : -2147483648 ≤ x2 ∧ x2 ≤ 2147483647 := r2
    have c0_0_9 : η 0 9 = η 0 9 := rfl
    have v3 : zEq (η1 0 7) (η 0 7) := by rw [eη1]; exact (zup_ne (fun _ e => absurd e (by decide))).trans rfl
    replace e3 : x3 = η 0 7 := e3.trans v3
    replace r3 : -2147483648 ≤ x3 ∧ x3 ≤ 2147483647 := r3
    first
    | replace e4 : x4 = x3 + 1 := zd_a2 (zEq_o e4) (by clear e4; exact ⟨by omega, by omega⟩)
    | clear e4
    have c1_0_7 : η1 0 7 = η 0 7 := v3
    have v4 : zEq (η1 0 9) (x2) := by rw [eη1]; exact zup_eq
    have v5 : zEq (η2 0 9) (x2) := by rw [eη2]; exact (zup_ne (fun _ e => absurd e (by decide))).trans v4
    replace e5 : x5 = x2 := e5.trans v5
    replace r5 : -2147483648 ≤ x5 ∧ x5 ≤ 2147483647 := r5
    replace e6 : x6 = x2 := e6.trans v5
    replace r6 : -2147483648 ≤ x6 ∧ x6 ≤ 2147483647 := r6
    replace e7 : x7 = x2 := e7.trans v5
    replace r7 : -2147483648 ≤ x7 ∧ x7 ≤ 2147483647 := r7
    have v6 : zEq (η2 0 7) (x4) := by rw [eη2]; exact zup_eq
    replace e8 : x8 = x4 := e8.trans v6
    replace r8 : -2147483648 ≤ x8 ∧ x8 ≤ 2147483647 := r8
    have w0_0_6 : (0 : Int) ≤ η 0 6 ∧ η 0 6 ≤ 700 := wf_ok (a := 6) (b := 6) (z := (0, 700)) hp.1 (by decide +kernel) (Nat.le_refl _) (Nat.le_refl _)
    have v8 : zEq (η1 0 6) (η 0 6) := by rw [eη1]; exact (zup_ne (fun _ e => absurd e (by decide))).trans rfl
    have v9 : zEq (η2 0 6) (η 0 6) := by rw [eη2]; exact (zup_ne (fun _ e => absurd e (by decide))).trans v8
    replace e9 : x9 = η 0 6 := e9.trans v9
    replace r9 : -2147483648 ≤ x9 ∧ x9 ≤ 2147483647 := r9
    replace e10 : x10 = x4 := e10.trans v6
    replace r10 : -2147483648 ≤ x10 ∧ x10 ≤ 2147483647 := r10
    have v11 : zEq (η1 1 (Int.toNat x10)) (η 1 (Int.toNat x10)) := by rw [eη1]; exact (zup_ne (fun e _ => absurd e (by decide))).trans rfl
    have v12 : zEq (η2 1 (Int.toNat x10)) (η 1 (Int.toNat x10)) := by rw [eη2]; exact (zup_ne (fun e _ => absurd e (by decide))).trans v11
    replace e11 : x11 = η 1 (Int.toNat x10) := e11.trans v12
    replace r11 : -2147483648 ≤ x11 ∧ x11 ≤ 2147483647 := r11
    replace e12 : x12 = x2 := e12.trans v5
    replace r12 : -2147483648 ≤ x12 ∧ x12 ≤ 2147483647 := r12
    replace e13 : x13 = x2 := e13.trans v5
    replace r13 : -2147483648 ≤ x13 ∧ x13 ≤ 2147483647 := r13
    have w0_0_8 : (0 : Int) ≤ η 0 8 ∧ η 0 8 ≤ 6 := wf_ok (a := 8) (b := 8) (z := (0, 6)) hp.1 (by decide +kernel) (Nat.le_refl _) (Nat.le_refl _)
    have v14 : zEq (η1 0 8) (η 0 8) := by rw [eη1]; exact (zup_ne (fun _ e => absurd e (by decide))).trans rfl
    have v15 : zEq (η2 0 8) (η 0 8) := by rw [eη2]; exact (zup_ne (fun _ e => absurd e (by decide))).trans v14
    have c2_0_8 : η2 0 8 = η 0 8 := v15
    have v16 : zEq (η3 0 9) (x2) := by rw [eη3]; exact (zup_ne (fun _ e => absurd e (by decide))).trans v5
    replace e14 : x14 = x2 := e14.trans v16
    replace r14 : -2147483648 ≤ x14 ∧ x14 ≤ 2147483647 := r14
    have c3_0_9 : η3 0 9 = x2 := v16
    have v17 : ∀ j, η1 2 j = η 2 j := fun j => by rw [eη1]; exact zup_ne (fun e _ => absurd e (by decide))
    have v18 : ∀ j, η2 2 j = η 2 j := fun j => by rw [eη2]; exact (zup_ne (fun e _ => absurd e (by decide))).trans (v17 j)
    have v19 : ∀ j, η3 2 j = η 2 j := fun j => by rw [eη3]; exact (zup_ne (fun e _ => absurd e (by decide))).trans (v18 j)
    have v20 : ∀ j, η4 2 j = η 2 j := fun j => by rw [eη4]; exact (zup_ne (fun e _ => absurd e (by decide))).trans (v19 j)
    have fr2 : ∀ j, η4 2 j = η 2 j := v20
    have v21 : zEq (η3 0 7) (x4) := by rw [eη3]; exact (zup_ne (fun _ e => absurd e (by decide))).trans v6
    have v22 : zEq (η4 0 7) (x4) := by rw [eη4]; exact (zup_ne (fun _ e => absurd e (by decide))).trans v21
    have f0_7 : η4 0 7 = x4 := v22
    have v23 : zEq (η3 0 6) (η 0 6) := by rw [eη3]; exact (zup_ne (fun _ e => absurd e (by decide))).trans v9
    have v24 : zEq (η4 0 6) (η 0 6) := by rw [eη4]; exact (zup_ne (fun _ e => absurd e (by decide))).trans v23
    have f0_6 : η4 0 6 = η 0 6 := v24
    have v25 : zEq (η3 0 8) (5) := by rw [eη3]; exact zup_eq
    have v26 : zEq (η4 0 8) (5) := by rw [eη4]; exact (zup_ne (fun _ e => absurd e (by decide))).trans v25
    have f0_8 : η4 0 8 = 5 := v26
    have v27 : zEq (η4 0 9) (2) := by rw [eη4]; exact zup_eq
    have f0_9 : η4 0 9 = 2 := v27
    have s9 : x11 = η 1 x4.toNat := by rw [z9, show x10 = x4 by omega]
    show _ = yq_snS η
    rw [qsn_l (c := x2) (x := x4) (d := x11) (k := 5) (w := 2) (e := 0) z2 (zEq_o z4) (Or.inr (Or.inr (fun d => by unfold yq_sg; (repeat' split) <;> first | (exfalso; omega) | rfl))) (by unfold yq_sg; (repeat' split) <;> first | (exfalso; omega) | rfl)]
    rw [eη4, eη3, eη2, eη1]
    rw [if_pos rfl]
    rfl
set_option maxHeartbeats 8000000 in
theorem zke_signToken {ro : Nat → List Int32} : zMet pr_P pr_K pr_df ro (sm_X0 1 6) 0 123 tm_ke [(.inr (.inr (.inl (nat_lit 0))))] 0 [(nat_lit 0, nat_lit 0, nat_lit 1), (nat_lit 0, nat_lit 3, nat_lit 2), (nat_lit 0, nat_lit 20, nat_lit 3), (nat_lit 0, nat_lit 21, nat_lit 4), (nat_lit 0, nat_lit 22, nat_lit 5), (nat_lit 0, nat_lit 23, nat_lit 6), (nat_lit 0, nat_lit 24, nat_lit 7), (nat_lit 0, nat_lit 25, nat_lit 8), (nat_lit 0, nat_lit 26, nat_lit 9), (nat_lit 0, nat_lit 27, nat_lit 10), (nat_lit 0, nat_lit 28, nat_lit 11), (nat_lit 0, nat_lit 29, nat_lit 12), (nat_lit 0, nat_lit 30, nat_lit 13), (nat_lit 0, nat_lit 31, nat_lit 14), (nat_lit 0, nat_lit 32, nat_lit 15), (nat_lit 0, nat_lit 33, nat_lit 16), (nat_lit 0, nat_lit 34, nat_lit 17), (nat_lit 0, nat_lit 35, nat_lit 18), (nat_lit 0, nat_lit 36, nat_lit 19), (nat_lit 0, nat_lit 37, nat_lit 20), (nat_lit 0, nat_lit 38, nat_lit 21), (nat_lit 0, nat_lit 39, nat_lit 22), (nat_lit 0, nat_lit 40, nat_lit 23), (nat_lit 0, nat_lit 47, nat_lit 24), (nat_lit 0, nat_lit 48, nat_lit 25), (nat_lit 0, nat_lit 50, nat_lit 26), (nat_lit 0, nat_lit 51, nat_lit 27), (nat_lit 0, nat_lit 52, nat_lit 28), (nat_lit 0, nat_lit 53, nat_lit 29), (nat_lit 0, nat_lit 54, nat_lit 30), (nat_lit 0, nat_lit 55, nat_lit 31), (nat_lit 0, nat_lit 56, nat_lit 32), (nat_lit 0, nat_lit 57, nat_lit 33), (nat_lit 0, nat_lit 58, nat_lit 34), (nat_lit 0, nat_lit 59, nat_lit 35), (nat_lit 0, nat_lit 72, nat_lit 36), (nat_lit 0, nat_lit 73, nat_lit 37), (nat_lit 0, nat_lit 76, nat_lit 38), (nat_lit 0, nat_lit 77, nat_lit 39), (nat_lit 0, nat_lit 79, nat_lit 40), (nat_lit 0, nat_lit 81, nat_lit 41), (nat_lit 0, nat_lit 82, nat_lit 42)] [] (fun xs η => sP wl_ke zTr zPke_signToken xs η ∧ pPke_signToken xs η) (fun xs η y η' => sQ wl_ke zTr zOke_signToken zMke_signToken xs η y η' ∧ pQke_signToken xs η y η') :=
  zmet_alt (zmea_gen (mi := (nat_lit 0, nat_lit 1, nat_lit 8, nat_lit 4, nat_lit 0, tX8_signToken)) (cd := []) (cu := []) (cs := []) (iv := zVke_signToken) (po := [zOke_signToken]) (pr := zPke_signToken) (mods := zMke_signToken) (D7 := zDke_signToken) (D0 := zEke_signToken) (Dm := zFke_signToken) (f0 := 83) pCke_signToken qCke_signToken iCke_signToken pPke_signToken (fun xs η _ y η' => pQke_signToken xs η y η') zX_low pr_mtR rfl (fun _ h => nomatch h) (by decide +kernel) (by decide +kernel) (by decide +kernel)
    (by
      intro xs η hr hl hp hpp
      match xs, hl, hp, hpp with
      | [], _, hp, hpp =>
        refine List.forall_mem_cons.mpr ⟨?_, List.forall_mem_cons.mpr ⟨?_, List.forall_mem_cons.mpr ⟨?_, List.forall_mem_cons.mpr ⟨?_, List.forall_mem_cons.mpr ⟨?_, List.forall_mem_cons.mpr ⟨?_, List.forall_mem_cons.mpr ⟨?_, List.forall_mem_cons.mpr ⟨?_, List.forall_mem_cons.mpr ⟨?_, List.forall_mem_cons.mpr ⟨?_, List.forall_mem_cons.mpr ⟨?_, List.forall_mem_cons.mpr ⟨?_, List.forall_mem_cons.mpr ⟨?_, List.forall_mem_cons.mpr ⟨?_, List.forall_mem_cons.mpr ⟨?_, List.forall_mem_cons.mpr ⟨?_, List.forall_mem_cons.mpr ⟨?_, List.forall_mem_cons.mpr ⟨?_, fun _ h => nomatch h⟩⟩⟩⟩⟩⟩⟩⟩⟩⟩⟩⟩⟩⟩⟩⟩⟩⟩
        · refine zden_L (n := 1) (ρ := [0]) rfl ?_
          exact zke_signToken_o0 (ro := ro)  η hp hpp
        · refine zden_L (n := 1) (ρ := [0]) rfl ?_
          exact zke_signToken_o1 (ro := ro)  η hp hpp
        · refine zden_L (n := 1) (ρ := [0]) rfl ?_
          exact zke_signToken_o2 (ro := ro)  η hp hpp
        · refine zden_L (n := 1) (ρ := [0]) rfl ?_
          exact zke_signToken_o3 (ro := ro)  η hp hpp
        · refine zden_L (n := 1) (ρ := [0]) rfl ?_
          exact zke_signToken_o4 (ro := ro)  η hp hpp
        · refine zden_L (n := 1) (ρ := [0]) rfl ?_
          exact zke_signToken_o5 (ro := ro)  η hp hpp
        · refine zden_L (n := 1) (ρ := [0]) rfl ?_
          exact zke_signToken_o6 (ro := ro)  η hp hpp
        · refine zden_L (n := 1) (ρ := [0]) rfl ?_
          exact zke_signToken_o7 (ro := ro)  η hp hpp
        · refine zden_L (n := 1) (ρ := [0]) rfl ?_
          exact zke_signToken_o8 (ro := ro)  η hp hpp
        · refine zden_L (n := 1) (ρ := [0]) rfl ?_
          exact zke_signToken_o9 (ro := ro)  η hp hpp
        · refine zden_L (n := 1) (ρ := [0]) rfl ?_
          exact zke_signToken_o10 (ro := ro)  η hp hpp
        · refine zden_L (n := 1) (ρ := [0]) rfl ?_
          exact zke_signToken_o11 (ro := ro)  η hp hpp
        · refine zden_L (n := 1) (ρ := [0]) rfl ?_
          exact zke_signToken_o12 (ro := ro)  η hp hpp
        · refine zden_L (n := 1) (ρ := [0]) rfl ?_
          exact zke_signToken_o13 (ro := ro)  η hp hpp
        · refine zden_L (n := 1) (ρ := [0]) rfl ?_
          exact zke_signToken_o14 (ro := ro)  η hp hpp
        · refine zden_L (n := 1) (ρ := [0]) rfl ?_
          exact zke_signToken_o15 (ro := ro)  η hp hpp
        · refine zden_L (n := 1) (ρ := [0]) rfl ?_
          exact zke_signToken_o16 (ro := ro)  η hp hpp
        · refine zden_L (n := 1) (ρ := [0]) rfl ?_
          exact zke_signToken_o17 (ro := ro)  η hp hpp
      )
    (fun _ _ _ _ _ _ _ h => nomatch h)
    (fun _ h => nomatch h))
