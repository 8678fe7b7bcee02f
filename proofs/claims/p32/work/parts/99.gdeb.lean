set_option maxHeartbeats 8000000 in
theorem zgs_bestBit7_o0 {ro : Nat → List Int32} (x1 : Int) (η : zE) (hp : sP wl_gs zTr zPgs_bestBit7 [x1] η) (hpp : pPgs_bestBit7 [x1] η) : ∀ (x2 : Int) (η1 : zE), ((gC2 wl_gs [(nat_lit 0, zPgs_within, zOgs_within, zMgs_within)] pCgs_bestBit7 qCgs_bestBit7) 0).2 [x1, 1, 12] η x2 η1 → (¬ x2 = 0) → (iCgs_bestBit7 [x1] η) 0 [x1, (-2), 0, 0] η1 := by
  intro x2 η1 h2 c1
  have y2 : fQgs_within [x1, 1, 12] η x2 η1 := h2.2.2
  have k2 : sQ wl_gs zTr zOgs_within zMgs_within [x1, 1, 12] η x2 η1 ∧ oQgs_within [x1, 1, 12] η x2 η1 := ⟨h2.1, h2.2.1⟩
  refine yj_a ?_ ?_
  · have y2 : fQgs_within [x1, 1, 12] η x2 η1 := h2.2.2
    have k2 : sQ wl_gs zTr zOgs_within zMgs_within [x1, 1, 12] η x2 η1 ∧ oQgs_within [x1, 1, 12] η x2 η1 := ⟨h2.1, h2.2.1⟩
    exact trivial
  · obtain ⟨a2, b2⟩ : x2 = yq_in x1 1 12 ∧ η1 = η := y2
    show yv_bI η x1 x1 (-2) 0 0 η1
    exact vbI_0 b2 (by omega)
set_option maxHeartbeats 8000000 in
theorem zgs_bestBit7_o1 {ro : Nat → List Int32} (x1 : Int) (η : zE) (hp : sP wl_gs zTr zPgs_bestBit7 [x1] η) (hpp : pPgs_bestBit7 [x1] η) : ∀ (x2 : Int) (η1 : zE), ((gC2 wl_gs [(nat_lit 0, zPgs_within, zOgs_within, zMgs_within)] pCgs_bestBit7 qCgs_bestBit7) 0).2 [x1, 1, 12] η x2 η1 → (x2 = 0) → (fun (_ : Nat) (y : Int) (η' : zE) => pQgs_bestBit7 [x1] η y η') 0 (-1) η1 := by
  intro x2 η1 h2 c1
  have y2 : fQgs_within [x1, 1, 12] η x2 η1 := h2.2.2
  have k2 : sQ wl_gs zTr zOgs_within zMgs_within [x1, 1, 12] η x2 η1 ∧ oQgs_within [x1, 1, 12] η x2 η1 := ⟨h2.1, h2.2.1⟩
  refine yj_a ?_ ?_
  · have y2 : fQgs_within [x1, 1, 12] η x2 η1 := h2.2.2
    have k2 : sQ wl_gs zTr zOgs_within zMgs_within [x1, 1, 12] η x2 η1 ∧ oQgs_within [x1, 1, 12] η x2 η1 := ⟨h2.1, h2.2.1⟩
    exact trivial
  · obtain ⟨a2, b2⟩ : x2 = yq_in x1 1 12 ∧ η1 = η := y2
    show -1 = yv_bb x1 η ∧ η1 = η
    exact ⟨by unfold yv_bb; rw [if_pos (by omega)], b2⟩
set_option maxHeartbeats 8000000 in
theorem zgs_bestBit7_o2 {ro : Nat → List Int32} (xs : List Int) (η0 : zE) (hp : sP wl_gs zTr zPgs_bestBit7 xs η0) (hpp : pPgs_bestBit7 xs η0) (x1 x2 x3 x4 : Int) (η : zE) (hI : zsI wl_gs zTr zVgs_bestBit7 zMgs_bestBit7 η0 0 [x1, x2, x3, x4] η) (hig : iCgs_bestBit7 xs η0 0 [x1, x2, x3, x4] η) : ∀ x5 : Int, x5 = zd 0 1 x4 x1 → ∀ x6 : Int, x6 = η 2 (Int.toNat 1) → zok 0 x6 → (x6 < x5) → (fun (_ : Nat) (y : Int) (η' : zE) => pQgs_bestBit7 xs η0 y η') 0 x2 η := by
  have fig := hig.2
  have hig := hig.1
  intro x5 e5 x6 e6 r6 c1
  refine yj_a ?_ ?_
  · exact trivial
  · have e5 : x5 = zd 0 1 x4 x1 := e5
    have e6 : x6 = η 2 1 := e6
    have b4 : (0 : Int) ≤ x4 ∧ x4 ≤ 6 := hI.1.2.1.2.2.2.1
    exact vbI_e (k := x1) (m := x3) (f := x4) fig (by omega) e5 (by rw [← e6]; omega)
set_option maxHeartbeats 8000000 in
theorem zgs_bestBit7_o3 {ro : Nat → List Int32} (xs : List Int) (η0 : zE) (hp : sP wl_gs zTr zPgs_bestBit7 xs η0) (hpp : pPgs_bestBit7 xs η0) (x1 x2 x3 x4 : Int) (η : zE) (hI : zsI wl_gs zTr zVgs_bestBit7 zMgs_bestBit7 η0 0 [x1, x2, x3, x4] η) (hig : iCgs_bestBit7 xs η0 0 [x1, x2, x3, x4] η) : ∀ x5 : Int, x5 = zd 0 1 x4 x1 → ∀ x6 : Int, x6 = η 2 (Int.toNat 1) → zok 0 x6 → (x5 ≤ x6) → (iCgs_bestBit7 xs η0) 1 [x1, x2, x3, x4, 0, x4] η ∧ (fun (_ : Nat) (_ : List Int) (_ : zE) => (0 : Nat)) 1 [x1, x2, x3, x4, 0, x4] η < 1 := by
  have fig := hig.2
  have hig := hig.1
  intro x5 e5 x6 e6 r6 c1
  refine yj_c ?_ ?_
  · exact ⟨trivial, Nat.zero_lt_one⟩
  · have e5 : x5 = zd 0 1 x4 x1 := e5
    have e6 : x6 = η 2 1 := e6
    have b4 : (0 : Int) ≤ x4 ∧ x4 ≤ 6 := hI.1.2.1.2.2.2.1
    show yv_bJ η0 (xs.getD 0 0) x1 x2 x3 x4 0 x4 η
    exact vbJ_0 fig (by omega) e5 (by rw [← e6]; omega)
set_option maxHeartbeats 8000000 in
theorem zgs_bestBit7_o4 {ro : Nat → List Int32} (xs : List Int) (η0 : zE) (hp : sP wl_gs zTr zPgs_bestBit7 xs η0) (hpp : pPgs_bestBit7 xs η0) (x1 x2 x3 x4 x5 x6 : Int) (η : zE) (hI : zsI wl_gs zTr zVgs_bestBit7 zMgs_bestBit7 η0 1 [x1, x2, x3, x4, x5, x6] η) (hig : iCgs_bestBit7 xs η0 1 [x1, x2, x3, x4, x5, x6] η) : ∀ x7 : Int, x7 = zd 0 1 x4 x1 → (x7 ≤ x6) → (x2 < 0) → ∀ x8 : Int, x8 = zd 0 1 x4 1 → (iCgs_bestBit7 xs η0) 0 [x1, x4, x5, x8] η ∧ (fun (_ : Nat) (_ : List Int) (_ : zE) => (0 : Nat)) 0 [x1, x4, x5, x8] η < 1 := by
  have fig := hig.2
  have hig := hig.1
  intro x7 e7 c1 c2 x8 e8
  refine yj_c ?_ ?_
  · exact ⟨trivial, Nat.zero_lt_one⟩
  · have e7 : x7 = zd 0 1 x4 x1 := e7
    have e8 : x8 = zd 0 1 x4 1 := e8
    have b4 : (0 : Int) ≤ x4 ∧ x4 ≤ 5 := hI.1.2.1.2.2.2.1
    show yv_bI η0 (xs.getD 0 0) x1 x4 x5 x8 η
    refine vbJ_e (b := x2) (m := x3) (k := x1) (f := x4) (g := x6) (s := x5) fig (by omega) e7 (by omega) e8 ?_
    rw [if_pos (by omega)]
set_option maxHeartbeats 8000000 in
theorem zgs_bestBit7_o5 {ro : Nat → List Int32} (xs : List Int) (η0 : zE) (hp : sP wl_gs zTr zPgs_bestBit7 xs η0) (hpp : pPgs_bestBit7 xs η0) (x1 x2 x3 x4 x5 x6 : Int) (η : zE) (hI : zsI wl_gs zTr zVgs_bestBit7 zMgs_bestBit7 η0 1 [x1, x2, x3, x4, x5, x6] η) (hig : iCgs_bestBit7 xs η0 1 [x1, x2, x3, x4, x5, x6] η) : ∀ x7 : Int, x7 = zd 0 1 x4 x1 → (x7 ≤ x6) → (0 ≤ x2) → (x5 ≤ x3) → ∀ x8 : Int, x8 = zd 0 1 x4 1 → (iCgs_bestBit7 xs η0) 0 [x1, x2, x3, x8] η ∧ (fun (_ : Nat) (_ : List Int) (_ : zE) => (0 : Nat)) 0 [x1, x2, x3, x8] η < 1 := by
  have fig := hig.2
  have hig := hig.1
  intro x7 e7 c1 c2 c3 x8 e8
  refine yj_c ?_ ?_
  · exact ⟨trivial, Nat.zero_lt_one⟩
  · have e7 : x7 = zd 0 1 x4 x1 := e7
    have e8 : x8 = zd 0 1 x4 1 := e8
    have b4 : (0 : Int) ≤ x4 ∧ x4 ≤ 5 := hI.1.2.1.2.2.2.1
    show yv_bI η0 (xs.getD 0 0) x1 x2 x3 x8 η
    refine vbJ_e (b := x2) (m := x3) (k := x1) (f := x4) (g := x6) (s := x5) fig (by omega) e7 (by omega) e8 ?_
    rw [if_neg (by omega)]
set_option maxHeartbeats 8000000 in
theorem zgs_bestBit7_o6 {ro : Nat → List Int32} (xs : List Int) (η0 : zE) (hp : sP wl_gs zTr zPgs_bestBit7 xs η0) (hpp : pPgs_bestBit7 xs η0) (x1 x2 x3 x4 x5 x6 : Int) (η : zE) (hI : zsI wl_gs zTr zVgs_bestBit7 zMgs_bestBit7 η0 1 [x1, x2, x3, x4, x5, x6] η) (hig : iCgs_bestBit7 xs η0 1 [x1, x2, x3, x4, x5, x6] η) : ∀ x7 : Int, x7 = zd 0 1 x4 x1 → (x7 ≤ x6) → (0 ≤ x2) → (x3 < x5) → ∀ x8 : Int, x8 = zd 0 1 x4 1 → (iCgs_bestBit7 xs η0) 0 [x1, x4, x5, x8] η ∧ (fun (_ : Nat) (_ : List Int) (_ : zE) => (0 : Nat)) 0 [x1, x4, x5, x8] η < 1 := by
  have fig := hig.2
  have hig := hig.1
  intro x7 e7 c1 c2 c3 x8 e8
  refine yj_c ?_ ?_
  · exact ⟨trivial, Nat.zero_lt_one⟩
  · have e7 : x7 = zd 0 1 x4 x1 := e7
    have e8 : x8 = zd 0 1 x4 1 := e8
    have b4 : (0 : Int) ≤ x4 ∧ x4 ≤ 5 := hI.1.2.1.2.2.2.1
    show yv_bI η0 (xs.getD 0 0) x1 x4 x5 x8 η
    refine vbJ_e (b := x2) (m := x3) (k := x1) (f := x4) (g := x6) (s := x5) fig (by omega) e7 (by omega) e8 ?_
    rw [if_pos (by omega)]
set_option maxHeartbeats 8000000 in
theorem zgs_bestBit7_o7 {ro : Nat → List Int32} (xs : List Int) (η0 : zE) (hp : sP wl_gs zTr zPgs_bestBit7 xs η0) (hpp : pPgs_bestBit7 xs η0) (x1 x2 x3 x4 x5 x6 : Int) (η : zE) (hI : zsI wl_gs zTr zVgs_bestBit7 zMgs_bestBit7 η0 1 [x1, x2, x3, x4, x5, x6] η) (hig : iCgs_bestBit7 xs η0 1 [x1, x2, x3, x4, x5, x6] η) : ∀ x7 : Int, x7 = zd 0 1 x4 x1 → (x6 < x7) → ∀ x8 : Int, x8 = η 4 (Int.toNat x6) → zok 0 x8 → ∀ x9 : Int, x9 = zd 0 1 x5 x8 → ∀ x10 : Int, x10 = zd 0 1 x6 1 → (iCgs_bestBit7 xs η0) 1 [x1, x2, x3, x4, x9, x10] η ∧ (fun (_ : Nat) (_ : List Int) (_ : zE) => (0 : Nat)) 1 [x1, x2, x3, x4, x9, x10] η < 1 := by
  have fig := hig.2
  have hig := hig.1
  intro x7 e7 c1 x8 e8 r8 x9 e9 x10 e10
  refine yj_c ?_ ?_
  · exact ⟨trivial, Nat.zero_lt_one⟩
  · have e7 : x7 = zd 0 1 x4 x1 := e7
    have e8 : x8 = η 4 (Int.toNat x6) := e8
    have e9 : x9 = zd 0 1 x5 x8 := e9
    have e10 : x10 = zd 0 1 x6 1 := e10
    have b4 : (0 : Int) ≤ x4 ∧ x4 ≤ 5 := hI.1.2.1.2.2.2.1
    show yv_bJ η0 (xs.getD 0 0) x1 x2 x3 x4 x9 x10 η
    exact vbJ_s (k := x1) (f := x4) (g := x6) fig (by omega) e7 (by omega) e8 e9 e10
set_option maxHeartbeats 8000000 in
theorem zgs_bestBit7 {ro : Nat → List Int32} : zMet pr_P pr_K pr_df ro (sm_X0 1 6) 1 98 tm_gs [(.inr (.inr (.inl (nat_lit 0)))), (.inl (nat_lit 1, (.ofNat (nat_lit 0))))] 1 [(nat_lit 0, nat_lit 0, nat_lit 1), (nat_lit 0, nat_lit 4, nat_lit 2), (nat_lit 0, nat_lit 5, nat_lit 32), (nat_lit 0, nat_lit 6, nat_lit 60), (nat_lit 0, nat_lit 7, nat_lit 70), (nat_lit 0, nat_lit 8, nat_lit 74), (nat_lit 0, nat_lit 11, nat_lit 78), (nat_lit 0, nat_lit 12, nat_lit 82), (nat_lit 0, nat_lit 13, nat_lit 90), (nat_lit 0, nat_lit 14, nat_lit 91), (nat_lit 0, nat_lit 15, nat_lit 95), (nat_lit 0, nat_lit 16, nat_lit 101), (nat_lit 2, nat_lit 8, nat_lit 3), (nat_lit 2, nat_lit 9, nat_lit 4), (nat_lit 2, nat_lit 10, nat_lit 5), (nat_lit 2, nat_lit 11, nat_lit 6), (nat_lit 2, nat_lit 12, nat_lit 11), (nat_lit 2, nat_lit 13, nat_lit 16), (nat_lit 2, nat_lit 14, nat_lit 17), (nat_lit 6, nat_lit 0, nat_lit 7), (nat_lit 11, nat_lit 0, nat_lit 12), (nat_lit 6, nat_lit 1, nat_lit 8), (nat_lit 11, nat_lit 1, nat_lit 13), (nat_lit 6, nat_lit 2, nat_lit 9), (nat_lit 11, nat_lit 2, nat_lit 14), (nat_lit 6, nat_lit 3, nat_lit 10), (nat_lit 11, nat_lit 3, nat_lit 15), (nat_lit 17, nat_lit 2, nat_lit 18), (nat_lit 17, nat_lit 3, nat_lit 19), (nat_lit 17, nat_lit 4, nat_lit 20), (nat_lit 17, nat_lit 5, nat_lit 21), (nat_lit 17, nat_lit 6, nat_lit 22), (nat_lit 32, nat_lit 8, nat_lit 33), (nat_lit 32, nat_lit 9, nat_lit 34), (nat_lit 32, nat_lit 10, nat_lit 35), (nat_lit 32, nat_lit 11, nat_lit 36), (nat_lit 32, nat_lit 12, nat_lit 41), (nat_lit 32, nat_lit 13, nat_lit 46), (nat_lit 32, nat_lit 14, nat_lit 47), (nat_lit 36, nat_lit 0, nat_lit 37), (nat_lit 41, nat_lit 0, nat_lit 42), (nat_lit 36, nat_lit 1, nat_lit 38), (nat_lit 41, nat_lit 1, nat_lit 43), (nat_lit 36, nat_lit 2, nat_lit 39), (nat_lit 41, nat_lit 2, nat_lit 44), (nat_lit 36, nat_lit 3, nat_lit 40), (nat_lit 41, nat_lit 3, nat_lit 45), (nat_lit 47, nat_lit 2, nat_lit 48), (nat_lit 47, nat_lit 3, nat_lit 49), (nat_lit 47, nat_lit 4, nat_lit 50), (nat_lit 47, nat_lit 5, nat_lit 51), (nat_lit 47, nat_lit 6, nat_lit 52), (nat_lit 60, nat_lit 3, nat_lit 1), (nat_lit 60, nat_lit 9, nat_lit 61), (nat_lit 60, nat_lit 10, nat_lit 62), (nat_lit 60, nat_lit 11, nat_lit 63), (nat_lit 70, nat_lit 8, nat_lit 71), (nat_lit 70, nat_lit 9, nat_lit 72), (nat_lit 70, nat_lit 10, nat_lit 73), (nat_lit 74, nat_lit 8, nat_lit 75), (nat_lit 74, nat_lit 9, nat_lit 76), (nat_lit 74, nat_lit 10, nat_lit 77), (nat_lit 78, nat_lit 8, nat_lit 79), (nat_lit 78, nat_lit 9, nat_lit 80), (nat_lit 78, nat_lit 10, nat_lit 81), (nat_lit 82, nat_lit 8, nat_lit 83), (nat_lit 82, nat_lit 9, nat_lit 84), (nat_lit 82, nat_lit 10, nat_lit 85), (nat_lit 91, nat_lit 1, nat_lit 92), (nat_lit 91, nat_lit 2, nat_lit 93), (nat_lit 91, nat_lit 3, nat_lit 94), (nat_lit 95, nat_lit 2, nat_lit 96), (nat_lit 95, nat_lit 3, nat_lit 97), (nat_lit 95, nat_lit 4, nat_lit 98), (nat_lit 95, nat_lit 5, nat_lit 99), (nat_lit 95, nat_lit 6, nat_lit 100)] [] (fun xs η => sP wl_gs zTr zPgs_bestBit7 xs η ∧ pPgs_bestBit7 xs η) (fun xs η y η' => sQ wl_gs zTr zOgs_bestBit7 zMgs_bestBit7 xs η y η' ∧ pQgs_bestBit7 xs η y η') :=
  zmet_alt (zmea_gen (mi := (nat_lit 1, nat_lit 1, nat_lit 7, nat_lit 7, nat_lit 1, tX7_bestBit)) (cd := [(nat_lit 75, nat_lit 0, nat_lit 0, [(.inl (nat_lit 1, (.ofNat (nat_lit 0)))), (.inl (nat_lit 2, (.ofNat (nat_lit 0)))), (.inl (nat_lit 3, (.ofNat (nat_lit 0))))], nat_lit 2, [], [])]) (cu := zUgs_bestBit7) (cs := [(nat_lit 0, zPgs_within, zOgs_within, zMgs_within)]) (iv := zVgs_bestBit7) (po := [zOgs_bestBit7]) (pr := zPgs_bestBit7) (mods := zMgs_bestBit7) (D7 := zDgs_bestBit7) (D0 := zEgs_bestBit7) (Dm := zFgs_bestBit7) (f0 := 16) pCgs_bestBit7 qCgs_bestBit7 iCgs_bestBit7 pPgs_bestBit7 (fun xs η _ y η' => pQgs_bestBit7 xs η y η') zX_low pr_mtR rfl (List.forall_mem_cons.mpr ⟨zgs_within, fun _ h => nomatch h⟩) (by decide +kernel) (by decide +kernel) (by decide +kernel)
    (by
      intro xs η hr hl hp hpp
      match xs, hl, hp, hpp with
      | [x1], _, hp, hpp =>
        refine List.forall_mem_cons.mpr ⟨?_, List.forall_mem_cons.mpr ⟨?_, List.forall_mem_cons.mpr ⟨?_, fun _ h => nomatch h⟩⟩⟩
        · refine zden_L (n := 2) (ρ := [x1, 0]) rfl ?_
          show ((gC2 wl_gs [(nat_lit 0, zPgs_within, zOgs_within, zMgs_within)] pCgs_bestBit7 qCgs_bestBit7) 0).1 [x1, 1, 12] η
          
          exact trivial
        · refine zden_L (n := 2) (ρ := [x1, 0]) rfl ?_
          exact zgs_bestBit7_o0 (ro := ro) x1 η hp hpp
        · refine zden_L (n := 2) (ρ := [x1, 0]) rfl ?_
          exact zgs_bestBit7_o1 (ro := ro) x1 η hp hpp
      )
    (fun _ _ _ _ _ _ _ h => nomatch h)
    (List.forall_mem_cons.mpr ⟨⟨zDgs_bestBit7_0, zEgs_bestBit7_0, zFgs_bestBit7_0, 16, by decide +kernel, (by
      intro xs η0 hlx hp hpp ys η hr hl hI hig
      match ys, hl, hI, hig with
      | [x1, x2, x3, x4], _, hI, hig =>
        refine ⟨?_, ?_⟩
        · refine List.forall_mem_cons.mpr ⟨?_, List.forall_mem_cons.mpr ⟨?_, fun _ h => nomatch h⟩⟩
          · refine zden_L (n := 5) (ρ := [x4, x3, x2, x1, 0]) rfl ?_
            exact zgs_bestBit7_o2 (ro := ro) xs η0 hp hpp x1 x2 x3 x4 η hI hig
          · refine zden_L (n := 5) (ρ := [x4, x3, x2, x1, 0]) rfl ?_
            exact zgs_bestBit7_o3 (ro := ro) xs η0 hp hpp x1 x2 x3 x4 η hI hig
        · exact fun _ h => nomatch h
      )⟩, (List.forall_mem_cons.mpr ⟨⟨zDgs_bestBit7_1, zEgs_bestBit7_1, zFgs_bestBit7_1, 21, by decide +kernel, (by
      intro xs η0 hlx hp hpp ys η hr hl hI hig
      match ys, hl, hI, hig with
      | [x1, x2, x3, x4, x5, x6], _, hI, hig =>
        refine ⟨?_, ?_⟩
        · refine List.forall_mem_cons.mpr ⟨?_, List.forall_mem_cons.mpr ⟨?_, List.forall_mem_cons.mpr ⟨?_, List.forall_mem_cons.mpr ⟨?_, fun _ h => nomatch h⟩⟩⟩⟩
          · refine zden_L (n := 7) (ρ := [x6, x5, x4, x3, x2, x1, 0]) rfl ?_
            exact zgs_bestBit7_o4 (ro := ro) xs η0 hp hpp x1 x2 x3 x4 x5 x6 η hI hig
          · refine zden_L (n := 7) (ρ := [x6, x5, x4, x3, x2, x1, 0]) rfl ?_
            exact zgs_bestBit7_o5 (ro := ro) xs η0 hp hpp x1 x2 x3 x4 x5 x6 η hI hig
          · refine zden_L (n := 7) (ρ := [x6, x5, x4, x3, x2, x1, 0]) rfl ?_
            exact zgs_bestBit7_o6 (ro := ro) xs η0 hp hpp x1 x2 x3 x4 x5 x6 η hI hig
          · refine zden_L (n := 7) (ρ := [x6, x5, x4, x3, x2, x1, 0]) rfl ?_
            exact zgs_bestBit7_o7 (ro := ro) xs η0 hp hpp x1 x2 x3 x4 x5 x6 η hI hig
        · exact fun _ h => nomatch h
      )⟩, (fun _ h => nomatch h)⟩)⟩))
def zPgs_bestBit8 : zPq := ([((.ofNat (nat_lit 8)), (.ofNat (nat_lit 8)))], [])
def zOgs_bestBit8 : zPo := (((.negSucc (nat_lit 2147483647)), (.ofNat (nat_lit 2147483647))), [], [])
def zMgs_bestBit8 : List zCe := []
def pPgs_bestBit8 : List Int → zE → Prop := fun _ _ => True
def oQgs_bestBit8 : List Int → zE → Int → zE → Prop := fun _ _ _ _ => True
def fQgs_bestBit8 : List Int → zE → Int → zE → Prop := fun xs η y η' => y = (yv_bb (xs.getD 0 0) η) ∧ η' = η
def pQgs_bestBit8 : List Int → zE → Int → zE → Prop := fun xs η y η' => oQgs_bestBit8 xs η y η' ∧ fQgs_bestBit8 xs η y η'
def pCgs_bestBit8 : Nat → List Int → zE → Prop := fun c => match c with
  | 0 => pPgs_within
  | _ => fun _ _ => True
def qCgs_bestBit8 : Nat → List Int → zE → Int → zE → Prop := fun c => match c with
  | 0 => pQgs_within
  | _ => fun _ _ _ _ => True
def iCgs_bestBit8 : List Int → zE → Nat → List Int → zE → Prop := fun xs η0 c => match c with
  | 0 => fun ys η => (True) ∧ (yv_bI η0 (xs.getD 0 0) (ys.getD 0 0) (ys.getD 1 0) (ys.getD 2 0) (ys.getD 3 0) η)
  | 1 => fun ys η => (True) ∧ (yv_bJ η0 (xs.getD 0 0) (ys.getD 0 0) (ys.getD 1 0) (ys.getD 2 0) (ys.getD 3 0) (ys.getD 4 0) (ys.getD 5 0) η)
  | _ => fun _ _ => True
def zVgs_bestBit8 : List zIv := [(nat_lit 0, ([((.ofNat (nat_lit 8)), (.ofNat (nat_lit 8))), ((.negSucc (nat_lit 2147483647)), (.ofNat (nat_lit 2147483647))), ((.negSucc (nat_lit 2147483647)), (.ofNat (nat_lit 2147483647))), ((.ofNat (nat_lit 0)), (.ofNat (nat_lit 5)))], []), ((.ofNat (nat_lit 2000)), [((.negSucc (nat_lit 99)), nat_lit 0, nat_lit 3, nat_lit 0)])), (nat_lit 1, ([((.ofNat (nat_lit 8)), (.ofNat (nat_lit 8))), ((.negSucc (nat_lit 2147483647)), (.ofNat (nat_lit 2147483647))), ((.negSucc (nat_lit 2147483647)), (.ofNat (nat_lit 2147483647))), ((.ofNat (nat_lit 0)), (.ofNat (nat_lit 4))), ((.negSucc (nat_lit 2147483647)), (.ofNat (nat_lit 2147483647))), ((.ofNat (nat_lit 0)), (.ofNat (nat_lit 12)))], []), ((.ofNat (nat_lit 1950)), [((.negSucc (nat_lit 99)), nat_lit 0, nat_lit 3, nat_lit 0), ((.negSucc (nat_lit 0)), nat_lit 0, nat_lit 5, nat_lit 0)]))]
def zUgs_bestBit8 : List zCu := [(nat_lit 20, nat_lit 0, [(nat_lit 0, (.inr (.inr (.inl (nat_lit 0))))), (nat_lit 1, (.inl (nat_lit 1, (.ofNat (nat_lit 0))))), (nat_lit 2, (.inl (nat_lit 2, (.ofNat (nat_lit 0))))), (nat_lit 3, (.inl (nat_lit 3, (.ofNat (nat_lit 0))))), (nat_lit 4, (.inl (nat_lit 4, (.ofNat (nat_lit 0)))))], []), (nat_lit 41, nat_lit 1, [(nat_lit 0, (.inr (.inr (.inl (nat_lit 0))))), (nat_lit 1, (.inl (nat_lit 1, (.ofNat (nat_lit 0))))), (nat_lit 2, (.inl (nat_lit 2, (.ofNat (nat_lit 0))))), (nat_lit 3, (.inl (nat_lit 3, (.ofNat (nat_lit 0))))), (nat_lit 4, (.inl (nat_lit 4, (.ofNat (nat_lit 0))))), (nat_lit 5, (.inl (nat_lit 5, (.ofNat (nat_lit 0))))), (nat_lit 6, (.inl (nat_lit 6, (.ofNat (nat_lit 0)))))], [])]
def zDgs_bestBit8 : List (List zK) := []
def zEgs_bestBit8 : List (List zK) := [[(nat_lit 13, nat_lit 0, [(nat_lit 1, (.ofNat (nat_lit 0))), (nat_lit 0, (.ofNat (nat_lit 1))), (nat_lit 0, (.ofNat (nat_lit 12)))])],
  [(nat_lit 12, nat_lit 0, [(nat_lit 1, (.ofNat (nat_lit 0))), (nat_lit 0, (.negSucc (nat_lit 1))), (nat_lit 0, (.ofNat (nat_lit 0))), (nat_lit 0, (.ofNat (nat_lit 0)))]), (nat_lit 6, nat_lit 1, [(nat_lit 2, (.ofNat (nat_lit 0))), (nat_lit 0, (.ofNat (nat_lit 0)))]), (nat_lit 8, nat_lit 0, [(nat_lit 1, (.ofNat (nat_lit 0))), (nat_lit 0, (.ofNat (nat_lit 1))), (nat_lit 0, (.ofNat (nat_lit 12)))])],
  [(nat_lit 11, nat_lit 0, [(nat_lit 0, (.negSucc (nat_lit 0)))]), (nat_lit 6, nat_lit 0, [(nat_lit 2, (.ofNat (nat_lit 0))), (nat_lit 0, (.ofNat (nat_lit 0)))]), (nat_lit 8, nat_lit 0, [(nat_lit 1, (.ofNat (nat_lit 0))), (nat_lit 0, (.ofNat (nat_lit 1))), (nat_lit 0, (.ofNat (nat_lit 12)))])]]
def zFgs_bestBit8 : List (List zK) := []
def zDgs_bestBit8_0 : List (List zK) := []
def zEgs_bestBit8_0 : List (List zK) := [[(nat_lit 11, nat_lit 0, [(nat_lit 2, (.ofNat (nat_lit 0)))]), (nat_lit 6, nat_lit 4, [(nat_lit 5, (.ofNat (nat_lit 0))), (nat_lit 6, (.ofNat (nat_lit 0)))]), (nat_lit 4, nat_lit 0, [(nat_lit 2, (.ofNat (nat_lit 0))), (nat_lit 0, (.ofNat (nat_lit 1)))]), (nat_lit 0, nat_lit 1, [(nat_lit 4, (.ofNat (nat_lit 0))), (nat_lit 1, (.ofNat (nat_lit 0)))])],
  [(nat_lit 10, nat_lit 1, [(nat_lit 1, (.ofNat (nat_lit 0))), (nat_lit 2, (.ofNat (nat_lit 0))), (nat_lit 3, (.ofNat (nat_lit 0))), (nat_lit 4, (.ofNat (nat_lit 0))), (nat_lit 0, (.ofNat (nat_lit 0))), (nat_lit 4, (.ofNat (nat_lit 0)))]), (nat_lit 6, nat_lit 5, [(nat_lit 5, (.ofNat (nat_lit 0))), (nat_lit 6, (.ofNat (nat_lit 0)))]), (nat_lit 4, nat_lit 0, [(nat_lit 2, (.ofNat (nat_lit 0))), (nat_lit 0, (.ofNat (nat_lit 1)))]), (nat_lit 0, nat_lit 1, [(nat_lit 4, (.ofNat (nat_lit 0))), (nat_lit 1, (.ofNat (nat_lit 0)))])]]
def zFgs_bestBit8_0 : List (List zK) := []
def zDgs_bestBit8_1 : List (List zK) := [[(nat_lit 7, nat_lit 0, [(nat_lit 6, (.ofNat (nat_lit 0))), (nat_lit 0, (.ofNat (nat_lit 12)))]), (nat_lit 6, nat_lit 2, [(nat_lit 6, (.ofNat (nat_lit 0))), (nat_lit 7, (.ofNat (nat_lit 0)))]), (nat_lit 0, nat_lit 1, [(nat_lit 4, (.ofNat (nat_lit 0))), (nat_lit 1, (.ofNat (nat_lit 0)))])]]
def zEgs_bestBit8_1 : List (List zK) := [[(nat_lit 10, nat_lit 0, [(nat_lit 1, (.ofNat (nat_lit 0))), (nat_lit 4, (.ofNat (nat_lit 0))), (nat_lit 5, (.ofNat (nat_lit 0))), (nat_lit 8, (.ofNat (nat_lit 0)))]), (nat_lit 0, nat_lit 1, [(nat_lit 4, (.ofNat (nat_lit 0))), (nat_lit 0, (.ofNat (nat_lit 1)))]), (nat_lit 6, nat_lit 2, [(nat_lit 2, (.ofNat (nat_lit 0))), (nat_lit 0, (.ofNat (nat_lit 0)))]), (nat_lit 6, nat_lit 3, [(nat_lit 6, (.ofNat (nat_lit 0))), (nat_lit 7, (.ofNat (nat_lit 0)))]), (nat_lit 0, nat_lit 1, [(nat_lit 4, (.ofNat (nat_lit 0))), (nat_lit 1, (.ofNat (nat_lit 0)))])],
  [(nat_lit 10, nat_lit 0, [(nat_lit 1, (.ofNat (nat_lit 0))), (nat_lit 2, (.ofNat (nat_lit 0))), (nat_lit 3, (.ofNat (nat_lit 0))), (nat_lit 8, (.ofNat (nat_lit 0)))]), (nat_lit 0, nat_lit 1, [(nat_lit 4, (.ofNat (nat_lit 0))), (nat_lit 0, (.ofNat (nat_lit 1)))]), (nat_lit 6, nat_lit 5, [(nat_lit 5, (.ofNat (nat_lit 0))), (nat_lit 3, (.ofNat (nat_lit 0)))]), (nat_lit 6, nat_lit 3, [(nat_lit 2, (.ofNat (nat_lit 0))), (nat_lit 0, (.ofNat (nat_lit 0)))]), (nat_lit 6, nat_lit 3, [(nat_lit 6, (.ofNat (nat_lit 0))), (nat_lit 7, (.ofNat (nat_lit 0)))]), (nat_lit 0, nat_lit 1, [(nat_lit 4, (.ofNat (nat_lit 0))), (nat_lit 1, (.ofNat (nat_lit 0)))])],
  [(nat_lit 10, nat_lit 0, [(nat_lit 1, (.ofNat (nat_lit 0))), (nat_lit 4, (.ofNat (nat_lit 0))), (nat_lit 5, (.ofNat (nat_lit 0))), (nat_lit 8, (.ofNat (nat_lit 0)))]), (nat_lit 0, nat_lit 1, [(nat_lit 4, (.ofNat (nat_lit 0))), (nat_lit 0, (.ofNat (nat_lit 1)))]), (nat_lit 6, nat_lit 4, [(nat_lit 5, (.ofNat (nat_lit 0))), (nat_lit 3, (.ofNat (nat_lit 0)))]), (nat_lit 6, nat_lit 3, [(nat_lit 2, (.ofNat (nat_lit 0))), (nat_lit 0, (.ofNat (nat_lit 0)))]), (nat_lit 6, nat_lit 3, [(nat_lit 6, (.ofNat (nat_lit 0))), (nat_lit 7, (.ofNat (nat_lit 0)))]), (nat_lit 0, nat_lit 1, [(nat_lit 4, (.ofNat (nat_lit 0))), (nat_lit 1, (.ofNat (nat_lit 0)))])],
  [(nat_lit 10, nat_lit 1, [(nat_lit 1, (.ofNat (nat_lit 0))), (nat_lit 2, (.ofNat (nat_lit 0))), (nat_lit 3, (.ofNat (nat_lit 0))), (nat_lit 4, (.ofNat (nat_lit 0))), (nat_lit 9, (.ofNat (nat_lit 0))), (nat_lit 10, (.ofNat (nat_lit 0)))]), (nat_lit 0, nat_lit 1, [(nat_lit 6, (.ofNat (nat_lit 0))), (nat_lit 0, (.ofNat (nat_lit 1)))]), (nat_lit 0, nat_lit 1, [(nat_lit 5, (.ofNat (nat_lit 0))), (nat_lit 8, (.ofNat (nat_lit 0)))]), (nat_lit 4, nat_lit 0, [(nat_lit 4, (.ofNat (nat_lit 0))), (nat_lit 6, (.ofNat (nat_lit 0)))]), (nat_lit 6, nat_lit 2, [(nat_lit 6, (.ofNat (nat_lit 0))), (nat_lit 7, (.ofNat (nat_lit 0)))]), (nat_lit 0, nat_lit 1, [(nat_lit 4, (.ofNat (nat_lit 0))), (nat_lit 1, (.ofNat (nat_lit 0)))])]]
def zFgs_bestBit8_1 : List (List zK) := []
set_option maxHeartbeats 8000000 in
theorem zgs_bestBit8_o0 {ro : Nat → List Int32} (x1 : Int) (η : zE) (hp : sP wl_gs zTr zPgs_bestBit8 [x1] η) (hpp : pPgs_bestBit8 [x1] η) : ∀ (x2 : Int) (η1 : zE), ((gC2 wl_gs [(nat_lit 0, zPgs_within, zOgs_within, zMgs_within)] pCgs_bestBit8 qCgs_bestBit8) 0).2 [x1, 1, 12] η x2 η1 → (¬ x2 = 0) → (iCgs_bestBit8 [x1] η) 0 [x1, (-2), 0, 0] η1 := by
  intro x2 η1 h2 c1
  have y2 : fQgs_within [x1, 1, 12] η x2 η1 := h2.2.2
  have k2 : sQ wl_gs zTr zOgs_within zMgs_within [x1, 1, 12] η x2 η1 ∧ oQgs_within [x1, 1, 12] η x2 η1 := ⟨h2.1, h2.2.1⟩
  refine yj_a ?_ ?_
  · have y2 : fQgs_within [x1, 1, 12] η x2 η1 := h2.2.2
    have k2 : sQ wl_gs zTr zOgs_within zMgs_within [x1, 1, 12] η x2 η1 ∧ oQgs_within [x1, 1, 12] η x2 η1 := ⟨h2.1, h2.2.1⟩
    exact trivial
  · obtain ⟨a2, b2⟩ : x2 = yq_in x1 1 12 ∧ η1 = η := y2
    show yv_bI η x1 x1 (-2) 0 0 η1
    exact vbI_0 b2 (by omega)
set_option maxHeartbeats 8000000 in
theorem zgs_bestBit8_o1 {ro : Nat → List Int32} (x1 : Int) (η : zE) (hp : sP wl_gs zTr zPgs_bestBit8 [x1] η) (hpp : pPgs_bestBit8 [x1] η) : ∀ (x2 : Int) (η1 : zE), ((gC2 wl_gs [(nat_lit 0, zPgs_within, zOgs_within, zMgs_within)] pCgs_bestBit8 qCgs_bestBit8) 0).2 [x1, 1, 12] η x2 η1 → (x2 = 0) → (fun (_ : Nat) (y : Int) (η' : zE) => pQgs_bestBit8 [x1] η y η') 0 (-1) η1 := by
  intro x2 η1 h2 c1
  have y2 : fQgs_within [x1, 1, 12] η x2 η1 := h2.2.2
  have k2 : sQ wl_gs zTr zOgs_within zMgs_within [x1, 1, 12] η x2 η1 ∧ oQgs_within [x1, 1, 12] η x2 η1 := ⟨h2.1, h2.2.1⟩
  refine yj_a ?_ ?_
  · have y2 : fQgs_within [x1, 1, 12] η x2 η1 := h2.2.2
    have k2 : sQ wl_gs zTr zOgs_within zMgs_within [x1, 1, 12] η x2 η1 ∧ oQgs_within [x1, 1, 12] η x2 η1 := ⟨h2.1, h2.2.1⟩
    exact trivial
  · obtain ⟨a2, b2⟩ : x2 = yq_in x1 1 12 ∧ η1 = η := y2
    show -1 = yv_bb x1 η ∧ η1 = η
    exact ⟨by unfold yv_bb; rw [if_pos (by omega)], b2⟩
set_option maxHeartbeats 8000000 in
theorem zgs_bestBit8_o2 {ro : Nat → List Int32} (xs : List Int) (η0 : zE) (hp : sP wl_gs zTr zPgs_bestBit8 xs η0) (hpp : pPgs_bestBit8 xs η0) (x1 x2 x3 x4 : Int) (η : zE) (hI : zsI wl_gs zTr zVgs_bestBit8 zMgs_bestBit8 η0 0 [x1, x2, x3, x4] η) (hig : iCgs_bestBit8 xs η0 0 [x1, x2, x3, x4] η) : ∀ x5 : Int, x5 = zd 0 1 x4 x1 → ∀ x6 : Int, x6 = η 2 (Int.toNat 1) → zok 0 x6 → (x6 < x5) → (fun (_ : Nat) (y : Int) (η' : zE) => pQgs_bestBit8 xs η0 y η') 0 x2 η := by
  have fig := hig.2
  have hig := hig.1
  intro x5 e5 x6 e6 r6 c1
  refine yj_a ?_ ?_
  · exact trivial
  · have e5 : x5 = zd 0 1 x4 x1 := e5
    have e6 : x6 = η 2 1 := e6
    have b4 : (0 : Int) ≤ x4 ∧ x4 ≤ 5 := hI.1.2.1.2.2.2.1
    exact vbI_e (k := x1) (m := x3) (f := x4) fig (by omega) e5 (by rw [← e6]; omega)
set_option maxHeartbeats 8000000 in
theorem zgs_bestBit8_o3 {ro : Nat → List Int32} (xs : List Int) (η0 : zE) (hp : sP wl_gs zTr zPgs_bestBit8 xs η0) (hpp : pPgs_bestBit8 xs η0) (x1 x2 x3 x4 : Int) (η : zE) (hI : zsI wl_gs zTr zVgs_bestBit8 zMgs_bestBit8 η0 0 [x1, x2, x3, x4] η) (hig : iCgs_bestBit8 xs η0 0 [x1, x2, x3, x4] η) : ∀ x5 : Int, x5 = zd 0 1 x4 x1 → ∀ x6 : Int, x6 = η 2 (Int.toNat 1) → zok 0 x6 → (x5 ≤ x6) → (iCgs_bestBit8 xs η0) 1 [x1, x2, x3, x4, 0, x4] η ∧ (fun (_ : Nat) (_ : List Int) (_ : zE) => (0 : Nat)) 1 [x1, x2, x3, x4, 0, x4] η < 1 := by
  have fig := hig.2
  have hig := hig.1
  intro x5 e5 x6 e6 r6 c1
  refine yj_c ?_ ?_
  · exact ⟨trivial, Nat.zero_lt_one⟩
  · have e5 : x5 = zd 0 1 x4 x1 := e5
    have e6 : x6 = η 2 1 := e6
    have b4 : (0 : Int) ≤ x4 ∧ x4 ≤ 5 := hI.1.2.1.2.2.2.1
    show yv_bJ η0 (xs.getD 0 0) x1 x2 x3 x4 0 x4 η
    exact vbJ_0 fig (by omega) e5 (by rw [← e6]; omega)
set_option maxHeartbeats 8000000 in
theorem zgs_bestBit8_o4 {ro : Nat → List Int32} (xs : List Int) (η0 : zE) (hp : sP wl_gs zTr zPgs_bestBit8 xs η0) (hpp : pPgs_bestBit8 xs η0) (x1 x2 x3 x4 x5 x6 : Int) (η : zE) (hI : zsI wl_gs zTr zVgs_bestBit8 zMgs_bestBit8 η0 1 [x1, x2, x3, x4, x5, x6] η) (hig : iCgs_bestBit8 xs η0 1 [x1, x2, x3, x4, x5, x6] η) : ∀ x7 : Int, x7 = zd 0 1 x4 x1 → (x7 ≤ x6) → (x2 < 0) → ∀ x8 : Int, x8 = zd 0 1 x4 1 → (iCgs_bestBit8 xs η0) 0 [x1, x4, x5, x8] η ∧ (fun (_ : Nat) (_ : List Int) (_ : zE) => (0 : Nat)) 0 [x1, x4, x5, x8] η < 1 := by
  have fig := hig.2
  have hig := hig.1
  intro x7 e7 c1 c2 x8 e8
  refine yj_c ?_ ?_
  · exact ⟨trivial, Nat.zero_lt_one⟩
  · have e7 : x7 = zd 0 1 x4 x1 := e7
    have e8 : x8 = zd 0 1 x4 1 := e8
    have b4 : (0 : Int) ≤ x4 ∧ x4 ≤ 4 := hI.1.2.1.2.2.2.1
    show yv_bI η0 (xs.getD 0 0) x1 x4 x5 x8 η
    refine vbJ_e (b := x2) (m := x3) (k := x1) (f := x4) (g := x6) (s := x5) fig (by omega) e7 (by omega) e8 ?_
    rw [if_pos (by omega)]
set_option maxHeartbeats 8000000 in
theorem zgs_bestBit8_o5 {ro : Nat → List Int32} (xs : List Int) (η0 : zE) (hp : sP wl_gs zTr zPgs_bestBit8 xs η0) (hpp : pPgs_bestBit8 xs η0) (x1 x2 x3 x4 x5 x6 : Int) (η : zE) (hI : zsI wl_gs zTr zVgs_bestBit8 zMgs_bestBit8 η0 1 [x1, x2, x3, x4, x5, x6] η) (hig : iCgs_bestBit8 xs η0 1 [x1, x2, x3, x4, x5, x6] η) : ∀ x7 : Int, x7 = zd 0 1 x4 x1 → (x7 ≤ x6) → (0 ≤ x2) → (x5 ≤ x3) → ∀ x8 : Int, x8 = zd 0 1 x4 1 → (iCgs_bestBit8 xs η0) 0 [x1, x2, x3, x8] η ∧ (fun (_ : Nat) (_ : List Int) (_ : zE) => (0 : Nat)) 0 [x1, x2, x3, x8] η < 1 := by
  have fig := hig.2
  have hig := hig.1
  intro x7 e7 c1 c2 c3 x8 e8
  refine yj_c ?_ ?_
  · exact ⟨trivial, Nat.zero_lt_one⟩
  · have e7 : x7 = zd 0 1 x4 x1 := e7
    have e8 : x8 = zd 0 1 x4 1 := e8
    have b4 : (0 : Int) ≤ x4 ∧ x4 ≤ 4 := hI.1.2.1.2.2.2.1
    show yv_bI η0 (xs.getD 0 0) x1 x2 x3 x8 η
    refine vbJ_e (b := x2) (m := x3) (k := x1) (f := x4) (g := x6) (s := x5) fig (by omega) e7 (by omega) e8 ?_
    rw [if_neg (by omega)]
set_option maxHeartbeats 8000000 in
theorem zgs_bestBit8_o6 {ro : Nat → List Int32} (xs : List Int) (η0 : zE) (hp : sP wl_gs zTr zPgs_bestBit8 xs η0) (hpp : pPgs_bestBit8 xs η0) (x1 x2 x3 x4 x5 x6 : Int) (η : zE) (hI : zsI wl_gs zTr zVgs_bestBit8 zMgs_bestBit8 η0 1 [x1, x2, x3, x4, x5, x6] η) (hig : iCgs_bestBit8 xs η0 1 [x1, x2, x3, x4, x5, x6] η) : ∀ x7 : Int, x7 = zd 0 1 x4 x1 → (x7 ≤ x6) → (0 ≤ x2) → (x3 < x5) → ∀ x8 : Int, x8 = zd 0 1 x4 1 → (iCgs_bestBit8 xs η0) 0 [x1, x4, x5, x8] η ∧ (fun (_ : Nat) (_ : List Int) (_ : zE) => (0 : Nat)) 0 [x1, x4, x5, x8] η < 1 := by
  have fig := hig.2
  have hig := hig.1
  intro x7 e7 c1 c2 c3 x8 e8
  refine yj_c ?_ ?_
  · exact ⟨trivial, Nat.zero_lt_one⟩
  · have e7 : x7 = zd 0 1 x4 x1 := e7
    have e8 : x8 = zd 0 1 x4 1 := e8
    have b4 : (0 : Int) ≤ x4 ∧ x4 ≤ 4 := hI.1.2.1.2.2.2.1
    show yv_bI η0 (xs.getD 0 0) x1 x4 x5 x8 η
    refine vbJ_e (b := x2) (m := x3) (k := x1) (f := x4) (g := x6) (s := x5) fig (by omega) e7 (by omega) e8 ?_
    rw [if_pos (by omega)]
set_option maxHeartbeats 8000000 in
theorem zgs_bestBit8_o7 {ro : Nat → List Int32} (xs : List Int) (η0 : zE) (hp : sP wl_gs zTr zPgs_bestBit8 xs η0) (hpp : pPgs_bestBit8 xs η0) (x1 x2 x3 x4 x5 x6 : Int) (η : zE) (hI : zsI wl_gs zTr zVgs_bestBit8 zMgs_bestBit8 η0 1 [x1, x2, x3, x4, x5, x6] η) (hig : iCgs_bestBit8 xs η0 1 [x1, x2, x3, x4, x5, x6] η) : ∀ x7 : Int, x7 = zd 0 1 x4 x1 → (x6 < x7) → ∀ x8 : Int, x8 = η 4 (Int.toNat x6) → zok 0 x8 → ∀ x9 : Int, x9 = zd 0 1 x5 x8 → ∀ x10 : Int, x10 = zd 0 1 x6 1 → (iCgs_bestBit8 xs η0) 1 [x1, x2, x3, x4, x9, x10] η ∧ (fun (_ : Nat) (_ : List Int) (_ : zE) => (0 : Nat)) 1 [x1, x2, x3, x4, x9, x10] η < 1 := by
  have fig := hig.2
  have hig := hig.1
  intro x7 e7 c1 x8 e8 r8 x9 e9 x10 e10
  refine yj_c ?_ ?_
  · exact ⟨trivial, Nat.zero_lt_one⟩
  · have e7 : x7 = zd 0 1 x4 x1 := e7
    have e8 : x8 = η 4 (Int.toNat x6) := e8
    have e9 : x9 = zd 0 1 x5 x8 := e9
    have e10 : x10 = zd 0 1 x6 1 := e10
    have b4 : (0 : Int) ≤ x4 ∧ x4 ≤ 4 := hI.1.2.1.2.2.2.1
    show yv_bJ η0 (xs.getD 0 0) x1 x2 x3 x4 x9 x10 η
    exact vbJ_s (k := x1) (f := x4) (g := x6) fig (by omega) e7 (by omega) e8 e9 e10
set_option maxHeartbeats 8000000 in
theorem zgs_bestBit8 {ro : Nat → List Int32} : zMet pr_P pr_K pr_df ro (sm_X0 1 6) 1 98 tm_gs [(.inr (.inr (.inl (nat_lit 0)))), (.inl (nat_lit 1, (.ofNat (nat_lit 0))))] 1 [(nat_lit 0, nat_lit 0, nat_lit 1), (nat_lit 0, nat_lit 4, nat_lit 2), (nat_lit 0, nat_lit 5, nat_lit 32), (nat_lit 0, nat_lit 6, nat_lit 60), (nat_lit 0, nat_lit 7, nat_lit 70), (nat_lit 0, nat_lit 8, nat_lit 74), (nat_lit 0, nat_lit 11, nat_lit 78), (nat_lit 0, nat_lit 12, nat_lit 82), (nat_lit 0, nat_lit 13, nat_lit 90), (nat_lit 0, nat_lit 14, nat_lit 91), (nat_lit 0, nat_lit 15, nat_lit 95), (nat_lit 0, nat_lit 16, nat_lit 101), (nat_lit 2, nat_lit 8, nat_lit 3), (nat_lit 2, nat_lit 9, nat_lit 4), (nat_lit 2, nat_lit 10, nat_lit 5), (nat_lit 2, nat_lit 11, nat_lit 6), (nat_lit 2, nat_lit 12, nat_lit 11), (nat_lit 2, nat_lit 13, nat_lit 16), (nat_lit 2, nat_lit 14, nat_lit 17), (nat_lit 6, nat_lit 0, nat_lit 7), (nat_lit 11, nat_lit 0, nat_lit 12), (nat_lit 6, nat_lit 1, nat_lit 8), (nat_lit 11, nat_lit 1, nat_lit 13), (nat_lit 6, nat_lit 2, nat_lit 9), (nat_lit 11, nat_lit 2, nat_lit 14), (nat_lit 6, nat_lit 3, nat_lit 10), (nat_lit 11, nat_lit 3, nat_lit 15), (nat_lit 17, nat_lit 2, nat_lit 18), (nat_lit 17, nat_lit 3, nat_lit 19), (nat_lit 17, nat_lit 4, nat_lit 20), (nat_lit 17, nat_lit 5, nat_lit 21), (nat_lit 17, nat_lit 6, nat_lit 22), (nat_lit 32, nat_lit 8, nat_lit 33), (nat_lit 32, nat_lit 9, nat_lit 34), (nat_lit 32, nat_lit 10, nat_lit 35), (nat_lit 32, nat_lit 11, nat_lit 36), (nat_lit 32, nat_lit 12, nat_lit 41), (nat_lit 32, nat_lit 13, nat_lit 46), (nat_lit 32, nat_lit 14, nat_lit 47), (nat_lit 36, nat_lit 0, nat_lit 37), (nat_lit 41, nat_lit 0, nat_lit 42), (nat_lit 36, nat_lit 1, nat_lit 38), (nat_lit 41, nat_lit 1, nat_lit 43), (nat_lit 36, nat_lit 2, nat_lit 39), (nat_lit 41, nat_lit 2, nat_lit 44), (nat_lit 36, nat_lit 3, nat_lit 40), (nat_lit 41, nat_lit 3, nat_lit 45), (nat_lit 47, nat_lit 2, nat_lit 48), (nat_lit 47, nat_lit 3, nat_lit 49), (nat_lit 47, nat_lit 4, nat_lit 50), (nat_lit 47, nat_lit 5, nat_lit 51), (nat_lit 47, nat_lit 6, nat_lit 52), (nat_lit 60, nat_lit 3, nat_lit 1), (nat_lit 60, nat_lit 9, nat_lit 61), (nat_lit 60, nat_lit 10, nat_lit 62), (nat_lit 60, nat_lit 11, nat_lit 63), (nat_lit 70, nat_lit 8, nat_lit 71), (nat_lit 70, nat_lit 9, nat_lit 72), (nat_lit 70, nat_lit 10, nat_lit 73), (nat_lit 74, nat_lit 8, nat_lit 75), (nat_lit 74, nat_lit 9, nat_lit 76), (nat_lit 74, nat_lit 10, nat_lit 77), (nat_lit 78, nat_lit 8, nat_lit 79), (nat_lit 78, nat_lit 9, nat_lit 80), (nat_lit 78, nat_lit 10, nat_lit 81), (nat_lit 82, nat_lit 8, nat_lit 83), (nat_lit 82, nat_lit 9, nat_lit 84), (nat_lit 82, nat_lit 10, nat_lit 85), (nat_lit 91, nat_lit 1, nat_lit 92), (nat_lit 91, nat_lit 2, nat_lit 93), (nat_lit 91, nat_lit 3, nat_lit 94), (nat_lit 95, nat_lit 2, nat_lit 96), (nat_lit 95, nat_lit 3, nat_lit 97), (nat_lit 95, nat_lit 4, nat_lit 98), (nat_lit 95, nat_lit 5, nat_lit 99), (nat_lit 95, nat_lit 6, nat_lit 100)] [] (fun xs η => sP wl_gs zTr zPgs_bestBit8 xs η ∧ pPgs_bestBit8 xs η) (fun xs η y η' => sQ wl_gs zTr zOgs_bestBit8 zMgs_bestBit8 xs η y η' ∧ pQgs_bestBit8 xs η y η') :=
  zmet_alt (zmea_gen (mi := (nat_lit 1, nat_lit 1, nat_lit 7, nat_lit 7, nat_lit 1, tX7_bestBit)) (cd := [(nat_lit 75, nat_lit 0, nat_lit 0, [(.inl (nat_lit 1, (.ofNat (nat_lit 0)))), (.inl (nat_lit 2, (.ofNat (nat_lit 0)))), (.inl (nat_lit 3, (.ofNat (nat_lit 0))))], nat_lit 2, [], [])]) (cu := zUgs_bestBit8) (cs := [(nat_lit 0, zPgs_within, zOgs_within, zMgs_within)]) (iv := zVgs_bestBit8) (po := [zOgs_bestBit8]) (pr := zPgs_bestBit8) (mods := zMgs_bestBit8) (D7 := zDgs_bestBit8) (D0 := zEgs_bestBit8) (Dm := zFgs_bestBit8) (f0 := 16) pCgs_bestBit8 qCgs_bestBit8 iCgs_bestBit8 pPgs_bestBit8 (fun xs η _ y η' => pQgs_bestBit8 xs η y η') zX_low pr_mtR rfl (List.forall_mem_cons.mpr ⟨zgs_within, fun _ h => nomatch h⟩) (by decide +kernel) (by decide +kernel) (by decide +kernel)
    (by
      intro xs η hr hl hp hpp
      match xs, hl, hp, hpp with
      | [x1], _, hp, hpp =>
        refine List.forall_mem_cons.mpr ⟨?_, List.forall_mem_cons.mpr ⟨?_, List.forall_mem_cons.mpr ⟨?_, fun _ h => nomatch h⟩⟩⟩
        · refine zden_L (n := 2) (ρ := [x1, 0]) rfl ?_
          show ((gC2 wl_gs [(nat_lit 0, zPgs_within, zOgs_within, zMgs_within)] pCgs_bestBit8 qCgs_bestBit8) 0).1 [x1, 1, 12] η
          
          exact trivial
        · refine zden_L (n := 2) (ρ := [x1, 0]) rfl ?_
          exact zgs_bestBit8_o0 (ro := ro) x1 η hp hpp
        · refine zden_L (n := 2) (ρ := [x1, 0]) rfl ?_
          exact zgs_bestBit8_o1 (ro := ro) x1 η hp hpp
      )
    (fun _ _ _ _ _ _ _ h => nomatch h)
    (List.forall_mem_cons.mpr ⟨⟨zDgs_bestBit8_0, zEgs_bestBit8_0, zFgs_bestBit8_0, 16, by decide +kernel, (by
      intro xs η0 hlx hp hpp ys η hr hl hI hig
      match ys, hl, hI, hig with
      | [x1, x2, x3, x4], _, hI, hig =>
        refine ⟨?_, ?_⟩
        · refine List.forall_mem_cons.mpr ⟨?_, List.forall_mem_cons.mpr ⟨?_, fun _ h => nomatch h⟩⟩
          · refine zden_L (n := 5) (ρ := [x4, x3, x2, x1, 0]) rfl ?_
            exact zgs_bestBit8_o2 (ro := ro) xs η0 hp hpp x1 x2 x3 x4 η hI hig
          · refine zden_L (n := 5) (ρ := [x4, x3, x2, x1, 0]) rfl ?_
            exact zgs_bestBit8_o3 (ro := ro) xs η0 hp hpp x1 x2 x3 x4 η hI hig
        · exact fun _ h => nomatch h
      )⟩, (List.forall_mem_cons.mpr ⟨⟨zDgs_bestBit8_1, zEgs_bestBit8_1, zFgs_bestBit8_1, 21, by decide +kernel, (by
      intro xs η0 hlx hp hpp ys η hr hl hI hig
      match ys, hl, hI, hig with
      | [x1, x2, x3, x4, x5, x6], _, hI, hig =>
        refine ⟨?_, ?_⟩
        · refine List.forall_mem_cons.mpr ⟨?_, List.forall_mem_cons.mpr ⟨?_, List.forall_mem_cons.mpr ⟨?_, List.forall_mem_cons.mpr ⟨?_, fun _ h => nomatch h⟩⟩⟩⟩
          · refine zden_L (n := 7) (ρ := [x6, x5, x4, x3, x2, x1, 0]) rfl ?_
            exact zgs_bestBit8_o4 (ro := ro) xs η0 hp hpp x1 x2 x3 x4 x5 x6 η hI hig
          · refine zden_L (n := 7) (ρ := [x6, x5, x4, x3, x2, x1, 0]) rfl ?_
            exact zgs_bestBit8_o5 (ro := ro) xs η0 hp hpp x1 x2 x3 x4 x5 x6 η hI hig
          · refine zden_L (n := 7) (ρ := [x6, x5, x4, x3, x2, x1, 0]) rfl ?_
            exact zgs_bestBit8_o6 (ro := ro) xs η0 hp hpp x1 x2 x3 x4 x5 x6 η hI hig
          · refine zden_L (n := 7) (ρ := [x6, x5, x4, x3, x2, x1, 0]) rfl ?_
            exact zgs_bestBit8_o7 (ro := ro) xs η0 hp hpp x1 x2 x3 x4 x5 x6 η hI hig
        · exact fun _ h => nomatch h
      )⟩, (fun _ h => nomatch h)⟩)⟩))
def zPgs_bestBit9 : zPq := ([((.ofNat (nat_lit 9)), (.ofNat (nat_lit 9)))], [])
def zOgs_bestBit9 : zPo := (((.negSucc (nat_lit 2147483647)), (.ofNat (nat_lit 2147483647))), [], [])
def zMgs_bestBit9 : List zCe := []
def pPgs_bestBit9 : List Int → zE → Prop := fun _ _ => True
def oQgs_bestBit9 : List Int → zE → Int → zE → Prop := fun _ _ _ _ => True
def fQgs_bestBit9 : List Int → zE → Int → zE → Prop := fun xs η y η' => y = (yv_bb (xs.getD 0 0) η) ∧ η' = η
def pQgs_bestBit9 : List Int → zE → Int → zE → Prop := fun xs η y η' => oQgs_bestBit9 xs η y η' ∧ fQgs_bestBit9 xs η y η'
def pCgs_bestBit9 : Nat → List Int → zE → Prop := fun c => match c with
  | 0 => pPgs_within
  | _ => fun _ _ => True
def qCgs_bestBit9 : Nat → List Int → zE → Int → zE → Prop := fun c => match c with
  | 0 => pQgs_within
  | _ => fun _ _ _ _ => True
def iCgs_bestBit9 : List Int → zE → Nat → List Int → zE → Prop := fun xs η0 c => match c with
  | 0 => fun ys η => (True) ∧ (yv_bI η0 (xs.getD 0 0) (ys.getD 0 0) (ys.getD 1 0) (ys.getD 2 0) (ys.getD 3 0) η)
  | 1 => fun ys η => (True) ∧ (yv_bJ η0 (xs.getD 0 0) (ys.getD 0 0) (ys.getD 1 0) (ys.getD 2 0) (ys.getD 3 0) (ys.getD 4 0) (ys.getD 5 0) η)
  | _ => fun _ _ => True
def zVgs_bestBit9 : List zIv := [(nat_lit 0, ([((.ofNat (nat_lit 9)), (.ofNat (nat_lit 9))), ((.negSucc (nat_lit 2147483647)), (.ofNat (nat_lit 2147483647))), ((.negSucc (nat_lit 2147483647)), (.ofNat (nat_lit 2147483647))), ((.ofNat (nat_lit 0)), (.ofNat (nat_lit 4)))], []), ((.ofNat (nat_lit 2000)), [((.negSucc (nat_lit 99)), nat_lit 0, nat_lit 3, nat_lit 0)])), (nat_lit 1, ([((.ofNat (nat_lit 9)), (.ofNat (nat_lit 9))), ((.negSucc (nat_lit 2147483647)), (.ofNat (nat_lit 2147483647))), ((.negSucc (nat_lit 2147483647)), (.ofNat (nat_lit 2147483647))), ((.ofNat (nat_lit 0)), (.ofNat (nat_lit 3))), ((.negSucc (nat_lit 2147483647)), (.ofNat (nat_lit 2147483647))), ((.ofNat (nat_lit 0)), (.ofNat (nat_lit 12)))], []), ((.ofNat (nat_lit 1950)), [((.negSucc (nat_lit 99)), nat_lit 0, nat_lit 3, nat_lit 0), ((.negSucc (nat_lit 0)), nat_lit 0, nat_lit 5, nat_lit 0)]))]
def zUgs_bestBit9 : List zCu := [(nat_lit 20, nat_lit 0, [(nat_lit 0, (.inr (.inr (.inl (nat_lit 0))))), (nat_lit 1, (.inl (nat_lit 1, (.ofNat (nat_lit 0))))), (nat_lit 2, (.inl (nat_lit 2, (.ofNat (nat_lit 0))))), (nat_lit 3, (.inl (nat_lit 3, (.ofNat (nat_lit 0))))), (nat_lit 4, (.inl (nat_lit 4, (.ofNat (nat_lit 0)))))], []), (nat_lit 41, nat_lit 1, [(nat_lit 0, (.inr (.inr (.inl (nat_lit 0))))), (nat_lit 1, (.inl (nat_lit 1, (.ofNat (nat_lit 0))))), (nat_lit 2, (.inl (nat_lit 2, (.ofNat (nat_lit 0))))), (nat_lit 3, (.inl (nat_lit 3, (.ofNat (nat_lit 0))))), (nat_lit 4, (.inl (nat_lit 4, (.ofNat (nat_lit 0))))), (nat_lit 5, (.inl (nat_lit 5, (.ofNat (nat_lit 0))))), (nat_lit 6, (.inl (nat_lit 6, (.ofNat (nat_lit 0)))))], [])]
def zDgs_bestBit9 : List (List zK) := []
def zEgs_bestBit9 : List (List zK) := [[(nat_lit 13, nat_lit 0, [(nat_lit 1, (.ofNat (nat_lit 0))), (nat_lit 0, (.ofNat (nat_lit 1))), (nat_lit 0, (.ofNat (nat_lit 12)))])],
  [(nat_lit 12, nat_lit 0, [(nat_lit 1, (.ofNat (nat_lit 0))), (nat_lit 0, (.negSucc (nat_lit 1))), (nat_lit 0, (.ofNat (nat_lit 0))), (nat_lit 0, (.ofNat (nat_lit 0)))]), (nat_lit 6, nat_lit 1, [(nat_lit 2, (.ofNat (nat_lit 0))), (nat_lit 0, (.ofNat (nat_lit 0)))]), (nat_lit 8, nat_lit 0, [(nat_lit 1, (.ofNat (nat_lit 0))), (nat_lit 0, (.ofNat (nat_lit 1))), (nat_lit 0, (.ofNat (nat_lit 12)))])],
  [(nat_lit 11, nat_lit 0, [(nat_lit 0, (.negSucc (nat_lit 0)))]), (nat_lit 6, nat_lit 0, [(nat_lit 2, (.ofNat (nat_lit 0))), (nat_lit 0, (.ofNat (nat_lit 0)))]), (nat_lit 8, nat_lit 0, [(nat_lit 1, (.ofNat (nat_lit 0))), (nat_lit 0, (.ofNat (nat_lit 1))), (nat_lit 0, (.ofNat (nat_lit 12)))])]]
def zFgs_bestBit9 : List (List zK) := []
def zDgs_bestBit9_0 : List (List zK) := []
def zEgs_bestBit9_0 : List (List zK) := [[(nat_lit 11, nat_lit 0, [(nat_lit 2, (.ofNat (nat_lit 0)))]), (nat_lit 6, nat_lit 4, [(nat_lit 5, (.ofNat (nat_lit 0))), (nat_lit 6, (.ofNat (nat_lit 0)))]), (nat_lit 4, nat_lit 0, [(nat_lit 2, (.ofNat (nat_lit 0))), (nat_lit 0, (.ofNat (nat_lit 1)))]), (nat_lit 0, nat_lit 1, [(nat_lit 4, (.ofNat (nat_lit 0))), (nat_lit 1, (.ofNat (nat_lit 0)))])],
  [(nat_lit 10, nat_lit 1, [(nat_lit 1, (.ofNat (nat_lit 0))), (nat_lit 2, (.ofNat (nat_lit 0))), (nat_lit 3, (.ofNat (nat_lit 0))), (nat_lit 4, (.ofNat (nat_lit 0))), (nat_lit 0, (.ofNat (nat_lit 0))), (nat_lit 4, (.ofNat (nat_lit 0)))]), (nat_lit 6, nat_lit 5, [(nat_lit 5, (.ofNat (nat_lit 0))), (nat_lit 6, (.ofNat (nat_lit 0)))]), (nat_lit 4, nat_lit 0, [(nat_lit 2, (.ofNat (nat_lit 0))), (nat_lit 0, (.ofNat (nat_lit 1)))]), (nat_lit 0, nat_lit 1, [(nat_lit 4, (.ofNat (nat_lit 0))), (nat_lit 1, (.ofNat (nat_lit 0)))])]]
def zFgs_bestBit9_0 : List (List zK) := []
def zDgs_bestBit9_1 : List (List zK) := [[(nat_lit 7, nat_lit 0, [(nat_lit 6, (.ofNat (nat_lit 0))), (nat_lit 0, (.ofNat (nat_lit 12)))]), (nat_lit 6, nat_lit 2, [(nat_lit 6, (.ofNat (nat_lit 0))), (nat_lit 7, (.ofNat (nat_lit 0)))]), (nat_lit 0, nat_lit 1, [(nat_lit 4, (.ofNat (nat_lit 0))), (nat_lit 1, (.ofNat (nat_lit 0)))])]]
def zEgs_bestBit9_1 : List (List zK) := [[(nat_lit 10, nat_lit 0, [(nat_lit 1, (.ofNat (nat_lit 0))), (nat_lit 4, (.ofNat (nat_lit 0))), (nat_lit 5, (.ofNat (nat_lit 0))), (nat_lit 8, (.ofNat (nat_lit 0)))]), (nat_lit 0, nat_lit 1, [(nat_lit 4, (.ofNat (nat_lit 0))), (nat_lit 0, (.ofNat (nat_lit 1)))]), (nat_lit 6, nat_lit 2, [(nat_lit 2, (.ofNat (nat_lit 0))), (nat_lit 0, (.ofNat (nat_lit 0)))]), (nat_lit 6, nat_lit 3, [(nat_lit 6, (.ofNat (nat_lit 0))), (nat_lit 7, (.ofNat (nat_lit 0)))]), (nat_lit 0, nat_lit 1, [(nat_lit 4, (.ofNat (nat_lit 0))), (nat_lit 1, (.ofNat (nat_lit 0)))])],
  [(nat_lit 10, nat_lit 0, [(nat_lit 1, (.ofNat (nat_lit 0))), (nat_lit 2, (.ofNat (nat_lit 0))), (nat_lit 3, (.ofNat (nat_lit 0))), (nat_lit 8, (.ofNat (nat_lit 0)))]), (nat_lit 0, nat_lit 1, [(nat_lit 4, (.ofNat (nat_lit 0))), (nat_lit 0, (.ofNat (nat_lit 1)))]), (nat_lit 6, nat_lit 5, [(nat_lit 5, (.ofNat (nat_lit 0))), (nat_lit 3, (.ofNat (nat_lit 0)))]), (nat_lit 6, nat_lit 3, [(nat_lit 2, (.ofNat (nat_lit 0))), (nat_lit 0, (.ofNat (nat_lit 0)))]), (nat_lit 6, nat_lit 3, [(nat_lit 6, (.ofNat (nat_lit 0))), (nat_lit 7, (.ofNat (nat_lit 0)))]), (nat_lit 0, nat_lit 1, [(nat_lit 4, (.ofNat (nat_lit 0))), (nat_lit 1, (.ofNat (nat_lit 0)))])],
  [(nat_lit 10, nat_lit 0, [(nat_lit 1, (.ofNat (nat_lit 0))), (nat_lit 4, (.ofNat (nat_lit 0))), (nat_lit 5, (.ofNat (nat_lit 0))), (nat_lit 8, (.ofNat (nat_lit 0)))]), (nat_lit 0, nat_lit 1, [(nat_lit 4, (.ofNat (nat_lit 0))), (nat_lit 0, (.ofNat (nat_lit 1)))]), (nat_lit 6, nat_lit 4, [(nat_lit 5, (.ofNat (nat_lit 0))), (nat_lit 3, (.ofNat (nat_lit 0)))]), (nat_lit 6, nat_lit 3, [(nat_lit 2, (.ofNat (nat_lit 0))), (nat_lit 0, (.ofNat (nat_lit 0)))]), (nat_lit 6, nat_lit 3, [(nat_lit 6, (.ofNat (nat_lit 0))), (nat_lit 7, (.ofNat (nat_lit 0)))]), (nat_lit 0, nat_lit 1, [(nat_lit 4, (.ofNat (nat_lit 0))), (nat_lit 1, (.ofNat (nat_lit 0)))])],
  [(nat_lit 10, nat_lit 1, [(nat_lit 1, (.ofNat (nat_lit 0))), (nat_lit 2, (.ofNat (nat_lit 0))), (nat_lit 3, (.ofNat (nat_lit 0))), (nat_lit 4, (.ofNat (nat_lit 0))), (nat_lit 9, (.ofNat (nat_lit 0))), (nat_lit 10, (.ofNat (nat_lit 0)))]), (nat_lit 0, nat_lit 1, [(nat_lit 6, (.ofNat (nat_lit 0))), (nat_lit 0, (.ofNat (nat_lit 1)))]), (nat_lit 0, nat_lit 1, [(nat_lit 5, (.ofNat (nat_lit 0))), (nat_lit 8, (.ofNat (nat_lit 0)))]), (nat_lit 4, nat_lit 0, [(nat_lit 4, (.ofNat (nat_lit 0))), (nat_lit 6, (.ofNat (nat_lit 0)))]), (nat_lit 6, nat_lit 2, [(nat_lit 6, (.ofNat (nat_lit 0))), (nat_lit 7, (.ofNat (nat_lit 0)))]), (nat_lit 0, nat_lit 1, [(nat_lit 4, (.ofNat (nat_lit 0))), (nat_lit 1, (.ofNat (nat_lit 0)))])]]
def zFgs_bestBit9_1 : List (List zK) := []
set_option maxHeartbeats 8000000 in
theorem zgs_bestBit9_o0 {ro : Nat → List Int32} (x1 : Int) (η : zE) (hp : sP wl_gs zTr zPgs_bestBit9 [x1] η) (hpp : pPgs_bestBit9 [x1] η) : ∀ (x2 : Int) (η1 : zE), ((gC2 wl_gs [(nat_lit 0, zPgs_within, zOgs_within, zMgs_within)] pCgs_bestBit9 qCgs_bestBit9) 0).2 [x1, 1, 12] η x2 η1 → (¬ x2 = 0) → (iCgs_bestBit9 [x1] η) 0 [x1, (-2), 0, 0] η1 := by
  intro x2 η1 h2 c1
  have y2 : fQgs_within [x1, 1, 12] η x2 η1 := h2.2.2
  have k2 : sQ wl_gs zTr zOgs_within zMgs_within [x1, 1, 12] η x2 η1 ∧ oQgs_within [x1, 1, 12] η x2 η1 := ⟨h2.1, h2.2.1⟩
  refine yj_a ?_ ?_
  · have y2 : fQgs_within [x1, 1, 12] η x2 η1 := h2.2.2
    have k2 : sQ wl_gs zTr zOgs_within zMgs_within [x1, 1, 12] η x2 η1 ∧ oQgs_within [x1, 1, 12] η x2 η1 := ⟨h2.1, h2.2.1⟩
    exact trivial
  · obtain ⟨a2, b2⟩ : x2 = yq_in x1 1 12 ∧ η1 = η := y2
    show yv_bI η x1 x1 (-2) 0 0 η1
    exact vbI_0 b2 (by omega)
set_option maxHeartbeats 8000000 in
theorem zgs_bestBit9_o1 {ro : Nat → List Int32} (x1 : Int) (η : zE) (hp : sP wl_gs zTr zPgs_bestBit9 [x1] η) (hpp : pPgs_bestBit9 [x1] η) : ∀ (x2 : Int) (η1 : zE), ((gC2 wl_gs [(nat_lit 0, zPgs_within, zOgs_within, zMgs_within)] pCgs_bestBit9 qCgs_bestBit9) 0).2 [x1, 1, 12] η x2 η1 → (x2 = 0) → (fun (_ : Nat) (y : Int) (η' : zE) => pQgs_bestBit9 [x1] η y η') 0 (-1) η1 := by
  intro x2 η1 h2 c1
  have y2 : fQgs_within [x1, 1, 12] η x2 η1 := h2.2.2
  have k2 : sQ wl_gs zTr zOgs_within zMgs_within [x1, 1, 12] η x2 η1 ∧ oQgs_within [x1, 1, 12] η x2 η1 := ⟨h2.1, h2.2.1⟩
  refine yj_a ?_ ?_
  · have y2 : fQgs_within [x1, 1, 12] η x2 η1 := h2.2.2
    have k2 : sQ wl_gs zTr zOgs_within zMgs_within [x1, 1, 12] η x2 η1 ∧ oQgs_within [x1, 1, 12] η x2 η1 := ⟨h2.1, h2.2.1⟩
    exact trivial
  · obtain ⟨a2, b2⟩ : x2 = yq_in x1 1 12 ∧ η1 = η := y2
    show -1 = yv_bb x1 η ∧ η1 = η
    exact ⟨by unfold yv_bb; rw [if_pos (by omega)], b2⟩
set_option maxHeartbeats 8000000 in
theorem zgs_bestBit9_o2 {ro : Nat → List Int32} (xs : List Int) (η0 : zE) (hp : sP wl_gs zTr zPgs_bestBit9 xs η0) (hpp : pPgs_bestBit9 xs η0) (x1 x2 x3 x4 : Int) (η : zE) (hI : zsI wl_gs zTr zVgs_bestBit9 zMgs_bestBit9 η0 0 [x1, x2, x3, x4] η) (hig : iCgs_bestBit9 xs η0 0 [x1, x2, x3, x4] η) : ∀ x5 : Int, x5 = zd 0 1 x4 x1 → ∀ x6 : Int, x6 = η 2 (Int.toNat 1) → zok 0 x6 → (x6 < x5) → (fun (_ : Nat) (y : Int) (η' : zE) => pQgs_bestBit9 xs η0 y η') 0 x2 η := by
  have fig := hig.2
  have hig := hig.1
  intro x5 e5 x6 e6 r6 c1
  refine yj_a ?_ ?_
  · exact trivial
  · have e5 : x5 = zd 0 1 x4 x1 := e5
    have e6 : x6 = η 2 1 := e6
    have b4 : (0 : Int) ≤ x4 ∧ x4 ≤ 4 := hI.1.2.1.2.2.2.1
    exact vbI_e (k := x1) (m := x3) (f := x4) fig (by omega) e5 (by rw [← e6]; omega)
set_option maxHeartbeats 8000000 in
theorem zgs_bestBit9_o3 {ro : Nat → List Int32} (xs : List Int) (η0 : zE) (hp : sP wl_gs zTr zPgs_bestBit9 xs η0) (hpp : pPgs_bestBit9 xs η0) (x1 x2 x3 x4 : Int) (η : zE) (hI : zsI wl_gs zTr zVgs_bestBit9 zMgs_bestBit9 η0 0 [x1, x2, x3, x4] η) (hig : iCgs_bestBit9 xs η0 0 [x1, x2, x3, x4] η) : ∀ x5 : Int, x5 = zd 0 1 x4 x1 → ∀ x6 : Int, x6 = η 2 (Int.toNat 1) → zok 0 x6 → (x5 ≤ x6) → (iCgs_bestBit9 xs η0) 1 [x1, x2, x3, x4, 0, x4] η ∧ (fun (_ : Nat) (_ : List Int) (_ : zE) => (0 : Nat)) 1 [x1, x2, x3, x4, 0, x4] η < 1 := by
  have fig := hig.2
  have hig := hig.1
  intro x5 e5 x6 e6 r6 c1
  refine yj_c ?_ ?_
  · exact ⟨trivial, Nat.zero_lt_one⟩
  · have e5 : x5 = zd 0 1 x4 x1 := e5
    have e6 : x6 = η 2 1 := e6
    have b4 : (0 : Int) ≤ x4 ∧ x4 ≤ 4 := hI.1.2.1.2.2.2.1
    show yv_bJ η0 (xs.getD 0 0) x1 x2 x3 x4 0 x4 η
    exact vbJ_0 fig (by omega) e5 (by rw [← e6]; omega)
set_option maxHeartbeats 8000000 in
theorem zgs_bestBit9_o4 {ro : Nat → List Int32} (xs : List Int) (η0 : zE) (hp : sP wl_gs zTr zPgs_bestBit9 xs η0) (hpp : pPgs_bestBit9 xs η0) (x1 x2 x3 x4 x5 x6 : Int) (η : zE) (hI : zsI wl_gs zTr zVgs_bestBit9 zMgs_bestBit9 η0 1 [x1, x2, x3, x4, x5, x6] η) (hig : iCgs_bestBit9 xs η0 1 [x1, x2, x3, x4, x5, x6] η) : ∀ x7 : Int, x7 = zd 0 1 x4 x1 → (x7 ≤ x6) → (x2 < 0) → ∀ x8 : Int, x8 = zd 0 1 x4 1 → (iCgs_bestBit9 xs η0) 0 [x1, x4, x5, x8] η ∧ (fun (_ : Nat) (_ : List Int) (_ : zE) => (0 : Nat)) 0 [x1, x4, x5, x8] η < 1 := by
  have fig := hig.2
  have hig := hig.1
  intro x7 e7 c1 c2 x8 e8
  refine yj_c ?_ ?_
  · exact ⟨trivial, Nat.zero_lt_one⟩
  · have e7 : x7 = zd 0 1 x4 x1 := e7
    have e8 : x8 = zd 0 1 x4 1 := e8
    have b4 : (0 : Int) ≤ x4 ∧ x4 ≤ 3 := hI.1.2.1.2.2.2.1
    show yv_bI η0 (xs.getD 0 0) x1 x4 x5 x8 η
    refine vbJ_e (b := x2) (m := x3) (k := x1) (f := x4) (g := x6) (s := x5) fig (by omega) e7 (by omega) e8 ?_
    rw [if_pos (by omega)]
set_option maxHeartbeats 8000000 in
theorem zgs_bestBit9_o5 {ro : Nat → List Int32} (xs : List Int) (η0 : zE) (hp : sP wl_gs zTr zPgs_bestBit9 xs η0) (hpp : pPgs_bestBit9 xs η0) (x1 x2 x3 x4 x5 x6 : Int) (η : zE) (hI : zsI wl_gs zTr zVgs_bestBit9 zMgs_bestBit9 η0 1 [x1, x2, x3, x4, x5, x6] η) (hig : iCgs_bestBit9 xs η0 1 [x1, x2, x3, x4, x5, x6] η) : ∀ x7 : Int, x7 = zd 0 1 x4 x1 → (x7 ≤ x6) → (0 ≤ x2) → (x5 ≤ x3) → ∀ x8 : Int, x8 = zd 0 1 x4 1 → (iCgs_bestBit9 xs η0) 0 [x1, x2, x3, x8] η ∧ (fun (_ : Nat) (_ : List Int) (_ : zE) => (0 : Nat)) 0 [x1, x2, x3, x8] η < 1 := by
  have fig := hig.2
  have hig := hig.1
  intro x7 e7 c1 c2 c3 x8 e8
  refine yj_c ?_ ?_
  · exact ⟨trivial, Nat.zero_lt_one⟩
  · have e7 : x7 = zd 0 1 x4 x1 := e7
    have e8 : x8 = zd 0 1 x4 1 := e8
    have b4 : (0 : Int) ≤ x4 ∧ x4 ≤ 3 := hI.1.2.1.2.2.2.1
    show yv_bI η0 (xs.getD 0 0) x1 x2 x3 x8 η
    refine vbJ_e (b := x2) (m := x3) (k := x1) (f := x4) (g := x6) (s := x5) fig (by omega) e7 (by omega) e8 ?_
    rw [if_neg (by omega)]
set_option maxHeartbeats 8000000 in
theorem zgs_bestBit9_o6 {ro : Nat → List Int32} (xs : List Int) (η0 : zE) (hp : sP wl_gs zTr zPgs_bestBit9 xs η0) (hpp : pPgs_bestBit9 xs η0) (x1 x2 x3 x4 x5 x6 : Int) (η : zE) (hI : zsI wl_gs zTr zVgs_bestBit9 zMgs_bestBit9 η0 1 [x1, x2, x3, x4, x5, x6] η) (hig : iCgs_bestBit9 xs η0 1 [x1, x2, x3, x4, x5, x6] η) : ∀ x7 : Int, x7 = zd 0 1 x4 x1 → (x7 ≤ x6) → (0 ≤ x2) → (x3 < x5) → ∀ x8 : Int, x8 = zd 0 1 x4 1 → (iCgs_bestBit9 xs η0) 0 [x1, x4, x5, x8] η ∧ (fun (_ : Nat) (_ : List Int) (_ : zE) => (0 : Nat)) 0 [x1, x4, x5, x8] η < 1 := by
  have fig := hig.2
  have hig := hig.1
  intro x7 e7 c1 c2 c3 x8 e8
  refine yj_c ?_ ?_
  · exact ⟨trivial, Nat.zero_lt_one⟩
  · have e7 : x7 = zd 0 1 x4 x1 := e7
    have e8 : x8 = zd 0 1 x4 1 := e8
    have b4 : (0 : Int) ≤ x4 ∧ x4 ≤ 3 := hI.1.2.1.2.2.2.1
    show yv_bI η0 (xs.getD 0 0) x1 x4 x5 x8 η
    refine vbJ_e (b := x2) (m := x3) (k := x1) (f := x4) (g := x6) (s := x5) fig (by omega) e7 (by omega) e8 ?_
    rw [if_pos (by omega)]
set_option maxHeartbeats 8000000 in
theorem zgs_bestBit9_o7 {ro : Nat → List Int32} (xs : List Int) (η0 : zE) (hp : sP wl_gs zTr zPgs_bestBit9 xs η0) (hpp : pPgs_bestBit9 xs η0) (x1 x2 x3 x4 x5 x6 : Int) (η : zE) (hI : zsI wl_gs zTr zVgs_bestBit9 zMgs_bestBit9 η0 1 [x1, x2, x3, x4, x5, x6] η) (hig : iCgs_bestBit9 xs η0 1 [x1, x2, x3, x4, x5, x6] η) : ∀ x7 : Int, x7 = zd 0 1 x4 x1 → (x6 < x7) → ∀ x8 : Int, x8 = η 4 (Int.toNat x6) → zok 0 x8 → ∀ x9 : Int, x9 = zd 0 1 x5 x8 → ∀ x10 : Int, x10 = zd 0 1 x6 1 → (iCgs_bestBit9 xs η0) 1 [x1, x2, x3, x4, x9, x10] η ∧ (fun (_ : Nat) (_ : List Int) (_ : zE) => (0 : Nat)) 1 [x1, x2, x3, x4, x9, x10] η < 1 := by
  have fig := hig.2
  have hig := hig.1
  intro x7 e7 c1 x8 e8 r8 x9 e9 x10 e10
  refine yj_c ?_ ?_
  · exact ⟨trivial, Nat.zero_lt_one⟩
  · have e7 : x7 = zd 0 1 x4 x1 := e7
    have e8 : x8 = η 4 (Int.toNat x6) := e8
    have e9 : x9 = zd 0 1 x5 x8 := e9
    have e10 : x10 = zd 0 1 x6 1 := e10
    have b4 : (0 : Int) ≤ x4 ∧ x4 ≤ 3 := hI.1.2.1.2.2.2.1
    show yv_bJ η0 (xs.getD 0 0) x1 x2 x3 x4 x9 x10 η
    exact vbJ_s (k := x1) (f := x4) (g := x6) fig (by omega) e7 (by omega) e8 e9 e10
set_option maxHeartbeats 8000000 in
theorem zgs_bestBit9 {ro : Nat → List Int32} : zMet pr_P pr_K pr_df ro (sm_X0 1 6) 1 98 tm_gs [(.inr (.inr (.inl (nat_lit 0)))), (.inl (nat_lit 1, (.ofNat (nat_lit 0))))] 1 [(nat_lit 0, nat_lit 0, nat_lit 1), (nat_lit 0, nat_lit 4, nat_lit 2), (nat_lit 0, nat_lit 5, nat_lit 32), (nat_lit 0, nat_lit 6, nat_lit 60), (nat_lit 0, nat_lit 7, nat_lit 70), (nat_lit 0, nat_lit 8, nat_lit 74), (nat_lit 0, nat_lit 11, nat_lit 78), (nat_lit 0, nat_lit 12, nat_lit 82), (nat_lit 0, nat_lit 13, nat_lit 90), (nat_lit 0, nat_lit 14, nat_lit 91), (nat_lit 0, nat_lit 15, nat_lit 95), (nat_lit 0, nat_lit 16, nat_lit 101), (nat_lit 2, nat_lit 8, nat_lit 3), (nat_lit 2, nat_lit 9, nat_lit 4), (nat_lit 2, nat_lit 10, nat_lit 5), (nat_lit 2, nat_lit 11, nat_lit 6), (nat_lit 2, nat_lit 12, nat_lit 11), (nat_lit 2, nat_lit 13, nat_lit 16), (nat_lit 2, nat_lit 14, nat_lit 17), (nat_lit 6, nat_lit 0, nat_lit 7), (nat_lit 11, nat_lit 0, nat_lit 12), (nat_lit 6, nat_lit 1, nat_lit 8), (nat_lit 11, nat_lit 1, nat_lit 13), (nat_lit 6, nat_lit 2, nat_lit 9), (nat_lit 11, nat_lit 2, nat_lit 14), (nat_lit 6, nat_lit 3, nat_lit 10), (nat_lit 11, nat_lit 3, nat_lit 15), (nat_lit 17, nat_lit 2, nat_lit 18), (nat_lit 17, nat_lit 3, nat_lit 19), (nat_lit 17, nat_lit 4, nat_lit 20), (nat_lit 17, nat_lit 5, nat_lit 21), (nat_lit 17, nat_lit 6, nat_lit 22), (nat_lit 32, nat_lit 8, nat_lit 33), (nat_lit 32, nat_lit 9, nat_lit 34), (nat_lit 32, nat_lit 10, nat_lit 35), (nat_lit 32, nat_lit 11, nat_lit 36), (nat_lit 32, nat_lit 12, nat_lit 41), (nat_lit 32, nat_lit 13, nat_lit 46), (nat_lit 32, nat_lit 14, nat_lit 47), (nat_lit 36, nat_lit 0, nat_lit 37), (nat_lit 41, nat_lit 0, nat_lit 42), (nat_lit 36, nat_lit 1, nat_lit 38), (nat_lit 41, nat_lit 1, nat_lit 43), (nat_lit 36, nat_lit 2, nat_lit 39), (nat_lit 41, nat_lit 2, nat_lit 44), (nat_lit 36, nat_lit 3, nat_lit 40), (nat_lit 41, nat_lit 3, nat_lit 45), (nat_lit 47, nat_lit 2, nat_lit 48), (nat_lit 47, nat_lit 3, nat_lit 49), (nat_lit 47, nat_lit 4, nat_lit 50), (nat_lit 47, nat_lit 5, nat_lit 51), (nat_lit 47, nat_lit 6, nat_lit 52), (nat_lit 60, nat_lit 3, nat_lit 1), (nat_lit 60, nat_lit 9, nat_lit 61), (nat_lit 60, nat_lit 10, nat_lit 62), (nat_lit 60, nat_lit 11, nat_lit 63), (nat_lit 70, nat_lit 8, nat_lit 71), (nat_lit 70, nat_lit 9, nat_lit 72), (nat_lit 70, nat_lit 10, nat_lit 73), (nat_lit 74, nat_lit 8, nat_lit 75), (nat_lit 74, nat_lit 9, nat_lit 76), (nat_lit 74, nat_lit 10, nat_lit 77), (nat_lit 78, nat_lit 8, nat_lit 79), (nat_lit 78, nat_lit 9, nat_lit 80), (nat_lit 78, nat_lit 10, nat_lit 81), (nat_lit 82, nat_lit 8, nat_lit 83), (nat_lit 82, nat_lit 9, nat_lit 84), (nat_lit 82, nat_lit 10, nat_lit 85), (nat_lit 91, nat_lit 1, nat_lit 92), (nat_lit 91, nat_lit 2, nat_lit 93), (nat_lit 91, nat_lit 3, nat_lit 94), (nat_lit 95, nat_lit 2, nat_lit 96), (nat_lit 95, nat_lit 3, nat_lit 97), (nat_lit 95, nat_lit 4, nat_lit 98), (nat_lit 95, nat_lit 5, nat_lit 99), (nat_lit 95, nat_lit 6, nat_lit 100)] [] (fun xs η => sP wl_gs zTr zPgs_bestBit9 xs η ∧ pPgs_bestBit9 xs η) (fun xs η y η' => sQ wl_gs zTr zOgs_bestBit9 zMgs_bestBit9 xs η y η' ∧ pQgs_bestBit9 xs η y η') :=
  zmet_alt (zmea_gen (mi := (nat_lit 1, nat_lit 1, nat_lit 7, nat_lit 7, nat_lit 1, tX7_bestBit)) (cd := [(nat_lit 75, nat_lit 0, nat_lit 0, [(.inl (nat_lit 1, (.ofNat (nat_lit 0)))), (.inl (nat_lit 2, (.ofNat (nat_lit 0)))), (.inl (nat_lit 3, (.ofNat (nat_lit 0))))], nat_lit 2, [], [])]) (cu := zUgs_bestBit9) (cs := [(nat_lit 0, zPgs_within, zOgs_within, zMgs_within)]) (iv := zVgs_bestBit9) (po := [zOgs_bestBit9]) (pr := zPgs_bestBit9) (mods := zMgs_bestBit9) (D7 := zDgs_bestBit9) (D0 := zEgs_bestBit9) (Dm := zFgs_bestBit9) (f0 := 16) pCgs_bestBit9 qCgs_bestBit9 iCgs_bestBit9 pPgs_bestBit9 (fun xs η _ y η' => pQgs_bestBit9 xs η y η') zX_low pr_mtR rfl (List.forall_mem_cons.mpr ⟨zgs_within, fun _ h => nomatch h⟩) (by decide +kernel) (by decide +kernel) (by decide +kernel)
    (by
      intro xs η hr hl hp hpp
      match xs, hl, hp, hpp with
      | [x1], _, hp, hpp =>
        refine List.forall_mem_cons.mpr ⟨?_, List.forall_mem_cons.mpr ⟨?_, List.forall_mem_cons.mpr ⟨?_, fun _ h => nomatch h⟩⟩⟩
        · refine zden_L (n := 2) (ρ := [x1, 0]) rfl ?_
          show ((gC2 wl_gs [(nat_lit 0, zPgs_within, zOgs_within, zMgs_within)] pCgs_bestBit9 qCgs_bestBit9) 0).1 [x1, 1, 12] η
          
          exact trivial
        · refine zden_L (n := 2) (ρ := [x1, 0]) rfl ?_
          exact zgs_bestBit9_o0 (ro := ro) x1 η hp hpp
        · refine zden_L (n := 2) (ρ := [x1, 0]) rfl ?_
          exact zgs_bestBit9_o1 (ro := ro) x1 η hp hpp
      )
    (fun _ _ _ _ _ _ _ h => nomatch h)
    (List.forall_mem_cons.mpr ⟨⟨zDgs_bestBit9_0, zEgs_bestBit9_0, zFgs_bestBit9_0, 16, by decide +kernel, (by
      intro xs η0 hlx hp hpp ys η hr hl hI hig
      match ys, hl, hI, hig with
      | [x1, x2, x3, x4], _, hI, hig =>
        refine ⟨?_, ?_⟩
        · refine List.forall_mem_cons.mpr ⟨?_, List.forall_mem_cons.mpr ⟨?_, fun _ h => nomatch h⟩⟩
          · refine zden_L (n := 5) (ρ := [x4, x3, x2, x1, 0]) rfl ?_
            exact zgs_bestBit9_o2 (ro := ro) xs η0 hp hpp x1 x2 x3 x4 η hI hig
          · refine zden_L (n := 5) (ρ := [x4, x3, x2, x1, 0]) rfl ?_
            exact zgs_bestBit9_o3 (ro := ro) xs η0 hp hpp x1 x2 x3 x4 η hI hig
        · exact fun _ h => nomatch h
      )⟩, (List.forall_mem_cons.mpr ⟨⟨zDgs_bestBit9_1, zEgs_bestBit9_1, zFgs_bestBit9_1, 21, by decide +kernel, (by
      intro xs η0 hlx hp hpp ys η hr hl hI hig
      match ys, hl, hI, hig with
      | [x1, x2, x3, x4, x5, x6], _, hI, hig =>
        refine ⟨?_, ?_⟩
        · refine List.forall_mem_cons.mpr ⟨?_, List.forall_mem_cons.mpr ⟨?_, List.forall_mem_cons.mpr ⟨?_, List.forall_mem_cons.mpr ⟨?_, fun _ h => nomatch h⟩⟩⟩⟩
          · refine zden_L (n := 7) (ρ := [x6, x5, x4, x3, x2, x1, 0]) rfl ?_
            exact zgs_bestBit9_o4 (ro := ro) xs η0 hp hpp x1 x2 x3 x4 x5 x6 η hI hig
          · refine zden_L (n := 7) (ρ := [x6, x5, x4, x3, x2, x1, 0]) rfl ?_
            exact zgs_bestBit9_o5 (ro := ro) xs η0 hp hpp x1 x2 x3 x4 x5 x6 η hI hig
          · refine zden_L (n := 7) (ρ := [x6, x5, x4, x3, x2, x1, 0]) rfl ?_
            exact zgs_bestBit9_o6 (ro := ro) xs η0 hp hpp x1 x2 x3 x4 x5 x6 η hI hig
          · refine zden_L (n := 7) (ρ := [x6, x5, x4, x3, x2, x1, 0]) rfl ?_
            exact zgs_bestBit9_o7 (ro := ro) xs η0 hp hpp x1 x2 x3 x4 x5 x6 η hI hig
        · exact fun _ h => nomatch h
      )⟩, (fun _ h => nomatch h)⟩)⟩))
def zPgs_bestBit10 : zPq := ([((.ofNat (nat_lit 10)), (.ofNat (nat_lit 10)))], [])
def zOgs_bestBit10 : zPo := (((.negSucc (nat_lit 2147483647)), (.ofNat (nat_lit 2147483647))), [], [])
def zMgs_bestBit10 : List zCe := []
def pPgs_bestBit10 : List Int → zE → Prop := fun _ _ => True
def oQgs_bestBit10 : List Int → zE → Int → zE → Prop := fun _ _ _ _ => True
def fQgs_bestBit10 : List Int → zE → Int → zE → Prop := fun xs η y η' => y = (yv_bb (xs.getD 0 0) η) ∧ η' = η
def pQgs_bestBit10 : List Int → zE → Int → zE → Prop := fun xs η y η' => oQgs_bestBit10 xs η y η' ∧ fQgs_bestBit10 xs η y η'
def pCgs_bestBit10 : Nat → List Int → zE → Prop := fun c => match c with
  | 0 => pPgs_within
  | _ => fun _ _ => True
def qCgs_bestBit10 : Nat → List Int → zE → Int → zE → Prop := fun c => match c with
  | 0 => pQgs_within
  | _ => fun _ _ _ _ => True
def iCgs_bestBit10 : List Int → zE → Nat → List Int → zE → Prop := fun xs η0 c => match c with
  | 0 => fun ys η => (True) ∧ (yv_bI η0 (xs.getD 0 0) (ys.getD 0 0) (ys.getD 1 0) (ys.getD 2 0) (ys.getD 3 0) η)
  | 1 => fun ys η => (True) ∧ (yv_bJ η0 (xs.getD 0 0) (ys.getD 0 0) (ys.getD 1 0) (ys.getD 2 0) (ys.getD 3 0) (ys.getD 4 0) (ys.getD 5 0) η)
  | _ => fun _ _ => True
def zVgs_bestBit10 : List zIv := [(nat_lit 0, ([((.ofNat (nat_lit 10)), (.ofNat (nat_lit 10))), ((.negSucc (nat_lit 2147483647)), (.ofNat (nat_lit 2147483647))), ((.negSucc (nat_lit 2147483647)), (.ofNat (nat_lit 2147483647))), ((.ofNat (nat_lit 0)), (.ofNat (nat_lit 3)))], []), ((.ofNat (nat_lit 2000)), [((.negSucc (nat_lit 99)), nat_lit 0, nat_lit 3, nat_lit 0)])), (nat_lit 1, ([((.ofNat (nat_lit 10)), (.ofNat (nat_lit 10))), ((.negSucc (nat_lit 2147483647)), (.ofNat (nat_lit 2147483647))), ((.negSucc (nat_lit 2147483647)), (.ofNat (nat_lit 2147483647))), ((.ofNat (nat_lit 0)), (.ofNat (nat_lit 2))), ((.negSucc (nat_lit 2147483647)), (.ofNat (nat_lit 2147483647))), ((.ofNat (nat_lit 0)), (.ofNat (nat_lit 12)))], []), ((.ofNat (nat_lit 1950)), [((.negSucc (nat_lit 99)), nat_lit 0, nat_lit 3, nat_lit 0), ((.negSucc (nat_lit 0)), nat_lit 0, nat_lit 5, nat_lit 0)]))]
def zUgs_bestBit10 : List zCu := [(nat_lit 20, nat_lit 0, [(nat_lit 0, (.inr (.inr (.inl (nat_lit 0))))), (nat_lit 1, (.inl (nat_lit 1, (.ofNat (nat_lit 0))))), (nat_lit 2, (.inl (nat_lit 2, (.ofNat (nat_lit 0))))), (nat_lit 3, (.inl (nat_lit 3, (.ofNat (nat_lit 0))))), (nat_lit 4, (.inl (nat_lit 4, (.ofNat (nat_lit 0)))))], []), (nat_lit 41, nat_lit 1, [(nat_lit 0, (.inr (.inr (.inl (nat_lit 0))))), (nat_lit 1, (.inl (nat_lit 1, (.ofNat (nat_lit 0))))), (nat_lit 2, (.inl (nat_lit 2, (.ofNat (nat_lit 0))))), (nat_lit 3, (.inl (nat_lit 3, (.ofNat (nat_lit 0))))), (nat_lit 4, (.inl (nat_lit 4, (.ofNat (nat_lit 0))))), (nat_lit 5, (.inl (nat_lit 5, (.ofNat (nat_lit 0))))), (nat_lit 6, (.inl (nat_lit 6, (.ofNat (nat_lit 0)))))], [])]
def zDgs_bestBit10 : List (List zK) := []
def zEgs_bestBit10 : List (List zK) := [[(nat_lit 13, nat_lit 0, [(nat_lit 1, (.ofNat (nat_lit 0))), (nat_lit 0, (.ofNat (nat_lit 1))), (nat_lit 0, (.ofNat (nat_lit 12)))])],
  [(nat_lit 12, nat_lit 0, [(nat_lit 1, (.ofNat (nat_lit 0))), (nat_lit 0, (.negSucc (nat_lit 1))), (nat_lit 0, (.ofNat (nat_lit 0))), (nat_lit 0, (.ofNat (nat_lit 0)))]), (nat_lit 6, nat_lit 1, [(nat_lit 2, (.ofNat (nat_lit 0))), (nat_lit 0, (.ofNat (nat_lit 0)))]), (nat_lit 8, nat_lit 0, [(nat_lit 1, (.ofNat (nat_lit 0))), (nat_lit 0, (.ofNat (nat_lit 1))), (nat_lit 0, (.ofNat (nat_lit 12)))])],
  [(nat_lit 11, nat_lit 0, [(nat_lit 0, (.negSucc (nat_lit 0)))]), (nat_lit 6, nat_lit 0, [(nat_lit 2, (.ofNat (nat_lit 0))), (nat_lit 0, (.ofNat (nat_lit 0)))]), (nat_lit 8, nat_lit 0, [(nat_lit 1, (.ofNat (nat_lit 0))), (nat_lit 0, (.ofNat (nat_lit 1))), (nat_lit 0, (.ofNat (nat_lit 12)))])]]
def zFgs_bestBit10 : List (List zK) := []
def zDgs_bestBit10_0 : List (List zK) := []
def zEgs_bestBit10_0 : List (List zK) := [[(nat_lit 11, nat_lit 0, [(nat_lit 2, (.ofNat (nat_lit 0)))]), (nat_lit 6, nat_lit 4, [(nat_lit 5, (.ofNat (nat_lit 0))), (nat_lit 6, (.ofNat (nat_lit 0)))]), (nat_lit 4, nat_lit 0, [(nat_lit 2, (.ofNat (nat_lit 0))), (nat_lit 0, (.ofNat (nat_lit 1)))]), (nat_lit 0, nat_lit 1, [(nat_lit 4, (.ofNat (nat_lit 0))), (nat_lit 1, (.ofNat (nat_lit 0)))])],
  [(nat_lit 10, nat_lit 1, [(nat_lit 1, (.ofNat (nat_lit 0))), (nat_lit 2, (.ofNat (nat_lit 0))), (nat_lit 3, (.ofNat (nat_lit 0))), (nat_lit 4, (.ofNat (nat_lit 0))), (nat_lit 0, (.ofNat (nat_lit 0))), (nat_lit 4, (.ofNat (nat_lit 0)))]), (nat_lit 6, nat_lit 5, [(nat_lit 5, (.ofNat (nat_lit 0))), (nat_lit 6, (.ofNat (nat_lit 0)))]), (nat_lit 4, nat_lit 0, [(nat_lit 2, (.ofNat (nat_lit 0))), (nat_lit 0, (.ofNat (nat_lit 1)))]), (nat_lit 0, nat_lit 1, [(nat_lit 4, (.ofNat (nat_lit 0))), (nat_lit 1, (.ofNat (nat_lit 0)))])]]
def zFgs_bestBit10_0 : List (List zK) := []
def zDgs_bestBit10_1 : List (List zK) := [[(nat_lit 7, nat_lit 0, [(nat_lit 6, (.ofNat (nat_lit 0))), (nat_lit 0, (.ofNat (nat_lit 12)))]), (nat_lit 6, nat_lit 2, [(nat_lit 6, (.ofNat (nat_lit 0))), (nat_lit 7, (.ofNat (nat_lit 0)))]), (nat_lit 0, nat_lit 1, [(nat_lit 4, (.ofNat (nat_lit 0))), (nat_lit 1, (.ofNat (nat_lit 0)))])]]
def zEgs_bestBit10_1 : List (List zK) := [[(nat_lit 10, nat_lit 0, [(nat_lit 1, (.ofNat (nat_lit 0))), (nat_lit 4, (.ofNat (nat_lit 0))), (nat_lit 5, (.ofNat (nat_lit 0))), (nat_lit 8, (.ofNat (nat_lit 0)))]), (nat_lit 0, nat_lit 1, [(nat_lit 4, (.ofNat (nat_lit 0))), (nat_lit 0, (.ofNat (nat_lit 1)))]), (nat_lit 6, nat_lit 2, [(nat_lit 2, (.ofNat (nat_lit 0))), (nat_lit 0, (.ofNat (nat_lit 0)))]), (nat_lit 6, nat_lit 3, [(nat_lit 6, (.ofNat (nat_lit 0))), (nat_lit 7, (.ofNat (nat_lit 0)))]), (nat_lit 0, nat_lit 1, [(nat_lit 4, (.ofNat (nat_lit 0))), (nat_lit 1, (.ofNat (nat_lit 0)))])],
  [(nat_lit 10, nat_lit 0, [(nat_lit 1, (.ofNat (nat_lit 0))), (nat_lit 2, (.ofNat (nat_lit 0))), (nat_lit 3, (.ofNat (nat_lit 0))), (nat_lit 8, (.ofNat (nat_lit 0)))]), (nat_lit 0, nat_lit 1, [(nat_lit 4, (.ofNat (nat_lit 0))), (nat_lit 0, (.ofNat (nat_lit 1)))]), (nat_lit 6, nat_lit 5, [(nat_lit 5, (.ofNat (nat_lit 0))), (nat_lit 3, (.ofNat (nat_lit 0)))]), (nat_lit 6, nat_lit 3, [(nat_lit 2, (.ofNat (nat_lit 0))), (nat_lit 0, (.ofNat (nat_lit 0)))]), (nat_lit 6, nat_lit 3, [(nat_lit 6, (.ofNat (nat_lit 0))), (nat_lit 7, (.ofNat (nat_lit 0)))]), (nat_lit 0, nat_lit 1, [(nat_lit 4, (.ofNat (nat_lit 0))), (nat_lit 1, (.ofNat (nat_lit 0)))])],
  [(nat_lit 10, nat_lit 0, [(nat_lit 1, (.ofNat (nat_lit 0))), (nat_lit 4, (.ofNat (nat_lit 0))), (nat_lit 5, (.ofNat (nat_lit 0))), (nat_lit 8, (.ofNat (nat_lit 0)))]), (nat_lit 0, nat_lit 1, [(nat_lit 4, (.ofNat (nat_lit 0))), (nat_lit 0, (.ofNat (nat_lit 1)))]), (nat_lit 6, nat_lit 4, [(nat_lit 5, (.ofNat (nat_lit 0))), (nat_lit 3, (.ofNat (nat_lit 0)))]), (nat_lit 6, nat_lit 3, [(nat_lit 2, (.ofNat (nat_lit 0))), (nat_lit 0, (.ofNat (nat_lit 0)))]), (nat_lit 6, nat_lit 3, [(nat_lit 6, (.ofNat (nat_lit 0))), (nat_lit 7, (.ofNat (nat_lit 0)))]), (nat_lit 0, nat_lit 1, [(nat_lit 4, (.ofNat (nat_lit 0))), (nat_lit 1, (.ofNat (nat_lit 0)))])],
  [(nat_lit 10, nat_lit 1, [(nat_lit 1, (.ofNat (nat_lit 0))), (nat_lit 2, (.ofNat (nat_lit 0))), (nat_lit 3, (.ofNat (nat_lit 0))), (nat_lit 4, (.ofNat (nat_lit 0))), (nat_lit 9, (.ofNat (nat_lit 0))), (nat_lit 10, (.ofNat (nat_lit 0)))]), (nat_lit 0, nat_lit 1, [(nat_lit 6, (.ofNat (nat_lit 0))), (nat_lit 0, (.ofNat (nat_lit 1)))]), (nat_lit 0, nat_lit 1, [(nat_lit 5, (.ofNat (nat_lit 0))), (nat_lit 8, (.ofNat (nat_lit 0)))]), (nat_lit 4, nat_lit 0, [(nat_lit 4, (.ofNat (nat_lit 0))), (nat_lit 6, (.ofNat (nat_lit 0)))]), (nat_lit 6, nat_lit 2, [(nat_lit 6, (.ofNat (nat_lit 0))), (nat_lit 7, (.ofNat (nat_lit 0)))]), (nat_lit 0, nat_lit 1, [(nat_lit 4, (.ofNat (nat_lit 0))), (nat_lit 1, (.ofNat (nat_lit 0)))])]]
def zFgs_bestBit10_1 : List (List zK) := []
set_option maxHeartbeats 8000000 in
theorem zgs_bestBit10_o0 {ro : Nat → List Int32} (x1 : Int) (η : zE) (hp : sP wl_gs zTr zPgs_bestBit10 [x1] η) (hpp : pPgs_bestBit10 [x1] η) : ∀ (x2 : Int) (η1 : zE), ((gC2 wl_gs [(nat_lit 0, zPgs_within, zOgs_within, zMgs_within)] pCgs_bestBit10 qCgs_bestBit10) 0).2 [x1, 1, 12] η x2 η1 → (¬ x2 = 0) → (iCgs_bestBit10 [x1] η) 0 [x1, (-2), 0, 0] η1 := by
  intro x2 η1 h2 c1
  have y2 : fQgs_within [x1, 1, 12] η x2 η1 := h2.2.2
  have k2 : sQ wl_gs zTr zOgs_within zMgs_within [x1, 1, 12] η x2 η1 ∧ oQgs_within [x1, 1, 12] η x2 η1 := ⟨h2.1, h2.2.1⟩
  refine yj_a ?_ ?_
  · have y2 : fQgs_within [x1, 1, 12] η x2 η1 := h2.2.2
    have k2 : sQ wl_gs zTr zOgs_within zMgs_within [x1, 1, 12] η x2 η1 ∧ oQgs_within [x1, 1, 12] η x2 η1 := ⟨h2.1, h2.2.1⟩
    exact trivial
  · obtain ⟨a2, b2⟩ : x2 = yq_in x1 1 12 ∧ η1 = η := y2
    show yv_bI η x1 x1 (-2) 0 0 η1
    exact vbI_0 b2 (by omega)
set_option maxHeartbeats 8000000 in
theorem zgs_bestBit10_o1 {ro : Nat → List Int32} (x1 : Int) (η : zE) (hp : sP wl_gs zTr zPgs_bestBit10 [x1] η) (hpp : pPgs_bestBit10 [x1] η) : ∀ (x2 : Int) (η1 : zE), ((gC2 wl_gs [(nat_lit 0, zPgs_within, zOgs_within, zMgs_within)] pCgs_bestBit10 qCgs_bestBit10) 0).2 [x1, 1, 12] η x2 η1 → (x2 = 0) → (fun (_ : Nat) (y : Int) (η' : zE) => pQgs_bestBit10 [x1] η y η') 0 (-1) η1 := by
  intro x2 η1 h2 c1
  have y2 : fQgs_within [x1, 1, 12] η x2 η1 := h2.2.2
  have k2 : sQ wl_gs zTr zOgs_within zMgs_within [x1, 1, 12] η x2 η1 ∧ oQgs_within [x1, 1, 12] η x2 η1 := ⟨h2.1, h2.2.1⟩
  refine yj_a ?_ ?_
  · have y2 : fQgs_within [x1, 1, 12] η x2 η1 := h2.2.2
    have k2 : sQ wl_gs zTr zOgs_within zMgs_within [x1, 1, 12] η x2 η1 ∧ oQgs_within [x1, 1, 12] η x2 η1 := ⟨h2.1, h2.2.1⟩
    exact trivial
  · obtain ⟨a2, b2⟩ : x2 = yq_in x1 1 12 ∧ η1 = η := y2
    show -1 = yv_bb x1 η ∧ η1 = η
    exact ⟨by unfold yv_bb; rw [if_pos (by omega)], b2⟩
set_option maxHeartbeats 8000000 in
theorem zgs_bestBit10_o2 {ro : Nat → List Int32} (xs : List Int) (η0 : zE) (hp : sP wl_gs zTr zPgs_bestBit10 xs η0) (hpp : pPgs_bestBit10 xs η0) (x1 x2 x3 x4 : Int) (η : zE) (hI : zsI wl_gs zTr zVgs_bestBit10 zMgs_bestBit10 η0 0 [x1, x2, x3, x4] η) (hig : iCgs_bestBit10 xs η0 0 [x1, x2, x3, x4] η) : ∀ x5 : Int, x5 = zd 0 1 x4 x1 → ∀ x6 : Int, x6 = η 2 (Int.toNat 1) → zok 0 x6 → (x6 < x5) → (fun (_ : Nat) (y : Int) (η' : zE) => pQgs_bestBit10 xs η0 y η') 0 x2 η := by
  have fig := hig.2
  have hig := hig.1
  intro x5 e5 x6 e6 r6 c1
  refine yj_a ?_ ?_
  · exact trivial
  · have e5 : x5 = zd 0 1 x4 x1 := e5
    have e6 : x6 = η 2 1 := e6
    have b4 : (0 : Int) ≤ x4 ∧ x4 ≤ 3 := hI.1.2.1.2.2.2.1
    exact vbI_e (k := x1) (m := x3) (f := x4) fig (by omega) e5 (by rw [← e6]; omega)
set_option maxHeartbeats 8000000 in
theorem zgs_bestBit10_o3 {ro : Nat → List Int32} (xs : List Int) (η0 : zE) (hp : sP wl_gs zTr zPgs_bestBit10 xs η0) (hpp : pPgs_bestBit10 xs η0) (x1 x2 x3 x4 : Int) (η : zE) (hI : zsI wl_gs zTr zVgs_bestBit10 zMgs_bestBit10 η0 0 [x1, x2, x3, x4] η) (hig : iCgs_bestBit10 xs η0 0 [x1, x2, x3, x4] η) : ∀ x5 : Int, x5 = zd 0 1 x4 x1 → ∀ x6 : Int, x6 = η 2 (Int.toNat 1) → zok 0 x6 → (x5 ≤ x6) → (iCgs_bestBit10 xs η0) 1 [x1, x2, x3, x4, 0, x4] η ∧ (fun (_ : Nat) (_ : List Int) (_ : zE) => (0 : Nat)) 1 [x1, x2, x3, x4, 0, x4] η < 1 := by
  have fig := hig.2
  have hig := hig.1
  intro x5 e5 x6 e6 r6 c1
  refine yj_c ?_ ?_
  · exact ⟨trivial, Nat.zero_lt_one⟩
  · have e5 : x5 = zd 0 1 x4 x1 := e5
    have e6 : x6 = η 2 1 := e6
    have b4 : (0 : Int) ≤ x4 ∧ x4 ≤ 3 := hI.1.2.1.2.2.2.1
    show yv_bJ η0 (xs.getD 0 0) x1 x2 x3 x4 0 x4 η
    exact vbJ_0 fig (by omega) e5 (by rw [← e6]; omega)
set_option maxHeartbeats 8000000 in
theorem zgs_bestBit10_o4 {ro : Nat → List Int32} (xs : List Int) (η0 : zE) (hp : sP wl_gs zTr zPgs_bestBit10 xs η0) (hpp : pPgs_bestBit10 xs η0) (x1 x2 x3 x4 x5 x6 : Int) (η : zE) (hI : zsI wl_gs zTr zVgs_bestBit10 zMgs_bestBit10 η0 1 [x1, x2, x3, x4, x5, x6] η) (hig : iCgs_bestBit10 xs η0 1 [x1, x2, x3, x4, x5, x6] η) : ∀ x7 : Int, x7 = zd 0 1 x4 x1 → (x7 ≤ x6) → (x2 < 0) → ∀ x8 : Int, x8 = zd 0 1 x4 1 → (iCgs_bestBit10 xs η0) 0 [x1, x4, x5, x8] η ∧ (fun (_ : Nat) (_ : List Int) (_ : zE) => (0 : Nat)) 0 [x1, x4, x5, x8] η < 1 := by
  have fig := hig.2
  have hig := hig.1
  intro x7 e7 c1 c2 x8 e8
  refine yj_c ?_ ?_
  · exact ⟨trivial, Nat.zero_lt_one⟩
  · have e7 : x7 = zd 0 1 x4 x1 := e7
    have e8 : x8 = zd 0 1 x4 1 := e8
    have b4 : (0 : Int) ≤ x4 ∧ x4 ≤ 2 := hI.1.2.1.2.2.2.1
    show yv_bI η0 (xs.getD 0 0) x1 x4 x5 x8 η
    refine vbJ_e (b := x2) (m := x3) (k := x1) (f := x4) (g := x6) (s := x5) fig (by omega) e7 (by omega) e8 ?_
    rw [if_pos (by omega)]
set_option maxHeartbeats 8000000 in
theorem zgs_bestBit10_o5 {ro : Nat → List Int32} (xs : List Int) (η0 : zE) (hp : sP wl_gs zTr zPgs_bestBit10 xs η0) (hpp : pPgs_bestBit10 xs η0) (x1 x2 x3 x4 x5 x6 : Int) (η : zE) (hI : zsI wl_gs zTr zVgs_bestBit10 zMgs_bestBit10 η0 1 [x1, x2, x3, x4, x5, x6] η) (hig : iCgs_bestBit10 xs η0 1 [x1, x2, x3, x4, x5, x6] η) : ∀ x7 : Int, x7 = zd 0 1 x4 x1 → (x7 ≤ x6) → (0 ≤ x2) → (x5 ≤ x3) → ∀ x8 : Int, x8 = zd 0 1 x4 1 → (iCgs_bestBit10 xs η0) 0 [x1, x2, x3, x8] η ∧ (fun (_ : Nat) (_ : List Int) (_ : zE) => (0 : Nat)) 0 [x1, x2, x3, x8] η < 1 := by
  have fig := hig.2
  have hig := hig.1
  intro x7 e7 c1 c2 c3 x8 e8
  refine yj_c ?_ ?_
  · exact ⟨trivial, Nat.zero_lt_one⟩
  · have e7 : x7 = zd 0 1 x4 x1 := e7
    have e8 : x8 = zd 0 1 x4 1 := e8
    have b4 : (0 : Int) ≤ x4 ∧ x4 ≤ 2 := hI.1.2.1.2.2.2.1
    show yv_bI η0 (xs.getD 0 0) x1 x2 x3 x8 η
    refine vbJ_e (b := x2) (m := x3) (k := x1) (f := x4) (g := x6) (s := x5) fig (by omega) e7 (by omega) e8 ?_
    rw [if_neg (by omega)]
set_option maxHeartbeats 8000000 in
theorem zgs_bestBit10_o6 {ro : Nat → List Int32} (xs : List Int) (η0 : zE) (hp : sP wl_gs zTr zPgs_bestBit10 xs η0) (hpp : pPgs_bestBit10 xs η0) (x1 x2 x3 x4 x5 x6 : Int) (η : zE) (hI : zsI wl_gs zTr zVgs_bestBit10 zMgs_bestBit10 η0 1 [x1, x2, x3, x4, x5, x6] η) (hig : iCgs_bestBit10 xs η0 1 [x1, x2, x3, x4, x5, x6] η) : ∀ x7 : Int, x7 = zd 0 1 x4 x1 → (x7 ≤ x6) → (0 ≤ x2) → (x3 < x5) → ∀ x8 : Int, x8 = zd 0 1 x4 1 → (iCgs_bestBit10 xs η0) 0 [x1, x4, x5, x8] η ∧ (fun (_ : Nat) (_ : List Int) (_ : zE) => (0 : Nat)) 0 [x1, x4, x5, x8] η < 1 := by
  have fig := hig.2
  have hig := hig.1
  intro x7 e7 c1 c2 c3 x8 e8
  refine yj_c ?_ ?_
  · exact ⟨trivial, Nat.zero_lt_one⟩
  · have e7 : x7 = zd 0 1 x4 x1 := e7
    have e8 : x8 = zd 0 1 x4 1 := e8
    have b4 : (0 : Int) ≤ x4 ∧ x4 ≤ 2 := hI.1.2.1.2.2.2.1
    show yv_bI η0 (xs.getD 0 0) x1 x4 x5 x8 η
    refine vbJ_e (b := x2) (m := x3) (k := x1) (f := x4) (g := x6) (s := x5) fig (by omega) e7 (by omega) e8 ?_
    rw [if_pos (by omega)]
set_option maxHeartbeats 8000000 in
theorem zgs_bestBit10_o7 {ro : Nat → List Int32} (xs : List Int) (η0 : zE) (hp : sP wl_gs zTr zPgs_bestBit10 xs η0) (hpp : pPgs_bestBit10 xs η0) (x1 x2 x3 x4 x5 x6 : Int) (η : zE) (hI : zsI wl_gs zTr zVgs_bestBit10 zMgs_bestBit10 η0 1 [x1, x2, x3, x4, x5, x6] η) (hig : iCgs_bestBit10 xs η0 1 [x1, x2, x3, x4, x5, x6] η) : ∀ x7 : Int, x7 = zd 0 1 x4 x1 → (x6 < x7) → ∀ x8 : Int, x8 = η 4 (Int.toNat x6) → zok 0 x8 → ∀ x9 : Int, x9 = zd 0 1 x5 x8 → ∀ x10 : Int, x10 = zd 0 1 x6 1 → (iCgs_bestBit10 xs η0) 1 [x1, x2, x3, x4, x9, x10] η ∧ (fun (_ : Nat) (_ : List Int) (_ : zE) => (0 : Nat)) 1 [x1, x2, x3, x4, x9, x10] η < 1 := by
  have fig := hig.2
  have hig := hig.1
  intro x7 e7 c1 x8 e8 r8 x9 e9 x10 e10
  refine yj_c ?_ ?_
  · exact ⟨trivial, Nat.zero_lt_one⟩
  · have e7 : x7 = zd 0 1 x4 x1 := e7
    have e8 : x8 = η 4 (Int.toNat x6) := e8
    have e9 : x9 = zd 0 1 x5 x8 := e9
    have e10 : x10 = zd 0 1 x6 1 := e10
    have b4 : (0 : Int) ≤ x4 ∧ x4 ≤ 2 := hI.1.2.1.2.2.2.1
    show yv_bJ η0 (xs.getD 0 0) x1 x2 x3 x4 x9 x10 η
    exact vbJ_s (k := x1) (f := x4) (g := x6) fig (by omega) e7 (by omega) e8 e9 e10
set_option maxHeartbeats 8000000 in
theorem zgs_bestBit10 {ro : Nat → List Int32} : zMet pr_P pr_K pr_df ro (sm_X0 1 6) 1 98 tm_gs [(.inr (.inr (.inl (nat_lit 0)))), (.inl (nat_lit 1, (.ofNat (nat_lit 0))))] 1 [(nat_lit 0, nat_lit 0, nat_lit 1), (nat_lit 0, nat_lit 4, nat_lit 2), (nat_lit 0, nat_lit 5, nat_lit 32), (nat_lit 0, nat_lit 6, nat_lit 60), (nat_lit 0, nat_lit 7, nat_lit 70), (nat_lit 0, nat_lit 8, nat_lit 74), (nat_lit 0, nat_lit 11, nat_lit 78), (nat_lit 0, nat_lit 12, nat_lit 82), (nat_lit 0, nat_lit 13, nat_lit 90), (nat_lit 0, nat_lit 14, nat_lit 91), (nat_lit 0, nat_lit 15, nat_lit 95), (nat_lit 0, nat_lit 16, nat_lit 101), (nat_lit 2, nat_lit 8, nat_lit 3), (nat_lit 2, nat_lit 9, nat_lit 4), (nat_lit 2, nat_lit 10, nat_lit 5), (nat_lit 2, nat_lit 11, nat_lit 6), (nat_lit 2, nat_lit 12, nat_lit 11), (nat_lit 2, nat_lit 13, nat_lit 16), (nat_lit 2, nat_lit 14, nat_lit 17), (nat_lit 6, nat_lit 0, nat_lit 7), (nat_lit 11, nat_lit 0, nat_lit 12), (nat_lit 6, nat_lit 1, nat_lit 8), (nat_lit 11, nat_lit 1, nat_lit 13), (nat_lit 6, nat_lit 2, nat_lit 9), (nat_lit 11, nat_lit 2, nat_lit 14), (nat_lit 6, nat_lit 3, nat_lit 10), (nat_lit 11, nat_lit 3, nat_lit 15), (nat_lit 17, nat_lit 2, nat_lit 18), (nat_lit 17, nat_lit 3, nat_lit 19), (nat_lit 17, nat_lit 4, nat_lit 20), (nat_lit 17, nat_lit 5, nat_lit 21), (nat_lit 17, nat_lit 6, nat_lit 22), (nat_lit 32, nat_lit 8, nat_lit 33), (nat_lit 32, nat_lit 9, nat_lit 34), (nat_lit 32, nat_lit 10, nat_lit 35), (nat_lit 32, nat_lit 11, nat_lit 36), (nat_lit 32, nat_lit 12, nat_lit 41), (nat_lit 32, nat_lit 13, nat_lit 46), (nat_lit 32, nat_lit 14, nat_lit 47), (nat_lit 36, nat_lit 0, nat_lit 37), (nat_lit 41, nat_lit 0, nat_lit 42), (nat_lit 36, nat_lit 1, nat_lit 38), (nat_lit 41, nat_lit 1, nat_lit 43), (nat_lit 36, nat_lit 2, nat_lit 39), (nat_lit 41, nat_lit 2, nat_lit 44), (nat_lit 36, nat_lit 3, nat_lit 40), (nat_lit 41, nat_lit 3, nat_lit 45), (nat_lit 47, nat_lit 2, nat_lit 48), (nat_lit 47, nat_lit 3, nat_lit 49), (nat_lit 47, nat_lit 4, nat_lit 50), (nat_lit 47, nat_lit 5, nat_lit 51), (nat_lit 47, nat_lit 6, nat_lit 52), (nat_lit 60, nat_lit 3, nat_lit 1), (nat_lit 60, nat_lit 9, nat_lit 61), (nat_lit 60, nat_lit 10, nat_lit 62), (nat_lit 60, nat_lit 11, nat_lit 63), (nat_lit 70, nat_lit 8, nat_lit 71), (nat_lit 70, nat_lit 9, nat_lit 72), (nat_lit 70, nat_lit 10, nat_lit 73), (nat_lit 74, nat_lit 8, nat_lit 75), (nat_lit 74, nat_lit 9, nat_lit 76), (nat_lit 74, nat_lit 10, nat_lit 77), (nat_lit 78, nat_lit 8, nat_lit 79), (nat_lit 78, nat_lit 9, nat_lit 80), (nat_lit 78, nat_lit 10, nat_lit 81), (nat_lit 82, nat_lit 8, nat_lit 83), (nat_lit 82, nat_lit 9, nat_lit 84), (nat_lit 82, nat_lit 10, nat_lit 85), (nat_lit 91, nat_lit 1, nat_lit 92), (nat_lit 91, nat_lit 2, nat_lit 93), (nat_lit 91, nat_lit 3, nat_lit 94), (nat_lit 95, nat_lit 2, nat_lit 96), (nat_lit 95, nat_lit 3, nat_lit 97), (nat_lit 95, nat_lit 4, nat_lit 98), (nat_lit 95, nat_lit 5, nat_lit 99), (nat_lit 95, nat_lit 6, nat_lit 100)] [] (fun xs η => sP wl_gs zTr zPgs_bestBit10 xs η ∧ pPgs_bestBit10 xs η) (fun xs η y η' => sQ wl_gs zTr zOgs_bestBit10 zMgs_bestBit10 xs η y η' ∧ pQgs_bestBit10 xs η y η') :=
  zmet_alt (zmea_gen (mi := (nat_lit 1, nat_lit 1, nat_lit 7, nat_lit 7, nat_lit 1, tX7_bestBit)) (cd := [(nat_lit 75, nat_lit 0, nat_lit 0, [(.inl (nat_lit 1, (.ofNat (nat_lit 0)))), (.inl (nat_lit 2, (.ofNat (nat_lit 0)))), (.inl (nat_lit 3, (.ofNat (nat_lit 0))))], nat_lit 2, [], [])]) (cu := zUgs_bestBit10) (cs := [(nat_lit 0, zPgs_within, zOgs_within, zMgs_within)]) (iv := zVgs_bestBit10) (po := [zOgs_bestBit10]) (pr := zPgs_bestBit10) (mods := zMgs_bestBit10) (D7 := zDgs_bestBit10) (D0 := zEgs_bestBit10) (Dm := zFgs_bestBit10) (f0 := 16) pCgs_bestBit10 qCgs_bestBit10 iCgs_bestBit10 pPgs_bestBit10 (fun xs η _ y η' => pQgs_bestBit10 xs η y η') zX_low pr_mtR rfl (List.forall_mem_cons.mpr ⟨zgs_within, fun _ h => nomatch h⟩) (by decide +kernel) (by decide +kernel) (by decide +kernel)
    (by
      intro xs η hr hl hp hpp
      match xs, hl, hp, hpp with
      | [x1], _, hp, hpp =>
        refine List.forall_mem_cons.mpr ⟨?_, List.forall_mem_cons.mpr ⟨?_, List.forall_mem_cons.mpr ⟨?_, fun _ h => nomatch h⟩⟩⟩
        · refine zden_L (n := 2) (ρ := [x1, 0]) rfl ?_
          show ((gC2 wl_gs [(nat_lit 0, zPgs_within, zOgs_within, zMgs_within)] pCgs_bestBit10 qCgs_bestBit10) 0).1 [x1, 1, 12] η
          
          exact trivial
        · refine zden_L (n := 2) (ρ := [x1, 0]) rfl ?_
          exact zgs_bestBit10_o0 (ro := ro) x1 η hp hpp
        · refine zden_L (n := 2) (ρ := [x1, 0]) rfl ?_
          exact zgs_bestBit10_o1 (ro := ro) x1 η hp hpp
      )
    (fun _ _ _ _ _ _ _ h => nomatch h)
    (List.forall_mem_cons.mpr ⟨⟨zDgs_bestBit10_0, zEgs_bestBit10_0, zFgs_bestBit10_0, 16, by decide +kernel, (by
      intro xs η0 hlx hp hpp ys η hr hl hI hig
      match ys, hl, hI, hig with
      | [x1, x2, x3, x4], _, hI, hig =>
        refine ⟨?_, ?_⟩
        · refine List.forall_mem_cons.mpr ⟨?_, List.forall_mem_cons.mpr ⟨?_, fun _ h => nomatch h⟩⟩
          · refine zden_L (n := 5) (ρ := [x4, x3, x2, x1, 0]) rfl ?_
            exact zgs_bestBit10_o2 (ro := ro) xs η0 hp hpp x1 x2 x3 x4 η hI hig
          · refine zden_L (n := 5) (ρ := [x4, x3, x2, x1, 0]) rfl ?_
            exact zgs_bestBit10_o3 (ro := ro) xs η0 hp hpp x1 x2 x3 x4 η hI hig
        · exact fun _ h => nomatch h
      )⟩, (List.forall_mem_cons.mpr ⟨⟨zDgs_bestBit10_1, zEgs_bestBit10_1, zFgs_bestBit10_1, 21, by decide +kernel, (by
      intro xs η0 hlx hp hpp ys η hr hl hI hig
      match ys, hl, hI, hig with
      | [x1, x2, x3, x4, x5, x6], _, hI, hig =>
        refine ⟨?_, ?_⟩
        · refine List.forall_mem_cons.mpr ⟨?_, List.forall_mem_cons.mpr ⟨?_, List.forall_mem_cons.mpr ⟨?_, List.forall_mem_cons.mpr ⟨?_, fun _ h => nomatch h⟩⟩⟩⟩
          · refine zden_L (n := 7) (ρ := [x6, x5, x4, x3, x2, x1, 0]) rfl ?_
            exact zgs_bestBit10_o4 (ro := ro) xs η0 hp hpp x1 x2 x3 x4 x5 x6 η hI hig
          · refine zden_L (n := 7) (ρ := [x6, x5, x4, x3, x2, x1, 0]) rfl ?_
            exact zgs_bestBit10_o5 (ro := ro) xs η0 hp hpp x1 x2 x3 x4 x5 x6 η hI hig
          · refine zden_L (n := 7) (ρ := [x6, x5, x4, x3, x2, x1, 0]) rfl ?_
            exact zgs_bestBit10_o6 (ro := ro) xs η0 hp hpp x1 x2 x3 x4 x5 x6 η hI hig
          · refine zden_L (n := 7) (ρ := [x6, x5, x4, x3, x2, x1, 0]) rfl ?_
            exact zgs_bestBit10_o7 (ro := ro) xs η0 hp hpp x1 x2 x3 x4 x5 x6 η hI hig
        · exact fun _ h => nomatch h
      )⟩, (fun _ h => nomatch h)⟩)⟩))
def zPgs_bestBit11 : zPq := ([((.ofNat (nat_lit 11)), (.ofNat (nat_lit 11)))], [])
def zOgs_bestBit11 : zPo := (((.negSucc (nat_lit 2147483647)), (.ofNat (nat_lit 2147483647))), [], [])
def zMgs_bestBit11 : List zCe := []
def pPgs_bestBit11 : List Int → zE → Prop := fun _ _ => True
def oQgs_bestBit11 : List Int → zE → Int → zE → Prop := fun _ _ _ _ => True
def fQgs_bestBit11 : List Int → zE → Int → zE → Prop := fun xs η y η' => y = (yv_bb (xs.getD 0 0) η) ∧ η' = η
def pQgs_bestBit11 : List Int → zE → Int → zE → Prop := fun xs η y η' => oQgs_bestBit11 xs η y η' ∧ fQgs_bestBit11 xs η y η'
def pCgs_bestBit11 : Nat → List Int → zE → Prop := fun c => match c with
  | 0 => pPgs_within
  | _ => fun _ _ => True
def qCgs_bestBit11 : Nat → List Int → zE → Int → zE → Prop := fun c => match c with
  | 0 => pQgs_within
  | _ => fun _ _ _ _ => True
def iCgs_bestBit11 : List Int → zE → Nat → List Int → zE → Prop := fun xs η0 c => match c with
  | 0 => fun ys η => (True) ∧ (yv_bI η0 (xs.getD 0 0) (ys.getD 0 0) (ys.getD 1 0) (ys.getD 2 0) (ys.getD 3 0) η)
  | 1 => fun ys η => (True) ∧ (yv_bJ η0 (xs.getD 0 0) (ys.getD 0 0) (ys.getD 1 0) (ys.getD 2 0) (ys.getD 3 0) (ys.getD 4 0) (ys.getD 5 0) η)
  | _ => fun _ _ => True
def zVgs_bestBit11 : List zIv := [(nat_lit 0, ([((.ofNat (nat_lit 11)), (.ofNat (nat_lit 11))), ((.negSucc (nat_lit 2147483647)), (.ofNat (nat_lit 2147483647))), ((.negSucc (nat_lit 2147483647)), (.ofNat (nat_lit 2147483647))), ((.ofNat (nat_lit 0)), (.ofNat (nat_lit 2)))], []), ((.ofNat (nat_lit 2000)), [((.negSucc (nat_lit 99)), nat_lit 0, nat_lit 3, nat_lit 0)])), (nat_lit 1, ([((.ofNat (nat_lit 11)), (.ofNat (nat_lit 11))), ((.negSucc (nat_lit 2147483647)), (.ofNat (nat_lit 2147483647))), ((.negSucc (nat_lit 2147483647)), (.ofNat (nat_lit 2147483647))), ((.ofNat (nat_lit 0)), (.ofNat (nat_lit 1))), ((.negSucc (nat_lit 2147483647)), (.ofNat (nat_lit 2147483647))), ((.ofNat (nat_lit 0)), (.ofNat (nat_lit 12)))], []), ((.ofNat (nat_lit 1950)), [((.negSucc (nat_lit 99)), nat_lit 0, nat_lit 3, nat_lit 0), ((.negSucc (nat_lit 0)), nat_lit 0, nat_lit 5, nat_lit 0)]))]
def zUgs_bestBit11 : List zCu := [(nat_lit 20, nat_lit 0, [(nat_lit 0, (.inr (.inr (.inl (nat_lit 0))))), (nat_lit 1, (.inl (nat_lit 1, (.ofNat (nat_lit 0))))), (nat_lit 2, (.inl (nat_lit 2, (.ofNat (nat_lit 0))))), (nat_lit 3, (.inl (nat_lit 3, (.ofNat (nat_lit 0))))), (nat_lit 4, (.inl (nat_lit 4, (.ofNat (nat_lit 0)))))], []), (nat_lit 41, nat_lit 1, [(nat_lit 0, (.inr (.inr (.inl (nat_lit 0))))), (nat_lit 1, (.inl (nat_lit 1, (.ofNat (nat_lit 0))))), (nat_lit 2, (.inl (nat_lit 2, (.ofNat (nat_lit 0))))), (nat_lit 3, (.inl (nat_lit 3, (.ofNat (nat_lit 0))))), (nat_lit 4, (.inl (nat_lit 4, (.ofNat (nat_lit 0))))), (nat_lit 5, (.inl (nat_lit 5, (.ofNat (nat_lit 0))))), (nat_lit 6, (.inl (nat_lit 6, (.ofNat (nat_lit 0)))))], [])]
def zDgs_bestBit11 : List (List zK) := []
def zEgs_bestBit11 : List (List zK) := [[(nat_lit 13, nat_lit 0, [(nat_lit 1, (.ofNat (nat_lit 0))), (nat_lit 0, (.ofNat (nat_lit 1))), (nat_lit 0, (.ofNat (nat_lit 12)))])],
  [(nat_lit 12, nat_lit 0, [(nat_lit 1, (.ofNat (nat_lit 0))), (nat_lit 0, (.negSucc (nat_lit 1))), (nat_lit 0, (.ofNat (nat_lit 0))), (nat_lit 0, (.ofNat (nat_lit 0)))]), (nat_lit 6, nat_lit 1, [(nat_lit 2, (.ofNat (nat_lit 0))), (nat_lit 0, (.ofNat (nat_lit 0)))]), (nat_lit 8, nat_lit 0, [(nat_lit 1, (.ofNat (nat_lit 0))), (nat_lit 0, (.ofNat (nat_lit 1))), (nat_lit 0, (.ofNat (nat_lit 12)))])],
  [(nat_lit 11, nat_lit 0, [(nat_lit 0, (.negSucc (nat_lit 0)))]), (nat_lit 6, nat_lit 0, [(nat_lit 2, (.ofNat (nat_lit 0))), (nat_lit 0, (.ofNat (nat_lit 0)))]), (nat_lit 8, nat_lit 0, [(nat_lit 1, (.ofNat (nat_lit 0))), (nat_lit 0, (.ofNat (nat_lit 1))), (nat_lit 0, (.ofNat (nat_lit 12)))])]]
def zFgs_bestBit11 : List (List zK) := []
def zDgs_bestBit11_0 : List (List zK) := []
def zEgs_bestBit11_0 : List (List zK) := [[(nat_lit 11, nat_lit 0, [(nat_lit 2, (.ofNat (nat_lit 0)))]), (nat_lit 6, nat_lit 4, [(nat_lit 5, (.ofNat (nat_lit 0))), (nat_lit 6, (.ofNat (nat_lit 0)))]), (nat_lit 4, nat_lit 0, [(nat_lit 2, (.ofNat (nat_lit 0))), (nat_lit 0, (.ofNat (nat_lit 1)))]), (nat_lit 0, nat_lit 1, [(nat_lit 4, (.ofNat (nat_lit 0))), (nat_lit 1, (.ofNat (nat_lit 0)))])],
  [(nat_lit 10, nat_lit 1, [(nat_lit 1, (.ofNat (nat_lit 0))), (nat_lit 2, (.ofNat (nat_lit 0))), (nat_lit 3, (.ofNat (nat_lit 0))), (nat_lit 4, (.ofNat (nat_lit 0))), (nat_lit 0, (.ofNat (nat_lit 0))), (nat_lit 4, (.ofNat (nat_lit 0)))]), (nat_lit 6, nat_lit 5, [(nat_lit 5, (.ofNat (nat_lit 0))), (nat_lit 6, (.ofNat (nat_lit 0)))]), (nat_lit 4, nat_lit 0, [(nat_lit 2, (.ofNat (nat_lit 0))), (nat_lit 0, (.ofNat (nat_lit 1)))]), (nat_lit 0, nat_lit 1, [(nat_lit 4, (.ofNat (nat_lit 0))), (nat_lit 1, (.ofNat (nat_lit 0)))])]]
def zFgs_bestBit11_0 : List (List zK) := []
def zDgs_bestBit11_1 : List (List zK) := [[(nat_lit 7, nat_lit 0, [(nat_lit 6, (.ofNat (nat_lit 0))), (nat_lit 0, (.ofNat (nat_lit 12)))]), (nat_lit 6, nat_lit 2, [(nat_lit 6, (.ofNat (nat_lit 0))), (nat_lit 7, (.ofNat (nat_lit 0)))]), (nat_lit 0, nat_lit 1, [(nat_lit 4, (.ofNat (nat_lit 0))), (nat_lit 1, (.ofNat (nat_lit 0)))])]]
def zEgs_bestBit11_1 : List (List zK) := [[(nat_lit 10, nat_lit 0, [(nat_lit 1, (.ofNat (nat_lit 0))), (nat_lit 4, (.ofNat (nat_lit 0))), (nat_lit 5, (.ofNat (nat_lit 0))), (nat_lit 8, (.ofNat (nat_lit 0)))]), (nat_lit 0, nat_lit 1, [(nat_lit 4, (.ofNat (nat_lit 0))), (nat_lit 0, (.ofNat (nat_lit 1)))]), (nat_lit 6, nat_lit 2, [(nat_lit 2, (.ofNat (nat_lit 0))), (nat_lit 0, (.ofNat (nat_lit 0)))]), (nat_lit 6, nat_lit 3, [(nat_lit 6, (.ofNat (nat_lit 0))), (nat_lit 7, (.ofNat (nat_lit 0)))]), (nat_lit 0, nat_lit 1, [(nat_lit 4, (.ofNat (nat_lit 0))), (nat_lit 1, (.ofNat (nat_lit 0)))])],
  [(nat_lit 10, nat_lit 0, [(nat_lit 1, (.ofNat (nat_lit 0))), (nat_lit 2, (.ofNat (nat_lit 0))), (nat_lit 3, (.ofNat (nat_lit 0))), (nat_lit 8, (.ofNat (nat_lit 0)))]), (nat_lit 0, nat_lit 1, [(nat_lit 4, (.ofNat (nat_lit 0))), (nat_lit 0, (.ofNat (nat_lit 1)))]), (nat_lit 6, nat_lit 5, [(nat_lit 5, (.ofNat (nat_lit 0))), (nat_lit 3, (.ofNat (nat_lit 0)))]), (nat_lit 6, nat_lit 3, [(nat_lit 2, (.ofNat (nat_lit 0))), (nat_lit 0, (.ofNat (nat_lit 0)))]), (nat_lit 6, nat_lit 3, [(nat_lit 6, (.ofNat (nat_lit 0))), (nat_lit 7, (.ofNat (nat_lit 0)))]), (nat_lit 0, nat_lit 1, [(nat_lit 4, (.ofNat (nat_lit 0))), (nat_lit 1, (.ofNat (nat_lit 0)))])],
  [(nat_lit 10, nat_lit 0, [(nat_lit 1, (.ofNat (nat_lit 0))), (nat_lit 4, (.ofNat (nat_lit 0))), (nat_lit 5, (.ofNat (nat_lit 0))), (nat_lit 8, (.ofNat (nat_lit 0)))]), (nat_lit 0, nat_lit 1, [(nat_lit 4, (.ofNat (nat_lit 0))), (nat_lit 0, (.ofNat (nat_lit 1)))]), (nat_lit 6, nat_lit 4, [(nat_lit 5, (.ofNat (nat_lit 0))), (nat_lit 3, (.ofNat (nat_lit 0)))]), (nat_lit 6, nat_lit 3, [(nat_lit 2, (.ofNat (nat_lit 0))), (nat_lit 0, (.ofNat (nat_lit 0)))]), (nat_lit 6, nat_lit 3, [(nat_lit 6, (.ofNat (nat_lit 0))), (nat_lit 7, (.ofNat (nat_lit 0)))]), (nat_lit 0, nat_lit 1, [(nat_lit 4, (.ofNat (nat_lit 0))), (nat_lit 1, (.ofNat (nat_lit 0)))])],
  [(nat_lit 10, nat_lit 1, [(nat_lit 1, (.ofNat (nat_lit 0))), (nat_lit 2, (.ofNat (nat_lit 0))), (nat_lit 3, (.ofNat (nat_lit 0))), (nat_lit 4, (.ofNat (nat_lit 0))), (nat_lit 9, (.ofNat (nat_lit 0))), (nat_lit 10, (.ofNat (nat_lit 0)))]), (nat_lit 0, nat_lit 1, [(nat_lit 6, (.ofNat (nat_lit 0))), (nat_lit 0, (.ofNat (nat_lit 1)))]), (nat_lit 0, nat_lit 1, [(nat_lit 5, (.ofNat (nat_lit 0))), (nat_lit 8, (.ofNat (nat_lit 0)))]), (nat_lit 4, nat_lit 0, [(nat_lit 4, (.ofNat (nat_lit 0))), (nat_lit 6, (.ofNat (nat_lit 0)))]), (nat_lit 6, nat_lit 2, [(nat_lit 6, (.ofNat (nat_lit 0))), (nat_lit 7, (.ofNat (nat_lit 0)))]), (nat_lit 0, nat_lit 1, [(nat_lit 4, (.ofNat (nat_lit 0))), (nat_lit 1, (.ofNat (nat_lit 0)))])]]
def zFgs_bestBit11_1 : List (List zK) := []
set_option maxHeartbeats 8000000 in
theorem zgs_bestBit11_o0 {ro : Nat → List Int32} (x1 : Int) (η : zE) (hp : sP wl_gs zTr zPgs_bestBit11 [x1] η) (hpp : pPgs_bestBit11 [x1] η) : ∀ (x2 : Int) (η1 : zE), ((gC2 wl_gs [(nat_lit 0, zPgs_within, zOgs_within, zMgs_within)] pCgs_bestBit11 qCgs_bestBit11) 0).2 [x1, 1, 12] η x2 η1 → (¬ x2 = 0) → (iCgs_bestBit11 [x1] η) 0 [x1, (-2), 0, 0] η1 := by
  intro x2 η1 h2 c1
  have y2 : fQgs_within [x1, 1, 12] η x2 η1 := h2.2.2
  have k2 : sQ wl_gs zTr zOgs_within zMgs_within [x1, 1, 12] η x2 η1 ∧ oQgs_within [x1, 1, 12] η x2 η1 := ⟨h2.1, h2.2.1⟩
  refine yj_a ?_ ?_
  · have y2 : fQgs_within [x1, 1, 12] η x2 η1 := h2.2.2
    have k2 : sQ wl_gs zTr zOgs_within zMgs_within [x1, 1, 12] η x2 η1 ∧ oQgs_within [x1, 1, 12] η x2 η1 := ⟨h2.1, h2.2.1⟩
    exact trivial
  · obtain ⟨a2, b2⟩ : x2 = yq_in x1 1 12 ∧ η1 = η := y2
    show yv_bI η x1 x1 (-2) 0 0 η1
    exact vbI_0 b2 (by omega)
set_option maxHeartbeats 8000000 in
theorem zgs_bestBit11_o1 {ro : Nat → List Int32} (x1 : Int) (η : zE) (hp : sP wl_gs zTr zPgs_bestBit11 [x1] η) (hpp : pPgs_bestBit11 [x1] η) : ∀ (x2 : Int) (η1 : zE), ((gC2 wl_gs [(nat_lit 0, zPgs_within, zOgs_within, zMgs_within)] pCgs_bestBit11 qCgs_bestBit11) 0).2 [x1, 1, 12] η x2 η1 → (x2 = 0) → (fun (_ : Nat) (y : Int) (η' : zE) => pQgs_bestBit11 [x1] η y η') 0 (-1) η1 := by
  intro x2 η1 h2 c1
  have y2 : fQgs_within [x1, 1, 12] η x2 η1 := h2.2.2
  have k2 : sQ wl_gs zTr zOgs_within zMgs_within [x1, 1, 12] η x2 η1 ∧ oQgs_within [x1, 1, 12] η x2 η1 := ⟨h2.1, h2.2.1⟩
  refine yj_a ?_ ?_
  · have y2 : fQgs_within [x1, 1, 12] η x2 η1 := h2.2.2
    have k2 : sQ wl_gs zTr zOgs_within zMgs_within [x1, 1, 12] η x2 η1 ∧ oQgs_within [x1, 1, 12] η x2 η1 := ⟨h2.1, h2.2.1⟩
    exact trivial
  · obtain ⟨a2, b2⟩ : x2 = yq_in x1 1 12 ∧ η1 = η := y2
    show -1 = yv_bb x1 η ∧ η1 = η
    exact ⟨by unfold yv_bb; rw [if_pos (by omega)], b2⟩
set_option maxHeartbeats 8000000 in
theorem zgs_bestBit11_o2 {ro : Nat → List Int32} (xs : List Int) (η0 : zE) (hp : sP wl_gs zTr zPgs_bestBit11 xs η0) (hpp : pPgs_bestBit11 xs η0) (x1 x2 x3 x4 : Int) (η : zE) (hI : zsI wl_gs zTr zVgs_bestBit11 zMgs_bestBit11 η0 0 [x1, x2, x3, x4] η) (hig : iCgs_bestBit11 xs η0 0 [x1, x2, x3, x4] η) : ∀ x5 : Int, x5 = zd 0 1 x4 x1 → ∀ x6 : Int, x6 = η 2 (Int.toNat 1) → zok 0 x6 → (x6 < x5) → (fun (_ : Nat) (y : Int) (η' : zE) => pQgs_bestBit11 xs η0 y η') 0 x2 η := by
  have fig := hig.2
  have hig := hig.1
  intro x5 e5 x6 e6 r6 c1
  refine yj_a ?_ ?_
  · exact trivial
  · have e5 : x5 = zd 0 1 x4 x1 := e5
    have e6 : x6 = η 2 1 := e6
    have b4 : (0 : Int) ≤ x4 ∧ x4 ≤ 2 := hI.1.2.1.2.2.2.1
    exact vbI_e (k := x1) (m := x3) (f := x4) fig (by omega) e5 (by rw [← e6]; omega)
set_option maxHeartbeats 8000000 in
theorem zgs_bestBit11_o3 {ro : Nat → List Int32} (xs : List Int) (η0 : zE) (hp : sP wl_gs zTr zPgs_bestBit11 xs η0) (hpp : pPgs_bestBit11 xs η0) (x1 x2 x3 x4 : Int) (η : zE) (hI : zsI wl_gs zTr zVgs_bestBit11 zMgs_bestBit11 η0 0 [x1, x2, x3, x4] η) (hig : iCgs_bestBit11 xs η0 0 [x1, x2, x3, x4] η) : ∀ x5 : Int, x5 = zd 0 1 x4 x1 → ∀ x6 : Int, x6 = η 2 (Int.toNat 1) → zok 0 x6 → (x5 ≤ x6) → (iCgs_bestBit11 xs η0) 1 [x1, x2, x3, x4, 0, x4] η ∧ (fun (_ : Nat) (_ : List Int) (_ : zE) => (0 : Nat)) 1 [x1, x2, x3, x4, 0, x4] η < 1 := by
  have fig := hig.2
  have hig := hig.1
  intro x5 e5 x6 e6 r6 c1
  refine yj_c ?_ ?_
  · exact ⟨trivial, Nat.zero_lt_one⟩
  · have e5 : x5 = zd 0 1 x4 x1 := e5
    have e6 : x6 = η 2 1 := e6
    have b4 : (0 : Int) ≤ x4 ∧ x4 ≤ 2 := hI.1.2.1.2.2.2.1
    show yv_bJ η0 (xs.getD 0 0) x1 x2 x3 x4 0 x4 η
    exact vbJ_0 fig (by omega) e5 (by rw [← e6]; omega)
set_option maxHeartbeats 8000000 in
theorem zgs_bestBit11_o4 {ro : Nat → List Int32} (xs : List Int) (η0 : zE) (hp : sP wl_gs zTr zPgs_bestBit11 xs η0) (hpp : pPgs_bestBit11 xs η0) (x1 x2 x3 x4 x5 x6 : Int) (η : zE) (hI : zsI wl_gs zTr zVgs_bestBit11 zMgs_bestBit11 η0 1 [x1, x2, x3, x4, x5, x6] η) (hig : iCgs_bestBit11 xs η0 1 [x1, x2, x3, x4, x5, x6] η) : ∀ x7 : Int, x7 = zd 0 1 x4 x1 → (x7 ≤ x6) → (x2 < 0) → ∀ x8 : Int, x8 = zd 0 1 x4 1 → (iCgs_bestBit11 xs η0) 0 [x1, x4, x5, x8] η ∧ (fun (_ : Nat) (_ : List Int) (_ : zE) => (0 : Nat)) 0 [x1, x4, x5, x8] η < 1 := by
  have fig := hig.2
  have hig := hig.1
  intro x7 e7 c1 c2 x8 e8
  refine yj_c ?_ ?_
  · exact ⟨trivial, Nat.zero_lt_one⟩
  · have e7 : x7 = zd 0 1 x4 x1 := e7
    have e8 : x8 = zd 0 1 x4 1 := e8
    have b4 : (0 : Int) ≤ x4 ∧ x4 ≤ 1 := hI.1.2.1.2.2.2.1
    show yv_bI η0 (xs.getD 0 0) x1 x4 x5 x8 η
    refine vbJ_e (b := x2) (m := x3) (k := x1) (f := x4) (g := x6) (s := x5) fig (by omega) e7 (by omega) e8 ?_
    rw [if_pos (by omega)]
set_option maxHeartbeats 8000000 in
theorem zgs_bestBit11_o5 {ro : Nat → List Int32} (xs : List Int) (η0 : zE) (hp : sP wl_gs zTr zPgs_bestBit11 xs η0) (hpp : pPgs_bestBit11 xs η0) (x1 x2 x3 x4 x5 x6 : Int) (η : zE) (hI : zsI wl_gs zTr zVgs_bestBit11 zMgs_bestBit11 η0 1 [x1, x2, x3, x4, x5, x6] η) (hig : iCgs_bestBit11 xs η0 1 [x1, x2, x3, x4, x5, x6] η) : ∀ x7 : Int, x7 = zd 0 1 x4 x1 → (x7 ≤ x6) → (0 ≤ x2) → (x5 ≤ x3) → ∀ x8 : Int, x8 = zd 0 1 x4 1 → (iCgs_bestBit11 xs η0) 0 [x1, x2, x3, x8] η ∧ (fun (_ : Nat) (_ : List Int) (_ : zE) => (0 : Nat)) 0 [x1, x2, x3, x8] η < 1 := by
  have fig := hig.2
  have hig := hig.1
  intro x7 e7 c1 c2 c3 x8 e8
  refine yj_c ?_ ?_
  · exact ⟨trivial, Nat.zero_lt_one⟩
  · have e7 : x7 = zd 0 1 x4 x1 := e7
    have e8 : x8 = zd 0 1 x4 1 := e8
    have b4 : (0 : Int) ≤ x4 ∧ x4 ≤ 1 := hI.1.2.1.2.2.2.1
    show yv_bI η0 (xs.getD 0 0) x1 x2 x3 x8 η
    refine vbJ_e (b := x2) (m := x3) (k := x1) (f := x4) (g := x6) (s := x5) fig (by omega) e7 (by omega) e8 ?_
    rw [if_neg (by omega)]
set_option maxHeartbeats 8000000 in
theorem zgs_bestBit11_o6 {ro : Nat → List Int32} (xs : List Int) (η0 : zE) (hp : sP wl_gs zTr zPgs_bestBit11 xs η0) (hpp : pPgs_bestBit11 xs η0) (x1 x2 x3 x4 x5 x6 : Int) (η : zE) (hI : zsI wl_gs zTr zVgs_bestBit11 zMgs_bestBit11 η0 1 [x1, x2, x3, x4, x5, x6] η) (hig : iCgs_bestBit11 xs η0 1 [x1, x2, x3, x4, x5, x6] η) : ∀ x7 : Int, x7 = zd 0 1 x4 x1 → (x7 ≤ x6) → (0 ≤ x2) → (x3 < x5) → ∀ x8 : Int, x8 = zd 0 1 x4 1 → (iCgs_bestBit11 xs η0) 0 [x1, x4, x5, x8] η ∧ (fun (_ : Nat) (_ : List Int) (_ : zE) => (0 : Nat)) 0 [x1, x4, x5, x8] η < 1 := by
  have fig := hig.2
  have hig := hig.1
  intro x7 e7 c1 c2 c3 x8 e8
  refine yj_c ?_ ?_
  · exact ⟨trivial, Nat.zero_lt_one⟩
  · have e7 : x7 = zd 0 1 x4 x1 := e7
    have e8 : x8 = zd 0 1 x4 1 := e8
    have b4 : (0 : Int) ≤ x4 ∧ x4 ≤ 1 := hI.1.2.1.2.2.2.1
    show yv_bI η0 (xs.getD 0 0) x1 x4 x5 x8 η
    refine vbJ_e (b := x2) (m := x3) (k := x1) (f := x4) (g := x6) (s := x5) fig (by omega) e7 (by omega) e8 ?_
    rw [if_pos (by omega)]
set_option maxHeartbeats 8000000 in
theorem zgs_bestBit11_o7 {ro : Nat → List Int32} (xs : List Int) (η0 : zE) (hp : sP wl_gs zTr zPgs_bestBit11 xs η0) (hpp : pPgs_bestBit11 xs η0) (x1 x2 x3 x4 x5 x6 : Int) (η : zE) (hI : zsI wl_gs zTr zVgs_bestBit11 zMgs_bestBit11 η0 1 [x1, x2, x3, x4, x5, x6] η) (hig : iCgs_bestBit11 xs η0 1 [x1, x2, x3, x4, x5, x6] η) : ∀ x7 : Int, x7 = zd 0 1 x4 x1 → (x6 < x7) → ∀ x8 : Int, x8 = η 4 (Int.toNat x6) → zok 0 x8 → ∀ x9 : Int, x9 = zd 0 1 x5 x8 → ∀ x10 : Int, x10 = zd 0 1 x6 1 → (iCgs_bestBit11 xs η0) 1 [x1, x2, x3, x4, x9, x10] η ∧ (fun (_ : Nat) (_ : List Int) (_ : zE) => (0 : Nat)) 1 [x1, x2, x3, x4, x9, x10] η < 1 := by
  have fig := hig.2
  have hig := hig.1
  intro x7 e7 c1 x8 e8 r8 x9 e9 x10 e10
  refine yj_c ?_ ?_
  · exact ⟨trivial, Nat.zero_lt_one⟩
  · have e7 : x7 = zd 0 1 x4 x1 := e7
    have e8 : x8 = η 4 (Int.toNat x6) := e8
    have e9 : x9 = zd 0 1 x5 x8 := e9
    have e10 : x10 = zd 0 1 x6 1 := e10
    have b4 : (0 : Int) ≤ x4 ∧ x4 ≤ 1 := hI.1.2.1.2.2.2.1
    show yv_bJ η0 (xs.getD 0 0) x1 x2 x3 x4 x9 x10 η
    exact vbJ_s (k := x1) (f := x4) (g := x6) fig (by omega) e7 (by omega) e8 e9 e10
set_option maxHeartbeats 8000000 in
theorem zgs_bestBit11 {ro : Nat → List Int32} : zMet pr_P pr_K pr_df ro (sm_X0 1 6) 1 98 tm_gs [(.inr (.inr (.inl (nat_lit 0)))), (.inl (nat_lit 1, (.ofNat (nat_lit 0))))] 1 [(nat_lit 0, nat_lit 0, nat_lit 1), (nat_lit 0, nat_lit 4, nat_lit 2), (nat_lit 0, nat_lit 5, nat_lit 32), (nat_lit 0, nat_lit 6, nat_lit 60), (nat_lit 0, nat_lit 7, nat_lit 70), (nat_lit 0, nat_lit 8, nat_lit 74), (nat_lit 0, nat_lit 11, nat_lit 78), (nat_lit 0, nat_lit 12, nat_lit 82), (nat_lit 0, nat_lit 13, nat_lit 90), (nat_lit 0, nat_lit 14, nat_lit 91), (nat_lit 0, nat_lit 15, nat_lit 95), (nat_lit 0, nat_lit 16, nat_lit 101), (nat_lit 2, nat_lit 8, nat_lit 3), (nat_lit 2, nat_lit 9, nat_lit 4), (nat_lit 2, nat_lit 10, nat_lit 5), (nat_lit 2, nat_lit 11, nat_lit 6), (nat_lit 2, nat_lit 12, nat_lit 11), (nat_lit 2, nat_lit 13, nat_lit 16), (nat_lit 2, nat_lit 14, nat_lit 17), (nat_lit 6, nat_lit 0, nat_lit 7), (nat_lit 11, nat_lit 0, nat_lit 12), (nat_lit 6, nat_lit 1, nat_lit 8), (nat_lit 11, nat_lit 1, nat_lit 13), (nat_lit 6, nat_lit 2, nat_lit 9), (nat_lit 11, nat_lit 2, nat_lit 14), (nat_lit 6, nat_lit 3, nat_lit 10), (nat_lit 11, nat_lit 3, nat_lit 15), (nat_lit 17, nat_lit 2, nat_lit 18), (nat_lit 17, nat_lit 3, nat_lit 19), (nat_lit 17, nat_lit 4, nat_lit 20), (nat_lit 17, nat_lit 5, nat_lit 21), (nat_lit 17, nat_lit 6, nat_lit 22), (nat_lit 32, nat_lit 8, nat_lit 33), (nat_lit 32, nat_lit 9, nat_lit 34), (nat_lit 32, nat_lit 10, nat_lit 35), (nat_lit 32, nat_lit 11, nat_lit 36), (nat_lit 32, nat_lit 12, nat_lit 41), (nat_lit 32, nat_lit 13, nat_lit 46), (nat_lit 32, nat_lit 14, nat_lit 47), (nat_lit 36, nat_lit 0, nat_lit 37), (nat_lit 41, nat_lit 0, nat_lit 42), (nat_lit 36, nat_lit 1, nat_lit 38), (nat_lit 41, nat_lit 1, nat_lit 43), (nat_lit 36, nat_lit 2, nat_lit 39), (nat_lit 41, nat_lit 2, nat_lit 44), (nat_lit 36, nat_lit 3, nat_lit 40), (nat_lit 41, nat_lit 3, nat_lit 45), (nat_lit 47, nat_lit 2, nat_lit 48), (nat_lit 47, nat_lit 3, nat_lit 49), (nat_lit 47, nat_lit 4, nat_lit 50), (nat_lit 47, nat_lit 5, nat_lit 51), (nat_lit 47, nat_lit 6, nat_lit 52), (nat_lit 60, nat_lit 3, nat_lit 1), (nat_lit 60, nat_lit 9, nat_lit 61), (nat_lit 60, nat_lit 10, nat_lit 62), (nat_lit 60, nat_lit 11, nat_lit 63), (nat_lit 70, nat_lit 8, nat_lit 71), (nat_lit 70, nat_lit 9, nat_lit 72), (nat_lit 70, nat_lit 10, nat_lit 73), (nat_lit 74, nat_lit 8, nat_lit 75), (nat_lit 74, nat_lit 9, nat_lit 76), (nat_lit 74, nat_lit 10, nat_lit 77), (nat_lit 78, nat_lit 8, nat_lit 79), (nat_lit 78, nat_lit 9, nat_lit 80), (nat_lit 78, nat_lit 10, nat_lit 81), (nat_lit 82, nat_lit 8, nat_lit 83), (nat_lit 82, nat_lit 9, nat_lit 84), (nat_lit 82, nat_lit 10, nat_lit 85), (nat_lit 91, nat_lit 1, nat_lit 92), (nat_lit 91, nat_lit 2, nat_lit 93), (nat_lit 91, nat_lit 3, nat_lit 94), (nat_lit 95, nat_lit 2, nat_lit 96), (nat_lit 95, nat_lit 3, nat_lit 97), (nat_lit 95, nat_lit 4, nat_lit 98), (nat_lit 95, nat_lit 5, nat_lit 99), (nat_lit 95, nat_lit 6, nat_lit 100)] [] (fun xs η => sP wl_gs zTr zPgs_bestBit11 xs η ∧ pPgs_bestBit11 xs η) (fun xs η y η' => sQ wl_gs zTr zOgs_bestBit11 zMgs_bestBit11 xs η y η' ∧ pQgs_bestBit11 xs η y η') :=
  zmet_alt (zmea_gen (mi := (nat_lit 1, nat_lit 1, nat_lit 7, nat_lit 7, nat_lit 1, tX7_bestBit)) (cd := [(nat_lit 75, nat_lit 0, nat_lit 0, [(.inl (nat_lit 1, (.ofNat (nat_lit 0)))), (.inl (nat_lit 2, (.ofNat (nat_lit 0)))), (.inl (nat_lit 3, (.ofNat (nat_lit 0))))], nat_lit 2, [], [])]) (cu := zUgs_bestBit11) (cs := [(nat_lit 0, zPgs_within, zOgs_within, zMgs_within)]) (iv := zVgs_bestBit11) (po := [zOgs_bestBit11]) (pr := zPgs_bestBit11) (mods := zMgs_bestBit11) (D7 := zDgs_bestBit11) (D0 := zEgs_bestBit11) (Dm := zFgs_bestBit11) (f0 := 16) pCgs_bestBit11 qCgs_bestBit11 iCgs_bestBit11 pPgs_bestBit11 (fun xs η _ y η' => pQgs_bestBit11 xs η y η') zX_low pr_mtR rfl (List.forall_mem_cons.mpr ⟨zgs_within, fun _ h => nomatch h⟩) (by decide +kernel) (by decide +kernel) (by decide +kernel)
    (by
      intro xs η hr hl hp hpp
      match xs, hl, hp, hpp with
      | [x1], _, hp, hpp =>
        refine List.forall_mem_cons.mpr ⟨?_, List.forall_mem_cons.mpr ⟨?_, List.forall_mem_cons.mpr ⟨?_, fun _ h => nomatch h⟩⟩⟩
        · refine zden_L (n := 2) (ρ := [x1, 0]) rfl ?_
          show ((gC2 wl_gs [(nat_lit 0, zPgs_within, zOgs_within, zMgs_within)] pCgs_bestBit11 qCgs_bestBit11) 0).1 [x1, 1, 12] η
          
          exact trivial
        · refine zden_L (n := 2) (ρ := [x1, 0]) rfl ?_
          exact zgs_bestBit11_o0 (ro := ro) x1 η hp hpp
        · refine zden_L (n := 2) (ρ := [x1, 0]) rfl ?_
          exact zgs_bestBit11_o1 (ro := ro) x1 η hp hpp
      )
    (fun _ _ _ _ _ _ _ h => nomatch h)
    (List.forall_mem_cons.mpr ⟨⟨zDgs_bestBit11_0, zEgs_bestBit11_0, zFgs_bestBit11_0, 16, by decide +kernel, (by
      intro xs η0 hlx hp hpp ys η hr hl hI hig
      match ys, hl, hI, hig with
      | [x1, x2, x3, x4], _, hI, hig =>
        refine ⟨?_, ?_⟩
        · refine List.forall_mem_cons.mpr ⟨?_, List.forall_mem_cons.mpr ⟨?_, fun _ h => nomatch h⟩⟩
          · refine zden_L (n := 5) (ρ := [x4, x3, x2, x1, 0]) rfl ?_
            exact zgs_bestBit11_o2 (ro := ro) xs η0 hp hpp x1 x2 x3 x4 η hI hig
          · refine zden_L (n := 5) (ρ := [x4, x3, x2, x1, 0]) rfl ?_
            exact zgs_bestBit11_o3 (ro := ro) xs η0 hp hpp x1 x2 x3 x4 η hI hig
        · exact fun _ h => nomatch h
      )⟩, (List.forall_mem_cons.mpr ⟨⟨zDgs_bestBit11_1, zEgs_bestBit11_1, zFgs_bestBit11_1, 21, by decide +kernel, (by
      intro xs η0 hlx hp hpp ys η hr hl hI hig
      match ys, hl, hI, hig with
      | [x1, x2, x3, x4, x5, x6], _, hI, hig =>
        refine ⟨?_, ?_⟩
        · refine List.forall_mem_cons.mpr ⟨?_, List.forall_mem_cons.mpr ⟨?_, List.forall_mem_cons.mpr ⟨?_, List.forall_mem_cons.mpr ⟨?_, fun _ h => nomatch h⟩⟩⟩⟩
          · refine zden_L (n := 7) (ρ := [x6, x5, x4, x3, x2, x1, 0]) rfl ?_
            exact zgs_bestBit11_o4 (ro := ro) xs η0 hp hpp x1 x2 x3 x4 x5 x6 η hI hig
          · refine zden_L (n := 7) (ρ := [x6, x5, x4, x3, x2, x1, 0]) rfl ?_
            exact zgs_bestBit11_o5 (ro := ro) xs η0 hp hpp x1 x2 x3 x4 x5 x6 η hI hig
          · refine zden_L (n := 7) (ρ := [x6, x5, x4, x3, x2, x1, 0]) rfl ?_
            exact zgs_bestBit11_o6 (ro := ro) xs η0 hp hpp x1 x2 x3 x4 x5 x6 η hI hig
          · refine zden_L (n := 7) (ρ := [x6, x5, x4, x3, x2, x1, 0]) rfl ?_
            exact zgs_bestBit11_o7 (ro := ro) xs η0 hp hpp x1 x2 x3 x4 x5 x6 η hI hig
        · exact fun _ h => nomatch h
      )⟩, (fun _ h => nomatch h)⟩)⟩))
def zPgs_bestBit12 : zPq := ([((.ofNat (nat_lit 12)), (.ofNat (nat_lit 12)))], [])
def zOgs_bestBit12 : zPo := (((.negSucc (nat_lit 2147483647)), (.ofNat (nat_lit 2147483647))), [], [])
def zMgs_bestBit12 : List zCe := []
def pPgs_bestBit12 : List Int → zE → Prop := fun _ _ => True
def oQgs_bestBit12 : List Int → zE → Int → zE → Prop := fun _ _ _ _ => True
def fQgs_bestBit12 : List Int → zE → Int → zE → Prop := fun xs η y η' => y = (yv_bb (xs.getD 0 0) η) ∧ η' = η
def pQgs_bestBit12 : List Int → zE → Int → zE → Prop := fun xs η y η' => oQgs_bestBit12 xs η y η' ∧ fQgs_bestBit12 xs η y η'
def pCgs_bestBit12 : Nat → List Int → zE → Prop := fun c => match c with
  | 0 => pPgs_within
  | _ => fun _ _ => True
def qCgs_bestBit12 : Nat → List Int → zE → Int → zE → Prop := fun c => match c with
  | 0 => pQgs_within
  | _ => fun _ _ _ _ => True
def iCgs_bestBit12 : List Int → zE → Nat → List Int → zE → Prop := fun xs η0 c => match c with
  | 0 => fun ys η => (True) ∧ (yv_bI η0 (xs.getD 0 0) (ys.getD 0 0) (ys.getD 1 0) (ys.getD 2 0) (ys.getD 3 0) η)
  | 1 => fun ys η => (True) ∧ (yv_bJ η0 (xs.getD 0 0) (ys.getD 0 0) (ys.getD 1 0) (ys.getD 2 0) (ys.getD 3 0) (ys.getD 4 0) (ys.getD 5 0) η)
  | _ => fun _ _ => True
def zVgs_bestBit12 : List zIv := [(nat_lit 0, ([((.ofNat (nat_lit 12)), (.ofNat (nat_lit 12))), ((.negSucc (nat_lit 2147483647)), (.ofNat (nat_lit 2147483647))), ((.negSucc (nat_lit 2147483647)), (.ofNat (nat_lit 2147483647))), ((.ofNat (nat_lit 0)), (.ofNat (nat_lit 1)))], []), ((.ofNat (nat_lit 2000)), [((.negSucc (nat_lit 99)), nat_lit 0, nat_lit 3, nat_lit 0)])), (nat_lit 1, ([((.ofNat (nat_lit 12)), (.ofNat (nat_lit 12))), ((.negSucc (nat_lit 2147483647)), (.ofNat (nat_lit 2147483647))), ((.negSucc (nat_lit 2147483647)), (.ofNat (nat_lit 2147483647))), ((.ofNat (nat_lit 0)), (.ofNat (nat_lit 0))), ((.negSucc (nat_lit 2147483647)), (.ofNat (nat_lit 2147483647))), ((.ofNat (nat_lit 0)), (.ofNat (nat_lit 12)))], []), ((.ofNat (nat_lit 1950)), [((.negSucc (nat_lit 99)), nat_lit 0, nat_lit 3, nat_lit 0), ((.negSucc (nat_lit 0)), nat_lit 0, nat_lit 5, nat_lit 0)]))]
def zUgs_bestBit12 : List zCu := [(nat_lit 20, nat_lit 0, [(nat_lit 0, (.inr (.inr (.inl (nat_lit 0))))), (nat_lit 1, (.inl (nat_lit 1, (.ofNat (nat_lit 0))))), (nat_lit 2, (.inl (nat_lit 2, (.ofNat (nat_lit 0))))), (nat_lit 3, (.inl (nat_lit 3, (.ofNat (nat_lit 0))))), (nat_lit 4, (.inl (nat_lit 4, (.ofNat (nat_lit 0)))))], []), (nat_lit 41, nat_lit 1, [(nat_lit 0, (.inr (.inr (.inl (nat_lit 0))))), (nat_lit 1, (.inl (nat_lit 1, (.ofNat (nat_lit 0))))), (nat_lit 2, (.inl (nat_lit 2, (.ofNat (nat_lit 0))))), (nat_lit 3, (.inl (nat_lit 3, (.ofNat (nat_lit 0))))), (nat_lit 4, (.inl (nat_lit 4, (.ofNat (nat_lit 0))))), (nat_lit 5, (.inl (nat_lit 5, (.ofNat (nat_lit 0))))), (nat_lit 6, (.inl (nat_lit 6, (.ofNat (nat_lit 0)))))], [])]
def zDgs_bestBit12 : List (List zK) := []
def zEgs_bestBit12 : List (List zK) := [[(nat_lit 13, nat_lit 0, [(nat_lit 1, (.ofNat (nat_lit 0))), (nat_lit 0, (.ofNat (nat_lit 1))), (nat_lit 0, (.ofNat (nat_lit 12)))])],
  [(nat_lit 12, nat_lit 0, [(nat_lit 1, (.ofNat (nat_lit 0))), (nat_lit 0, (.negSucc (nat_lit 1))), (nat_lit 0, (.ofNat (nat_lit 0))), (nat_lit 0, (.ofNat (nat_lit 0)))]), (nat_lit 6, nat_lit 1, [(nat_lit 2, (.ofNat (nat_lit 0))), (nat_lit 0, (.ofNat (nat_lit 0)))]), (nat_lit 8, nat_lit 0, [(nat_lit 1, (.ofNat (nat_lit 0))), (nat_lit 0, (.ofNat (nat_lit 1))), (nat_lit 0, (.ofNat (nat_lit 12)))])],
  [(nat_lit 11, nat_lit 0, [(nat_lit 0, (.negSucc (nat_lit 0)))]), (nat_lit 6, nat_lit 0, [(nat_lit 2, (.ofNat (nat_lit 0))), (nat_lit 0, (.ofNat (nat_lit 0)))]), (nat_lit 8, nat_lit 0, [(nat_lit 1, (.ofNat (nat_lit 0))), (nat_lit 0, (.ofNat (nat_lit 1))), (nat_lit 0, (.ofNat (nat_lit 12)))])]]
def zFgs_bestBit12 : List (List zK) := []
def zDgs_bestBit12_0 : List (List zK) := []
def zEgs_bestBit12_0 : List (List zK) := [[(nat_lit 11, nat_lit 0, [(nat_lit 2, (.ofNat (nat_lit 0)))]), (nat_lit 6, nat_lit 4, [(nat_lit 5, (.ofNat (nat_lit 0))), (nat_lit 6, (.ofNat (nat_lit 0)))]), (nat_lit 4, nat_lit 0, [(nat_lit 2, (.ofNat (nat_lit 0))), (nat_lit 0, (.ofNat (nat_lit 1)))]), (nat_lit 0, nat_lit 1, [(nat_lit 4, (.ofNat (nat_lit 0))), (nat_lit 1, (.ofNat (nat_lit 0)))])],
  [(nat_lit 10, nat_lit 1, [(nat_lit 1, (.ofNat (nat_lit 0))), (nat_lit 2, (.ofNat (nat_lit 0))), (nat_lit 3, (.ofNat (nat_lit 0))), (nat_lit 4, (.ofNat (nat_lit 0))), (nat_lit 0, (.ofNat (nat_lit 0))), (nat_lit 4, (.ofNat (nat_lit 0)))]), (nat_lit 6, nat_lit 5, [(nat_lit 5, (.ofNat (nat_lit 0))), (nat_lit 6, (.ofNat (nat_lit 0)))]), (nat_lit 4, nat_lit 0, [(nat_lit 2, (.ofNat (nat_lit 0))), (nat_lit 0, (.ofNat (nat_lit 1)))]), (nat_lit 0, nat_lit 1, [(nat_lit 4, (.ofNat (nat_lit 0))), (nat_lit 1, (.ofNat (nat_lit 0)))])]]
def zFgs_bestBit12_0 : List (List zK) := []
def zDgs_bestBit12_1 : List (List zK) := [[(nat_lit 7, nat_lit 0, [(nat_lit 6, (.ofNat (nat_lit 0))), (nat_lit 0, (.ofNat (nat_lit 12)))]), (nat_lit 6, nat_lit 2, [(nat_lit 6, (.ofNat (nat_lit 0))), (nat_lit 7, (.ofNat (nat_lit 0)))]), (nat_lit 0, nat_lit 1, [(nat_lit 4, (.ofNat (nat_lit 0))), (nat_lit 1, (.ofNat (nat_lit 0)))])]]
def zEgs_bestBit12_1 : List (List zK) := [[(nat_lit 10, nat_lit 0, [(nat_lit 1, (.ofNat (nat_lit 0))), (nat_lit 4, (.ofNat (nat_lit 0))), (nat_lit 5, (.ofNat (nat_lit 0))), (nat_lit 8, (.ofNat (nat_lit 0)))]), (nat_lit 0, nat_lit 1, [(nat_lit 4, (.ofNat (nat_lit 0))), (nat_lit 0, (.ofNat (nat_lit 1)))]), (nat_lit 6, nat_lit 2, [(nat_lit 2, (.ofNat (nat_lit 0))), (nat_lit 0, (.ofNat (nat_lit 0)))]), (nat_lit 6, nat_lit 3, [(nat_lit 6, (.ofNat (nat_lit 0))), (nat_lit 7, (.ofNat (nat_lit 0)))]), (nat_lit 0, nat_lit 1, [(nat_lit 4, (.ofNat (nat_lit 0))), (nat_lit 1, (.ofNat (nat_lit 0)))])],
  [(nat_lit 10, nat_lit 0, [(nat_lit 1, (.ofNat (nat_lit 0))), (nat_lit 2, (.ofNat (nat_lit 0))), (nat_lit 3, (.ofNat (nat_lit 0))), (nat_lit 8, (.ofNat (nat_lit 0)))]), (nat_lit 0, nat_lit 1, [(nat_lit 4, (.ofNat (nat_lit 0))), (nat_lit 0, (.ofNat (nat_lit 1)))]), (nat_lit 6, nat_lit 5, [(nat_lit 5, (.ofNat (nat_lit 0))), (nat_lit 3, (.ofNat (nat_lit 0)))]), (nat_lit 6, nat_lit 3, [(nat_lit 2, (.ofNat (nat_lit 0))), (nat_lit 0, (.ofNat (nat_lit 0)))]), (nat_lit 6, nat_lit 3, [(nat_lit 6, (.ofNat (nat_lit 0))), (nat_lit 7, (.ofNat (nat_lit 0)))]), (nat_lit 0, nat_lit 1, [(nat_lit 4, (.ofNat (nat_lit 0))), (nat_lit 1, (.ofNat (nat_lit 0)))])],
  [(nat_lit 10, nat_lit 0, [(nat_lit 1, (.ofNat (nat_lit 0))), (nat_lit 4, (.ofNat (nat_lit 0))), (nat_lit 5, (.ofNat (nat_lit 0))), (nat_lit 8, (.ofNat (nat_lit 0)))]), (nat_lit 0, nat_lit 1, [(nat_lit 4, (.ofNat (nat_lit 0))), (nat_lit 0, (.ofNat (nat_lit 1)))]), (nat_lit 6, nat_lit 4, [(nat_lit 5, (.ofNat (nat_lit 0))), (nat_lit 3, (.ofNat (nat_lit 0)))]), (nat_lit 6, nat_lit 3, [(nat_lit 2, (.ofNat (nat_lit 0))), (nat_lit 0, (.ofNat (nat_lit 0)))]), (nat_lit 6, nat_lit 3, [(nat_lit 6, (.ofNat (nat_lit 0))), (nat_lit 7, (.ofNat (nat_lit 0)))]), (nat_lit 0, nat_lit 1, [(nat_lit 4, (.ofNat (nat_lit 0))), (nat_lit 1, (.ofNat (nat_lit 0)))])],
  [(nat_lit 10, nat_lit 1, [(nat_lit 1, (.ofNat (nat_lit 0))), (nat_lit 2, (.ofNat (nat_lit 0))), (nat_lit 3, (.ofNat (nat_lit 0))), (nat_lit 4, (.ofNat (nat_lit 0))), (nat_lit 9, (.ofNat (nat_lit 0))), (nat_lit 10, (.ofNat (nat_lit 0)))]), (nat_lit 0, nat_lit 1, [(nat_lit 6, (.ofNat (nat_lit 0))), (nat_lit 0, (.ofNat (nat_lit 1)))]), (nat_lit 0, nat_lit 1, [(nat_lit 5, (.ofNat (nat_lit 0))), (nat_lit 8, (.ofNat (nat_lit 0)))]), (nat_lit 4, nat_lit 0, [(nat_lit 4, (.ofNat (nat_lit 0))), (nat_lit 6, (.ofNat (nat_lit 0)))]), (nat_lit 6, nat_lit 2, [(nat_lit 6, (.ofNat (nat_lit 0))), (nat_lit 7, (.ofNat (nat_lit 0)))]), (nat_lit 0, nat_lit 1, [(nat_lit 4, (.ofNat (nat_lit 0))), (nat_lit 1, (.ofNat (nat_lit 0)))])]]
def zFgs_bestBit12_1 : List (List zK) := []
set_option maxHeartbeats 8000000 in
theorem zgs_bestBit12_o0 {ro : Nat → List Int32} (x1 : Int) (η : zE) (hp : sP wl_gs zTr zPgs_bestBit12 [x1] η) (hpp : pPgs_bestBit12 [x1] η) : ∀ (x2 : Int) (η1 : zE), ((gC2 wl_gs [(nat_lit 0, zPgs_within, zOgs_within, zMgs_within)] pCgs_bestBit12 qCgs_bestBit12) 0).2 [x1, 1, 12] η x2 η1 → (¬ x2 = 0) → (iCgs_bestBit12 [x1] η) 0 [x1, (-2), 0, 0] η1 := by
  intro x2 η1 h2 c1
  have y2 : fQgs_within [x1, 1, 12] η x2 η1 := h2.2.2
  have k2 : sQ wl_gs zTr zOgs_within zMgs_within [x1, 1, 12] η x2 η1 ∧ oQgs_within [x1, 1, 12] η x2 η1 := ⟨h2.1, h2.2.1⟩
  refine yj_a ?_ ?_
  · have y2 : fQgs_within [x1, 1, 12] η x2 η1 := h2.2.2
    have k2 : sQ wl_gs zTr zOgs_within zMgs_within [x1, 1, 12] η x2 η1 ∧ oQgs_within [x1, 1, 12] η x2 η1 := ⟨h2.1, h2.2.1⟩
    exact trivial
  · obtain ⟨a2, b2⟩ : x2 = yq_in x1 1 12 ∧ η1 = η := y2
    show yv_bI η x1 x1 (-2) 0 0 η1
    exact vbI_0 b2 (by omega)
set_option maxHeartbeats 8000000 in
theorem zgs_bestBit12_o1 {ro : Nat → List Int32} (x1 : Int) (η : zE) (hp : sP wl_gs zTr zPgs_bestBit12 [x1] η) (hpp : pPgs_bestBit12 [x1] η) : ∀ (x2 : Int) (η1 : zE), ((gC2 wl_gs [(nat_lit 0, zPgs_within, zOgs_within, zMgs_within)] pCgs_bestBit12 qCgs_bestBit12) 0).2 [x1, 1, 12] η x2 η1 → (x2 = 0) → (fun (_ : Nat) (y : Int) (η' : zE) => pQgs_bestBit12 [x1] η y η') 0 (-1) η1 := by
  intro x2 η1 h2 c1
  have y2 : fQgs_within [x1, 1, 12] η x2 η1 := h2.2.2
  have k2 : sQ wl_gs zTr zOgs_within zMgs_within [x1, 1, 12] η x2 η1 ∧ oQgs_within [x1, 1, 12] η x2 η1 := ⟨h2.1, h2.2.1⟩
  refine yj_a ?_ ?_
  · have y2 : fQgs_within [x1, 1, 12] η x2 η1 := h2.2.2
    have k2 : sQ wl_gs zTr zOgs_within zMgs_within [x1, 1, 12] η x2 η1 ∧ oQgs_within [x1, 1, 12] η x2 η1 := ⟨h2.1, h2.2.1⟩
    exact trivial
  · obtain ⟨a2, b2⟩ : x2 = yq_in x1 1 12 ∧ η1 = η := y2
    show -1 = yv_bb x1 η ∧ η1 = η
    exact ⟨by unfold yv_bb; rw [if_pos (by omega)], b2⟩
set_option maxHeartbeats 8000000 in
theorem zgs_bestBit12_o2 {ro : Nat → List Int32} (xs : List Int) (η0 : zE) (hp : sP wl_gs zTr zPgs_bestBit12 xs η0) (hpp : pPgs_bestBit12 xs η0) (x1 x2 x3 x4 : Int) (η : zE) (hI : zsI wl_gs zTr zVgs_bestBit12 zMgs_bestBit12 η0 0 [x1, x2, x3, x4] η) (hig : iCgs_bestBit12 xs η0 0 [x1, x2, x3, x4] η) : ∀ x5 : Int, x5 = zd 0 1 x4 x1 → ∀ x6 : Int, x6 = η 2 (Int.toNat 1) → zok 0 x6 → (x6 < x5) → (fun (_ : Nat) (y : Int) (η' : zE) => pQgs_bestBit12 xs η0 y η') 0 x2 η := by
  have fig := hig.2
  have hig := hig.1
  intro x5 e5 x6 e6 r6 c1
  refine yj_a ?_ ?_
  · exact trivial
  · have e5 : x5 = zd 0 1 x4 x1 := e5
    have e6 : x6 = η 2 1 := e6
    have b4 : (0 : Int) ≤ x4 ∧ x4 ≤ 1 := hI.1.2.1.2.2.2.1
    exact vbI_e (k := x1) (m := x3) (f := x4) fig (by omega) e5 (by rw [← e6]; omega)
set_option maxHeartbeats 8000000 in
theorem zgs_bestBit12_o3 {ro : Nat → List Int32} (xs : List Int) (η0 : zE) (hp : sP wl_gs zTr zPgs_bestBit12 xs η0) (hpp : pPgs_bestBit12 xs η0) (x1 x2 x3 x4 : Int) (η : zE) (hI : zsI wl_gs zTr zVgs_bestBit12 zMgs_bestBit12 η0 0 [x1, x2, x3, x4] η) (hig : iCgs_bestBit12 xs η0 0 [x1, x2, x3, x4] η) : ∀ x5 : Int, x5 = zd 0 1 x4 x1 → ∀ x6 : Int, x6 = η 2 (Int.toNat 1) → zok 0 x6 → (x5 ≤ x6) → (iCgs_bestBit12 xs η0) 1 [x1, x2, x3, x4, 0, x4] η ∧ (fun (_ : Nat) (_ : List Int) (_ : zE) => (0 : Nat)) 1 [x1, x2, x3, x4, 0, x4] η < 1 := by
  have fig := hig.2
  have hig := hig.1
  intro x5 e5 x6 e6 r6 c1
  refine yj_c ?_ ?_
  · exact ⟨trivial, Nat.zero_lt_one⟩
  · have e5 : x5 = zd 0 1 x4 x1 := e5
    have e6 : x6 = η 2 1 := e6
    have b4 : (0 : Int) ≤ x4 ∧ x4 ≤ 1 := hI.1.2.1.2.2.2.1
    show yv_bJ η0 (xs.getD 0 0) x1 x2 x3 x4 0 x4 η
    exact vbJ_0 fig (by omega) e5 (by rw [← e6]; omega)
set_option maxHeartbeats 8000000 in
theorem zgs_bestBit12_o4 {ro : Nat → List Int32} (xs : List Int) (η0 : zE) (hp : sP wl_gs zTr zPgs_bestBit12 xs η0) (hpp : pPgs_bestBit12 xs η0) (x1 x2 x3 x4 x5 x6 : Int) (η : zE) (hI : zsI wl_gs zTr zVgs_bestBit12 zMgs_bestBit12 η0 1 [x1, x2, x3, x4, x5, x6] η) (hig : iCgs_bestBit12 xs η0 1 [x1, x2, x3, x4, x5, x6] η) : ∀ x7 : Int, x7 = zd 0 1 x4 x1 → (x7 ≤ x6) → (x2 < 0) → ∀ x8 : Int, x8 = zd 0 1 x4 1 → (iCgs_bestBit12 xs η0) 0 [x1, x4, x5, x8] η ∧ (fun (_ : Nat) (_ : List Int) (_ : zE) => (0 : Nat)) 0 [x1, x4, x5, x8] η < 1 := by
  have fig := hig.2
  have hig := hig.1
  intro x7 e7 c1 c2 x8 e8
  refine yj_c ?_ ?_
  · exact ⟨trivial, Nat.zero_lt_one⟩
  · have e7 : x7 = zd 0 1 x4 x1 := e7
    have e8 : x8 = zd 0 1 x4 1 := e8
    have b4 : (0 : Int) ≤ x4 ∧ x4 ≤ 0 := hI.1.2.1.2.2.2.1
    show yv_bI η0 (xs.getD 0 0) x1 x4 x5 x8 η
    refine vbJ_e (b := x2) (m := x3) (k := x1) (f := x4) (g := x6) (s := x5) fig (by omega) e7 (by omega) e8 ?_
    rw [if_pos (by omega)]
set_option maxHeartbeats 8000000 in
theorem zgs_bestBit12_o5 {ro : Nat → List Int32} (xs : List Int) (η0 : zE) (hp : sP wl_gs zTr zPgs_bestBit12 xs η0) (hpp : pPgs_bestBit12 xs η0) (x1 x2 x3 x4 x5 x6 : Int) (η : zE) (hI : zsI wl_gs zTr zVgs_bestBit12 zMgs_bestBit12 η0 1 [x1, x2, x3, x4, x5, x6] η) (hig : iCgs_bestBit12 xs η0 1 [x1, x2, x3, x4, x5, x6] η) : ∀ x7 : Int, x7 = zd 0 1 x4 x1 → (x7 ≤ x6) → (0 ≤ x2) → (x5 ≤ x3) → ∀ x8 : Int, x8 = zd 0 1 x4 1 → (iCgs_bestBit12 xs η0) 0 [x1, x2, x3, x8] η ∧ (fun (_ : Nat) (_ : List Int) (_ : zE) => (0 : Nat)) 0 [x1, x2, x3, x8] η < 1 := by
  have fig := hig.2
  have hig := hig.1
  intro x7 e7 c1 c2 c3 x8 e8
  refine yj_c ?_ ?_
  · exact ⟨trivial, Nat.zero_lt_one⟩
  · have e7 : x7 = zd 0 1 x4 x1 := e7
    have e8 : x8 = zd 0 1 x4 1 := e8
    have b4 : (0 : Int) ≤ x4 ∧ x4 ≤ 0 := hI.1.2.1.2.2.2.1
    show yv_bI η0 (xs.getD 0 0) x1 x2 x3 x8 η
    refine vbJ_e (b := x2) (m := x3) (k := x1) (f := x4) (g := x6) (s := x5) fig (by omega) e7 (by omega) e8 ?_
    rw [if_neg (by omega)]
set_option maxHeartbeats 8000000 in
theorem zgs_bestBit12_o6 {ro : Nat → List Int32} (xs : List Int) (η0 : zE) (hp : sP wl_gs zTr zPgs_bestBit12 xs η0) (hpp : pPgs_bestBit12 xs η0) (x1 x2 x3 x4 x5 x6 : Int) (η : zE) (hI : zsI wl_gs zTr zVgs_bestBit12 zMgs_bestBit12 η0 1 [x1, x2, x3, x4, x5, x6] η) (hig : iCgs_bestBit12 xs η0 1 [x1, x2, x3, x4, x5, x6] η) : ∀ x7 : Int, x7 = zd 0 1 x4 x1 → (x7 ≤ x6) → (0 ≤ x2) → (x3 < x5) → ∀ x8 : Int, x8 = zd 0 1 x4 1 → (iCgs_bestBit12 xs η0) 0 [x1, x4, x5, x8] η ∧ (fun (_ : Nat) (_ : List Int) (_ : zE) => (0 : Nat)) 0 [x1, x4, x5, x8] η < 1 := by
  have fig := hig.2
  have hig := hig.1
  intro x7 e7 c1 c2 c3 x8 e8
  refine yj_c ?_ ?_
  · exact ⟨trivial, Nat.zero_lt_one⟩
  · have e7 : x7 = zd 0 1 x4 x1 := e7
    have e8 : x8 = zd 0 1 x4 1 := e8
    have b4 : (0 : Int) ≤ x4 ∧ x4 ≤ 0 := hI.1.2.1.2.2.2.1
    show yv_bI η0 (xs.getD 0 0) x1 x4 x5 x8 η
    refine vbJ_e (b := x2) (m := x3) (k := x1) (f := x4) (g := x6) (s := x5) fig (by omega) e7 (by omega) e8 ?_
    rw [if_pos (by omega)]
set_option maxHeartbeats 8000000 in
theorem zgs_bestBit12_o7 {ro : Nat → List Int32} (xs : List Int) (η0 : zE) (hp : sP wl_gs zTr zPgs_bestBit12 xs η0) (hpp : pPgs_bestBit12 xs η0) (x1 x2 x3 x4 x5 x6 : Int) (η : zE) (hI : zsI wl_gs zTr zVgs_bestBit12 zMgs_bestBit12 η0 1 [x1, x2, x3, x4, x5, x6] η) (hig : iCgs_bestBit12 xs η0 1 [x1, x2, x3, x4, x5, x6] η) : ∀ x7 : Int, x7 = zd 0 1 x4 x1 → (x6 < x7) → ∀ x8 : Int, x8 = η 4 (Int.toNat x6) → zok 0 x8 → ∀ x9 : Int, x9 = zd 0 1 x5 x8 → ∀ x10 : Int, x10 = zd 0 1 x6 1 → (iCgs_bestBit12 xs η0) 1 [x1, x2, x3, x4, x9, x10] η ∧ (fun (_ : Nat) (_ : List Int) (_ : zE) => (0 : Nat)) 1 [x1, x2, x3, x4, x9, x10] η < 1 := by
  have fig := hig.2
  have hig := hig.1
  intro x7 e7 c1 x8 e8 r8 x9 e9 x10 e10
  refine yj_c ?_ ?_
  · exact ⟨trivial, Nat.zero_lt_one⟩
  · have e7 : x7 = zd 0 1 x4 x1 := e7
    have e8 : x8 = η 4 (Int.toNat x6) := e8
    have e9 : x9 = zd 0 1 x5 x8 := e9
    have e10 : x10 = zd 0 1 x6 1 := e10
    have b4 : (0 : Int) ≤ x4 ∧ x4 ≤ 0 := hI.1.2.1.2.2.2.1
    show yv_bJ η0 (xs.getD 0 0) x1 x2 x3 x4 x9 x10 η
    exact vbJ_s (k := x1) (f := x4) (g := x6) fig (by omega) e7 (by omega) e8 e9 e10
set_option maxHeartbeats 8000000 in
theorem zgs_bestBit12 {ro : Nat → List Int32} : zMet pr_P pr_K pr_df ro (sm_X0 1 6) 1 98 tm_gs [(.inr (.inr (.inl (nat_lit 0)))), (.inl (nat_lit 1, (.ofNat (nat_lit 0))))] 1 [(nat_lit 0, nat_lit 0, nat_lit 1), (nat_lit 0, nat_lit 4, nat_lit 2), (nat_lit 0, nat_lit 5, nat_lit 32), (nat_lit 0, nat_lit 6, nat_lit 60), (nat_lit 0, nat_lit 7, nat_lit 70), (nat_lit 0, nat_lit 8, nat_lit 74), (nat_lit 0, nat_lit 11, nat_lit 78), (nat_lit 0, nat_lit 12, nat_lit 82), (nat_lit 0, nat_lit 13, nat_lit 90), (nat_lit 0, nat_lit 14, nat_lit 91), (nat_lit 0, nat_lit 15, nat_lit 95), (nat_lit 0, nat_lit 16, nat_lit 101), (nat_lit 2, nat_lit 8, nat_lit 3), (nat_lit 2, nat_lit 9, nat_lit 4), (nat_lit 2, nat_lit 10, nat_lit 5), (nat_lit 2, nat_lit 11, nat_lit 6), (nat_lit 2, nat_lit 12, nat_lit 11), (nat_lit 2, nat_lit 13, nat_lit 16), (nat_lit 2, nat_lit 14, nat_lit 17), (nat_lit 6, nat_lit 0, nat_lit 7), (nat_lit 11, nat_lit 0, nat_lit 12), (nat_lit 6, nat_lit 1, nat_lit 8), (nat_lit 11, nat_lit 1, nat_lit 13), (nat_lit 6, nat_lit 2, nat_lit 9), (nat_lit 11, nat_lit 2, nat_lit 14), (nat_lit 6, nat_lit 3, nat_lit 10), (nat_lit 11, nat_lit 3, nat_lit 15), (nat_lit 17, nat_lit 2, nat_lit 18), (nat_lit 17, nat_lit 3, nat_lit 19), (nat_lit 17, nat_lit 4, nat_lit 20), (nat_lit 17, nat_lit 5, nat_lit 21), (nat_lit 17, nat_lit 6, nat_lit 22), (nat_lit 32, nat_lit 8, nat_lit 33), (nat_lit 32, nat_lit 9, nat_lit 34), (nat_lit 32, nat_lit 10, nat_lit 35), (nat_lit 32, nat_lit 11, nat_lit 36), (nat_lit 32, nat_lit 12, nat_lit 41), (nat_lit 32, nat_lit 13, nat_lit 46), (nat_lit 32, nat_lit 14, nat_lit 47), (nat_lit 36, nat_lit 0, nat_lit 37), (nat_lit 41, nat_lit 0, nat_lit 42), (nat_lit 36, nat_lit 1, nat_lit 38), (nat_lit 41, nat_lit 1, nat_lit 43), (nat_lit 36, nat_lit 2, nat_lit 39), (nat_lit 41, nat_lit 2, nat_lit 44), (nat_lit 36, nat_lit 3, nat_lit 40), (nat_lit 41, nat_lit 3, nat_lit 45), (nat_lit 47, nat_lit 2, nat_lit 48), (nat_lit 47, nat_lit 3, nat_lit 49), (nat_lit 47, nat_lit 4, nat_lit 50), (nat_lit 47, nat_lit 5, nat_lit 51), (nat_lit 47, nat_lit 6, nat_lit 52), (nat_lit 60, nat_lit 3, nat_lit 1), (nat_lit 60, nat_lit 9, nat_lit 61), (nat_lit 60, nat_lit 10, nat_lit 62), (nat_lit 60, nat_lit 11, nat_lit 63), (nat_lit 70, nat_lit 8, nat_lit 71), (nat_lit 70, nat_lit 9, nat_lit 72), (nat_lit 70, nat_lit 10, nat_lit 73), (nat_lit 74, nat_lit 8, nat_lit 75), (nat_lit 74, nat_lit 9, nat_lit 76), (nat_lit 74, nat_lit 10, nat_lit 77), (nat_lit 78, nat_lit 8, nat_lit 79), (nat_lit 78, nat_lit 9, nat_lit 80), (nat_lit 78, nat_lit 10, nat_lit 81), (nat_lit 82, nat_lit 8, nat_lit 83), (nat_lit 82, nat_lit 9, nat_lit 84), (nat_lit 82, nat_lit 10, nat_lit 85), (nat_lit 91, nat_lit 1, nat_lit 92), (nat_lit 91, nat_lit 2, nat_lit 93), (nat_lit 91, nat_lit 3, nat_lit 94), (nat_lit 95, nat_lit 2, nat_lit 96), (nat_lit 95, nat_lit 3, nat_lit 97), (nat_lit 95, nat_lit 4, nat_lit 98), (nat_lit 95, nat_lit 5, nat_lit 99), (nat_lit 95, nat_lit 6, nat_lit 100)] [] (fun xs η => sP wl_gs zTr zPgs_bestBit12 xs η ∧ pPgs_bestBit12 xs η) (fun xs η y η' => sQ wl_gs zTr zOgs_bestBit12 zMgs_bestBit12 xs η y η' ∧ pQgs_bestBit12 xs η y η') :=
  zmet_alt (zmea_gen (mi := (nat_lit 1, nat_lit 1, nat_lit 7, nat_lit 7, nat_lit 1, tX7_bestBit)) (cd := [(nat_lit 75, nat_lit 0, nat_lit 0, [(.inl (nat_lit 1, (.ofNat (nat_lit 0)))), (.inl (nat_lit 2, (.ofNat (nat_lit 0)))), (.inl (nat_lit 3, (.ofNat (nat_lit 0))))], nat_lit 2, [], [])]) (cu := zUgs_bestBit12) (cs := [(nat_lit 0, zPgs_within, zOgs_within, zMgs_within)]) (iv := zVgs_bestBit12) (po := [zOgs_bestBit12]) (pr := zPgs_bestBit12) (mods := zMgs_bestBit12) (D7 := zDgs_bestBit12) (D0 := zEgs_bestBit12) (Dm := zFgs_bestBit12) (f0 := 16) pCgs_bestBit12 qCgs_bestBit12 iCgs_bestBit12 pPgs_bestBit12 (fun xs η _ y η' => pQgs_bestBit12 xs η y η') zX_low pr_mtR rfl (List.forall_mem_cons.mpr ⟨zgs_within, fun _ h => nomatch h⟩) (by decide +kernel) (by decide +kernel) (by decide +kernel)
    (by
      intro xs η hr hl hp hpp
      match xs, hl, hp, hpp with
      | [x1], _, hp, hpp =>
        refine List.forall_mem_cons.mpr ⟨?_, List.forall_mem_cons.mpr ⟨?_, List.forall_mem_cons.mpr ⟨?_, fun _ h => nomatch h⟩⟩⟩
        · refine zden_L (n := 2) (ρ := [x1, 0]) rfl ?_
          show ((gC2 wl_gs [(nat_lit 0, zPgs_within, zOgs_within, zMgs_within)] pCgs_bestBit12 qCgs_bestBit12) 0).1 [x1, 1, 12] η
          
          exact trivial
        · refine zden_L (n := 2) (ρ := [x1, 0]) rfl ?_
          exact zgs_bestBit12_o0 (ro := ro) x1 η hp hpp
        · refine zden_L (n := 2) (ρ := [x1, 0]) rfl ?_
          exact zgs_bestBit12_o1 (ro := ro) x1 η hp hpp
      )
    (fun _ _ _ _ _ _ _ h => nomatch h)
    (List.forall_mem_cons.mpr ⟨⟨zDgs_bestBit12_0, zEgs_bestBit12_0, zFgs_bestBit12_0, 16, by decide +kernel, (by
      intro xs η0 hlx hp hpp ys η hr hl hI hig
      match ys, hl, hI, hig with
      | [x1, x2, x3, x4], _, hI, hig =>
        refine ⟨?_, ?_⟩
        · refine List.forall_mem_cons.mpr ⟨?_, List.forall_mem_cons.mpr ⟨?_, fun _ h => nomatch h⟩⟩
          · refine zden_L (n := 5) (ρ := [x4, x3, x2, x1, 0]) rfl ?_
            exact zgs_bestBit12_o2 (ro := ro) xs η0 hp hpp x1 x2 x3 x4 η hI hig
          · refine zden_L (n := 5) (ρ := [x4, x3, x2, x1, 0]) rfl ?_
            exact zgs_bestBit12_o3 (ro := ro) xs η0 hp hpp x1 x2 x3 x4 η hI hig
        · exact fun _ h => nomatch h
      )⟩, (List.forall_mem_cons.mpr ⟨⟨zDgs_bestBit12_1, zEgs_bestBit12_1, zFgs_bestBit12_1, 21, by decide +kernel, (by
      intro xs η0 hlx hp hpp ys η hr hl hI hig
      match ys, hl, hI, hig with
      | [x1, x2, x3, x4, x5, x6], _, hI, hig =>
        refine ⟨?_, ?_⟩
        · refine List.forall_mem_cons.mpr ⟨?_, List.forall_mem_cons.mpr ⟨?_, List.forall_mem_cons.mpr ⟨?_, List.forall_mem_cons.mpr ⟨?_, fun _ h => nomatch h⟩⟩⟩⟩
          · refine zden_L (n := 7) (ρ := [x6, x5, x4, x3, x2, x1, 0]) rfl ?_
            exact zgs_bestBit12_o4 (ro := ro) xs η0 hp hpp x1 x2 x3 x4 x5 x6 η hI hig
          · refine zden_L (n := 7) (ρ := [x6, x5, x4, x3, x2, x1, 0]) rfl ?_
            exact zgs_bestBit12_o5 (ro := ro) xs η0 hp hpp x1 x2 x3 x4 x5 x6 η hI hig
          · refine zden_L (n := 7) (ρ := [x6, x5, x4, x3, x2, x1, 0]) rfl ?_
            exact zgs_bestBit12_o6 (ro := ro) xs η0 hp hpp x1 x2 x3 x4 x5 x6 η hI hig
          · refine zden_L (n := 7) (ρ := [x6, x5, x4, x3, x2, x1, 0]) rfl ?_
            exact zgs_bestBit12_o7 (ro := ro) xs η0 hp hpp x1 x2 x3 x4 x5 x6 η hI hig
        · exact fun _ h => nomatch h
      )⟩, (fun _ h => nomatch h)⟩)⟩))
def zPgs_bestBit13 : zPq := ([((.ofNat (nat_lit 13)), (.ofNat (nat_lit 2147483647)))], [])
def zOgs_bestBit13 : zPo := (((.negSucc (nat_lit 2147483647)), (.ofNat (nat_lit 2147483647))), [], [])
def zMgs_bestBit13 : List zCe := []
def pPgs_bestBit13 : List Int → zE → Prop := fun _ _ => True
def oQgs_bestBit13 : List Int → zE → Int → zE → Prop := fun _ _ _ _ => True
def fQgs_bestBit13 : List Int → zE → Int → zE → Prop := fun xs η y η' => y = (yv_bb (xs.getD 0 0) η) ∧ η' = η
def pQgs_bestBit13 : List Int → zE → Int → zE → Prop := fun xs η y η' => oQgs_bestBit13 xs η y η' ∧ fQgs_bestBit13 xs η y η'
def pCgs_bestBit13 : Nat → List Int → zE → Prop := fun c => match c with
  | 0 => pPgs_within
  | _ => fun _ _ => True
def qCgs_bestBit13 : Nat → List Int → zE → Int → zE → Prop := fun c => match c with
  | 0 => pQgs_within
  | _ => fun _ _ _ _ => True
def iCgs_bestBit13 : List Int → zE → Nat → List Int → zE → Prop := fun xs η0 c => match c with
  | 0 => fun ys η => (True) ∧ (yv_bI η0 (xs.getD 0 0) (ys.getD 0 0) (ys.getD 1 0) (ys.getD 2 0) (ys.getD 3 0) η)
  | _ => fun _ _ => True
def zVgs_bestBit13 : List zIv := [(nat_lit 0, ([((.ofNat (nat_lit 13)), (.ofNat (nat_lit 12))), ((.negSucc (nat_lit 2147483647)), (.ofNat (nat_lit 2147483647))), ((.negSucc (nat_lit 2147483647)), (.ofNat (nat_lit 2147483647))), ((.ofNat (nat_lit 0)), (.ofNat (nat_lit 0)))], []), ((.ofNat (nat_lit 5)), []))]
def zUgs_bestBit13 : List zCu := [(nat_lit 20, nat_lit 0, [(nat_lit 0, (.inr (.inr (.inl (nat_lit 0))))), (nat_lit 1, (.inl (nat_lit 1, (.ofNat (nat_lit 0))))), (nat_lit 2, (.inl (nat_lit 2, (.ofNat (nat_lit 0))))), (nat_lit 3, (.inl (nat_lit 3, (.ofNat (nat_lit 0))))), (nat_lit 4, (.inl (nat_lit 4, (.ofNat (nat_lit 0)))))], [])]
def zDgs_bestBit13 : List (List zK) := []
def zEgs_bestBit13 : List (List zK) := [[(nat_lit 13, nat_lit 0, [(nat_lit 1, (.ofNat (nat_lit 0))), (nat_lit 0, (.ofNat (nat_lit 1))), (nat_lit 0, (.ofNat (nat_lit 12)))])],
  [(nat_lit 12, nat_lit 0, [(nat_lit 1, (.ofNat (nat_lit 0))), (nat_lit 0, (.negSucc (nat_lit 1))), (nat_lit 0, (.ofNat (nat_lit 0))), (nat_lit 0, (.ofNat (nat_lit 0)))]), (nat_lit 6, nat_lit 1, [(nat_lit 2, (.ofNat (nat_lit 0))), (nat_lit 0, (.ofNat (nat_lit 0)))]), (nat_lit 8, nat_lit 0, [(nat_lit 1, (.ofNat (nat_lit 0))), (nat_lit 0, (.ofNat (nat_lit 1))), (nat_lit 0, (.ofNat (nat_lit 12)))])],
  [(nat_lit 11, nat_lit 0, [(nat_lit 0, (.negSucc (nat_lit 0)))]), (nat_lit 6, nat_lit 0, [(nat_lit 2, (.ofNat (nat_lit 0))), (nat_lit 0, (.ofNat (nat_lit 0)))]), (nat_lit 8, nat_lit 0, [(nat_lit 1, (.ofNat (nat_lit 0))), (nat_lit 0, (.ofNat (nat_lit 1))), (nat_lit 0, (.ofNat (nat_lit 12)))])]]
def zFgs_bestBit13 : List (List zK) := []
def zDgs_bestBit13_0 : List (List zK) := [[(nat_lit 7, nat_lit 3, []), (nat_lit 6, nat_lit 4, [(nat_lit 5, (.ofNat (nat_lit 0))), (nat_lit 6, (.ofNat (nat_lit 0)))]), (nat_lit 4, nat_lit 0, [(nat_lit 2, (.ofNat (nat_lit 0))), (nat_lit 0, (.ofNat (nat_lit 1)))]), (nat_lit 0, nat_lit 1, [(nat_lit 4, (.ofNat (nat_lit 0))), (nat_lit 1, (.ofNat (nat_lit 0)))])],
  [(nat_lit 7, nat_lit 3, []), (nat_lit 6, nat_lit 5, [(nat_lit 5, (.ofNat (nat_lit 0))), (nat_lit 6, (.ofNat (nat_lit 0)))]), (nat_lit 4, nat_lit 0, [(nat_lit 2, (.ofNat (nat_lit 0))), (nat_lit 0, (.ofNat (nat_lit 1)))]), (nat_lit 0, nat_lit 1, [(nat_lit 4, (.ofNat (nat_lit 0))), (nat_lit 1, (.ofNat (nat_lit 0)))])]]
def zEgs_bestBit13_0 : List (List zK) := []
def zFgs_bestBit13_0 : List (List zK) := []
set_option maxHeartbeats 8000000 in
theorem zgs_bestBit13_o0 {ro : Nat → List Int32} (x1 : Int) (η : zE) (hp : sP wl_gs zTr zPgs_bestBit13 [x1] η) (hpp : pPgs_bestBit13 [x1] η) : ∀ (x2 : Int) (η1 : zE), ((gC2 wl_gs [(nat_lit 0, zPgs_within, zOgs_within, zMgs_within)] pCgs_bestBit13 qCgs_bestBit13) 0).2 [x1, 1, 12] η x2 η1 → (¬ x2 = 0) → (iCgs_bestBit13 [x1] η) 0 [x1, (-2), 0, 0] η1 := by
  intro x2 η1 h2 c1
  have y2 : fQgs_within [x1, 1, 12] η x2 η1 := h2.2.2
  have k2 : sQ wl_gs zTr zOgs_within zMgs_within [x1, 1, 12] η x2 η1 ∧ oQgs_within [x1, 1, 12] η x2 η1 := ⟨h2.1, h2.2.1⟩
  refine yj_a ?_ ?_
  · have y2 : fQgs_within [x1, 1, 12] η x2 η1 := h2.2.2
    have k2 : sQ wl_gs zTr zOgs_within zMgs_within [x1, 1, 12] η x2 η1 ∧ oQgs_within [x1, 1, 12] η x2 η1 := ⟨h2.1, h2.2.1⟩
    exact trivial
  · obtain ⟨a2, b2⟩ : x2 = yq_in x1 1 12 ∧ η1 = η := y2
    show yv_bI η x1 x1 (-2) 0 0 η1
    exact vbI_0 b2 (by omega)
set_option maxHeartbeats 8000000 in
theorem zgs_bestBit13_o1 {ro : Nat → List Int32} (x1 : Int) (η : zE) (hp : sP wl_gs zTr zPgs_bestBit13 [x1] η) (hpp : pPgs_bestBit13 [x1] η) : ∀ (x2 : Int) (η1 : zE), ((gC2 wl_gs [(nat_lit 0, zPgs_within, zOgs_within, zMgs_within)] pCgs_bestBit13 qCgs_bestBit13) 0).2 [x1, 1, 12] η x2 η1 → (x2 = 0) → (fun (_ : Nat) (y : Int) (η' : zE) => pQgs_bestBit13 [x1] η y η') 0 (-1) η1 := by
  intro x2 η1 h2 c1
  have y2 : fQgs_within [x1, 1, 12] η x2 η1 := h2.2.2
  have k2 : sQ wl_gs zTr zOgs_within zMgs_within [x1, 1, 12] η x2 η1 ∧ oQgs_within [x1, 1, 12] η x2 η1 := ⟨h2.1, h2.2.1⟩
  refine yj_a ?_ ?_
  · have y2 : fQgs_within [x1, 1, 12] η x2 η1 := h2.2.2
    have k2 : sQ wl_gs zTr zOgs_within zMgs_within [x1, 1, 12] η x2 η1 ∧ oQgs_within [x1, 1, 12] η x2 η1 := ⟨h2.1, h2.2.1⟩
    exact trivial
  · obtain ⟨a2, b2⟩ : x2 = yq_in x1 1 12 ∧ η1 = η := y2
    show -1 = yv_bb x1 η ∧ η1 = η
    exact ⟨by unfold yv_bb; rw [if_pos (by omega)], b2⟩
set_option maxHeartbeats 8000000 in
theorem zgs_bestBit13 {ro : Nat → List Int32} : zMet pr_P pr_K pr_df ro (sm_X0 1 6) 1 98 tm_gs [(.inr (.inr (.inl (nat_lit 0)))), (.inl (nat_lit 1, (.ofNat (nat_lit 0))))] 1 [(nat_lit 0, nat_lit 0, nat_lit 1), (nat_lit 0, nat_lit 4, nat_lit 2), (nat_lit 0, nat_lit 5, nat_lit 32), (nat_lit 0, nat_lit 6, nat_lit 60), (nat_lit 0, nat_lit 7, nat_lit 70), (nat_lit 0, nat_lit 8, nat_lit 74), (nat_lit 0, nat_lit 11, nat_lit 78), (nat_lit 0, nat_lit 12, nat_lit 82), (nat_lit 0, nat_lit 13, nat_lit 90), (nat_lit 0, nat_lit 14, nat_lit 91), (nat_lit 0, nat_lit 15, nat_lit 95), (nat_lit 0, nat_lit 16, nat_lit 101), (nat_lit 2, nat_lit 8, nat_lit 3), (nat_lit 2, nat_lit 9, nat_lit 4), (nat_lit 2, nat_lit 10, nat_lit 5), (nat_lit 2, nat_lit 11, nat_lit 6), (nat_lit 2, nat_lit 12, nat_lit 11), (nat_lit 2, nat_lit 13, nat_lit 16), (nat_lit 2, nat_lit 14, nat_lit 17), (nat_lit 6, nat_lit 0, nat_lit 7), (nat_lit 11, nat_lit 0, nat_lit 12), (nat_lit 6, nat_lit 1, nat_lit 8), (nat_lit 11, nat_lit 1, nat_lit 13), (nat_lit 6, nat_lit 2, nat_lit 9), (nat_lit 11, nat_lit 2, nat_lit 14), (nat_lit 6, nat_lit 3, nat_lit 10), (nat_lit 11, nat_lit 3, nat_lit 15), (nat_lit 17, nat_lit 2, nat_lit 18), (nat_lit 17, nat_lit 3, nat_lit 19), (nat_lit 17, nat_lit 4, nat_lit 20), (nat_lit 17, nat_lit 5, nat_lit 21), (nat_lit 17, nat_lit 6, nat_lit 22), (nat_lit 32, nat_lit 8, nat_lit 33), (nat_lit 32, nat_lit 9, nat_lit 34), (nat_lit 32, nat_lit 10, nat_lit 35), (nat_lit 32, nat_lit 11, nat_lit 36), (nat_lit 32, nat_lit 12, nat_lit 41), (nat_lit 32, nat_lit 13, nat_lit 46), (nat_lit 32, nat_lit 14, nat_lit 47), (nat_lit 36, nat_lit 0, nat_lit 37), (nat_lit 41, nat_lit 0, nat_lit 42), (nat_lit 36, nat_lit 1, nat_lit 38), (nat_lit 41, nat_lit 1, nat_lit 43), (nat_lit 36, nat_lit 2, nat_lit 39), (nat_lit 41, nat_lit 2, nat_lit 44), (nat_lit 36, nat_lit 3, nat_lit 40), (nat_lit 41, nat_lit 3, nat_lit 45), (nat_lit 47, nat_lit 2, nat_lit 48), (nat_lit 47, nat_lit 3, nat_lit 49), (nat_lit 47, nat_lit 4, nat_lit 50), (nat_lit 47, nat_lit 5, nat_lit 51), (nat_lit 47, nat_lit 6, nat_lit 52), (nat_lit 60, nat_lit 3, nat_lit 1), (nat_lit 60, nat_lit 9, nat_lit 61), (nat_lit 60, nat_lit 10, nat_lit 62), (nat_lit 60, nat_lit 11, nat_lit 63), (nat_lit 70, nat_lit 8, nat_lit 71), (nat_lit 70, nat_lit 9, nat_lit 72), (nat_lit 70, nat_lit 10, nat_lit 73), (nat_lit 74, nat_lit 8, nat_lit 75), (nat_lit 74, nat_lit 9, nat_lit 76), (nat_lit 74, nat_lit 10, nat_lit 77), (nat_lit 78, nat_lit 8, nat_lit 79), (nat_lit 78, nat_lit 9, nat_lit 80), (nat_lit 78, nat_lit 10, nat_lit 81), (nat_lit 82, nat_lit 8, nat_lit 83), (nat_lit 82, nat_lit 9, nat_lit 84), (nat_lit 82, nat_lit 10, nat_lit 85), (nat_lit 91, nat_lit 1, nat_lit 92), (nat_lit 91, nat_lit 2, nat_lit 93), (nat_lit 91, nat_lit 3, nat_lit 94), (nat_lit 95, nat_lit 2, nat_lit 96), (nat_lit 95, nat_lit 3, nat_lit 97), (nat_lit 95, nat_lit 4, nat_lit 98), (nat_lit 95, nat_lit 5, nat_lit 99), (nat_lit 95, nat_lit 6, nat_lit 100)] [] (fun xs η => sP wl_gs zTr zPgs_bestBit13 xs η ∧ pPgs_bestBit13 xs η) (fun xs η y η' => sQ wl_gs zTr zOgs_bestBit13 zMgs_bestBit13 xs η y η' ∧ pQgs_bestBit13 xs η y η') :=
  zmet_alt (zmea_gen (mi := (nat_lit 1, nat_lit 1, nat_lit 7, nat_lit 7, nat_lit 1, tX7_bestBit)) (cd := [(nat_lit 75, nat_lit 0, nat_lit 0, [(.inl (nat_lit 1, (.ofNat (nat_lit 0)))), (.inl (nat_lit 2, (.ofNat (nat_lit 0)))), (.inl (nat_lit 3, (.ofNat (nat_lit 0))))], nat_lit 2, [], [])]) (cu := zUgs_bestBit13) (cs := [(nat_lit 0, zPgs_within, zOgs_within, zMgs_within)]) (iv := zVgs_bestBit13) (po := [zOgs_bestBit13]) (pr := zPgs_bestBit13) (mods := zMgs_bestBit13) (D7 := zDgs_bestBit13) (D0 := zEgs_bestBit13) (Dm := zFgs_bestBit13) (f0 := 16) pCgs_bestBit13 qCgs_bestBit13 iCgs_bestBit13 pPgs_bestBit13 (fun xs η _ y η' => pQgs_bestBit13 xs η y η') zX_low pr_mtR rfl (List.forall_mem_cons.mpr ⟨zgs_within, fun _ h => nomatch h⟩) (by decide +kernel) (by decide +kernel) (by decide +kernel)
    (by
      intro xs η hr hl hp hpp
      match xs, hl, hp, hpp with
      | [x1], _, hp, hpp =>
        refine List.forall_mem_cons.mpr ⟨?_, List.forall_mem_cons.mpr ⟨?_, List.forall_mem_cons.mpr ⟨?_, fun _ h => nomatch h⟩⟩⟩
        · refine zden_L (n := 2) (ρ := [x1, 0]) rfl ?_
          show ((gC2 wl_gs [(nat_lit 0, zPgs_within, zOgs_within, zMgs_within)] pCgs_bestBit13 qCgs_bestBit13) 0).1 [x1, 1, 12] η
          
          exact trivial
        · refine zden_L (n := 2) (ρ := [x1, 0]) rfl ?_
          exact zgs_bestBit13_o0 (ro := ro) x1 η hp hpp
        · refine zden_L (n := 2) (ρ := [x1, 0]) rfl ?_
          exact zgs_bestBit13_o1 (ro := ro) x1 η hp hpp
      )
    (fun _ _ _ _ _ _ _ h => nomatch h)
    (List.forall_mem_cons.mpr ⟨⟨zDgs_bestBit13_0, zEgs_bestBit13_0, zFgs_bestBit13_0, 11, by decide +kernel, (by
      intro xs η0 hlx hp hpp ys η hr hl hI hig
      match ys, hl, hI, hig with
      | [x1, x2, x3, x4], _, hI, hig =>
        refine ⟨?_, ?_⟩
        · exact fun _ h => nomatch h
        · exact fun _ h => nomatch h
      )⟩, (fun _ h => nomatch h)⟩))
def zPgs_bestBit : zPq := ([((.negSucc (nat_lit 2147483647)), (.ofNat (nat_lit 2147483647)))], [])
def zOgs_bestBit : zPo := (((.negSucc (nat_lit 2147483647)), (.ofNat (nat_lit 2147483647))), [], [])
def zMgs_bestBit : List zCe := []
def pPgs_bestBit : List Int → zE → Prop := fun _ _ => True
def oQgs_bestBit : List Int → zE → Int → zE → Prop := fun _ _ _ _ => True
def fQgs_bestBit : List Int → zE → Int → zE → Prop := fun xs η y η' => y = (yv_bb (xs.getD 0 0) η) ∧ η' = η
def pQgs_bestBit : List Int → zE → Int → zE → Prop := fun xs η y η' => oQgs_bestBit xs η y η' ∧ fQgs_bestBit xs η y η'
theorem zgs_bestBit {ro : Nat → List Int32} : zMet pr_P pr_K pr_df ro (sm_X0 1 6) 1 98 tm_gs [(.inr (.inr (.inl (nat_lit 0)))), (.inl (nat_lit 1, (.ofNat (nat_lit 0))))] 1 [(nat_lit 0, nat_lit 0, nat_lit 1), (nat_lit 0, nat_lit 4, nat_lit 2), (nat_lit 0, nat_lit 5, nat_lit 32), (nat_lit 0, nat_lit 6, nat_lit 60), (nat_lit 0, nat_lit 7, nat_lit 70), (nat_lit 0, nat_lit 8, nat_lit 74), (nat_lit 0, nat_lit 11, nat_lit 78), (nat_lit 0, nat_lit 12, nat_lit 82), (nat_lit 0, nat_lit 13, nat_lit 90), (nat_lit 0, nat_lit 14, nat_lit 91), (nat_lit 0, nat_lit 15, nat_lit 95), (nat_lit 0, nat_lit 16, nat_lit 101), (nat_lit 2, nat_lit 8, nat_lit 3), (nat_lit 2, nat_lit 9, nat_lit 4), (nat_lit 2, nat_lit 10, nat_lit 5), (nat_lit 2, nat_lit 11, nat_lit 6), (nat_lit 2, nat_lit 12, nat_lit 11), (nat_lit 2, nat_lit 13, nat_lit 16), (nat_lit 2, nat_lit 14, nat_lit 17), (nat_lit 6, nat_lit 0, nat_lit 7), (nat_lit 11, nat_lit 0, nat_lit 12), (nat_lit 6, nat_lit 1, nat_lit 8), (nat_lit 11, nat_lit 1, nat_lit 13), (nat_lit 6, nat_lit 2, nat_lit 9), (nat_lit 11, nat_lit 2, nat_lit 14), (nat_lit 6, nat_lit 3, nat_lit 10), (nat_lit 11, nat_lit 3, nat_lit 15), (nat_lit 17, nat_lit 2, nat_lit 18), (nat_lit 17, nat_lit 3, nat_lit 19), (nat_lit 17, nat_lit 4, nat_lit 20), (nat_lit 17, nat_lit 5, nat_lit 21), (nat_lit 17, nat_lit 6, nat_lit 22), (nat_lit 32, nat_lit 8, nat_lit 33), (nat_lit 32, nat_lit 9, nat_lit 34), (nat_lit 32, nat_lit 10, nat_lit 35), (nat_lit 32, nat_lit 11, nat_lit 36), (nat_lit 32, nat_lit 12, nat_lit 41), (nat_lit 32, nat_lit 13, nat_lit 46), (nat_lit 32, nat_lit 14, nat_lit 47), (nat_lit 36, nat_lit 0, nat_lit 37), (nat_lit 41, nat_lit 0, nat_lit 42), (nat_lit 36, nat_lit 1, nat_lit 38), (nat_lit 41, nat_lit 1, nat_lit 43), (nat_lit 36, nat_lit 2, nat_lit 39), (nat_lit 41, nat_lit 2, nat_lit 44), (nat_lit 36, nat_lit 3, nat_lit 40), (nat_lit 41, nat_lit 3, nat_lit 45), (nat_lit 47, nat_lit 2, nat_lit 48), (nat_lit 47, nat_lit 3, nat_lit 49), (nat_lit 47, nat_lit 4, nat_lit 50), (nat_lit 47, nat_lit 5, nat_lit 51), (nat_lit 47, nat_lit 6, nat_lit 52), (nat_lit 60, nat_lit 3, nat_lit 1), (nat_lit 60, nat_lit 9, nat_lit 61), (nat_lit 60, nat_lit 10, nat_lit 62), (nat_lit 60, nat_lit 11, nat_lit 63), (nat_lit 70, nat_lit 8, nat_lit 71), (nat_lit 70, nat_lit 9, nat_lit 72), (nat_lit 70, nat_lit 10, nat_lit 73), (nat_lit 74, nat_lit 8, nat_lit 75), (nat_lit 74, nat_lit 9, nat_lit 76), (nat_lit 74, nat_lit 10, nat_lit 77), (nat_lit 78, nat_lit 8, nat_lit 79), (nat_lit 78, nat_lit 9, nat_lit 80), (nat_lit 78, nat_lit 10, nat_lit 81), (nat_lit 82, nat_lit 8, nat_lit 83), (nat_lit 82, nat_lit 9, nat_lit 84), (nat_lit 82, nat_lit 10, nat_lit 85), (nat_lit 91, nat_lit 1, nat_lit 92), (nat_lit 91, nat_lit 2, nat_lit 93), (nat_lit 91, nat_lit 3, nat_lit 94), (nat_lit 95, nat_lit 2, nat_lit 96), (nat_lit 95, nat_lit 3, nat_lit 97), (nat_lit 95, nat_lit 4, nat_lit 98), (nat_lit 95, nat_lit 5, nat_lit 99), (nat_lit 95, nat_lit 6, nat_lit 100)] [] (fun xs η => sP wl_gs zTr zPgs_bestBit xs η ∧ pPgs_bestBit xs η) (fun xs η y η' => sQ wl_gs zTr zOgs_bestBit zMgs_bestBit xs η y η' ∧ pQgs_bestBit xs η y η') :=
  zmet_join (fun xs η hp => by
    have hp := hp.1
    obtain ⟨x0, r0, e0, q0, hb0⟩ := sB_cons hp.2.1
    have q0 : (-2147483648 : Int) ≤ x0 ∧ x0 ≤ 2147483647 := q0
    subst e0
    by_cases c0 : x0 ≤ 0
    · exact ⟨1, (fun xs η => sP wl_gs zTr zPgs_bestBit0 xs η ∧ pPgs_bestBit0 xs η), by decide, zgs_bestBit0, ⟨hp.1, show (-2147483648 ≤ x0 ∧ x0 ≤ 0) ∧ _ from ⟨⟨by omega, by omega⟩, hb0⟩, hp.2.2⟩, trivial⟩
    by_cases c1 : x0 ≤ 1
    · exact ⟨1, (fun xs η => sP wl_gs zTr zPgs_bestBit1 xs η ∧ pPgs_bestBit1 xs η), by decide, zgs_bestBit1, ⟨hp.1, show (1 ≤ x0 ∧ x0 ≤ 1) ∧ _ from ⟨⟨by omega, by omega⟩, hb0⟩, hp.2.2⟩, trivial⟩
    by_cases c2 : x0 ≤ 2
    · exact ⟨1, (fun xs η => sP wl_gs zTr zPgs_bestBit2 xs η ∧ pPgs_bestBit2 xs η), by decide, zgs_bestBit2, ⟨hp.1, show (2 ≤ x0 ∧ x0 ≤ 2) ∧ _ from ⟨⟨by omega, by omega⟩, hb0⟩, hp.2.2⟩, trivial⟩
    by_cases c3 : x0 ≤ 3
    · exact ⟨1, (fun xs η => sP wl_gs zTr zPgs_bestBit3 xs η ∧ pPgs_bestBit3 xs η), by decide, zgs_bestBit3, ⟨hp.1, show (3 ≤ x0 ∧ x0 ≤ 3) ∧ _ from ⟨⟨by omega, by omega⟩, hb0⟩, hp.2.2⟩, trivial⟩
    by_cases c4 : x0 ≤ 4
    · exact ⟨1, (fun xs η => sP wl_gs zTr zPgs_bestBit4 xs η ∧ pPgs_bestBit4 xs η), by decide, zgs_bestBit4, ⟨hp.1, show (4 ≤ x0 ∧ x0 ≤ 4) ∧ _ from ⟨⟨by omega, by omega⟩, hb0⟩, hp.2.2⟩, trivial⟩
    by_cases c5 : x0 ≤ 5
    · exact ⟨1, (fun xs η => sP wl_gs zTr zPgs_bestBit5 xs η ∧ pPgs_bestBit5 xs η), by decide, zgs_bestBit5, ⟨hp.1, show (5 ≤ x0 ∧ x0 ≤ 5) ∧ _ from ⟨⟨by omega, by omega⟩, hb0⟩, hp.2.2⟩, trivial⟩
    by_cases c6 : x0 ≤ 6
    · exact ⟨1, (fun xs η => sP wl_gs zTr zPgs_bestBit6 xs η ∧ pPgs_bestBit6 xs η), by decide, zgs_bestBit6, ⟨hp.1, show (6 ≤ x0 ∧ x0 ≤ 6) ∧ _ from ⟨⟨by omega, by omega⟩, hb0⟩, hp.2.2⟩, trivial⟩
    by_cases c7 : x0 ≤ 7
    · exact ⟨1, (fun xs η => sP wl_gs zTr zPgs_bestBit7 xs η ∧ pPgs_bestBit7 xs η), by decide, zgs_bestBit7, ⟨hp.1, show (7 ≤ x0 ∧ x0 ≤ 7) ∧ _ from ⟨⟨by omega, by omega⟩, hb0⟩, hp.2.2⟩, trivial⟩
    by_cases c8 : x0 ≤ 8
    · exact ⟨1, (fun xs η => sP wl_gs zTr zPgs_bestBit8 xs η ∧ pPgs_bestBit8 xs η), by decide, zgs_bestBit8, ⟨hp.1, show (8 ≤ x0 ∧ x0 ≤ 8) ∧ _ from ⟨⟨by omega, by omega⟩, hb0⟩, hp.2.2⟩, trivial⟩
    by_cases c9 : x0 ≤ 9
    · exact ⟨1, (fun xs η => sP wl_gs zTr zPgs_bestBit9 xs η ∧ pPgs_bestBit9 xs η), by decide, zgs_bestBit9, ⟨hp.1, show (9 ≤ x0 ∧ x0 ≤ 9) ∧ _ from ⟨⟨by omega, by omega⟩, hb0⟩, hp.2.2⟩, trivial⟩
    by_cases c10 : x0 ≤ 10
    · exact ⟨1, (fun xs η => sP wl_gs zTr zPgs_bestBit10 xs η ∧ pPgs_bestBit10 xs η), by decide, zgs_bestBit10, ⟨hp.1, show (10 ≤ x0 ∧ x0 ≤ 10) ∧ _ from ⟨⟨by omega, by omega⟩, hb0⟩, hp.2.2⟩, trivial⟩
    by_cases c11 : x0 ≤ 11
    · exact ⟨1, (fun xs η => sP wl_gs zTr zPgs_bestBit11 xs η ∧ pPgs_bestBit11 xs η), by decide, zgs_bestBit11, ⟨hp.1, show (11 ≤ x0 ∧ x0 ≤ 11) ∧ _ from ⟨⟨by omega, by omega⟩, hb0⟩, hp.2.2⟩, trivial⟩
    by_cases c12 : x0 ≤ 12
    · exact ⟨1, (fun xs η => sP wl_gs zTr zPgs_bestBit12 xs η ∧ pPgs_bestBit12 xs η), by decide, zgs_bestBit12, ⟨hp.1, show (12 ≤ x0 ∧ x0 ≤ 12) ∧ _ from ⟨⟨by omega, by omega⟩, hb0⟩, hp.2.2⟩, trivial⟩
    exact ⟨1, (fun xs η => sP wl_gs zTr zPgs_bestBit13 xs η ∧ pPgs_bestBit13 xs η), by decide, zgs_bestBit13, ⟨hp.1, show (13 ≤ x0 ∧ x0 ≤ 2147483647) ∧ _ from ⟨⟨by omega, by omega⟩, hb0⟩, hp.2.2⟩, trivial⟩)
