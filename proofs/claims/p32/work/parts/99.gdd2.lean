set_option maxHeartbeats 8000000 in
theorem zne_keepText {ro : Nat → List Int32} : zMet pr_P pr_K pr_df ro (sm_X0 1 6) 2 130 tm_ne [(.inr (.inr (.inl (nat_lit 0))))] 0 [(nat_lit 0, nat_lit 0, nat_lit 1), (nat_lit 0, nat_lit 3, nat_lit 2), (nat_lit 0, nat_lit 20, nat_lit 3), (nat_lit 0, nat_lit 21, nat_lit 4), (nat_lit 0, nat_lit 22, nat_lit 5), (nat_lit 0, nat_lit 23, nat_lit 6), (nat_lit 0, nat_lit 24, nat_lit 7), (nat_lit 0, nat_lit 25, nat_lit 8), (nat_lit 0, nat_lit 26, nat_lit 9), (nat_lit 0, nat_lit 27, nat_lit 10), (nat_lit 0, nat_lit 28, nat_lit 11), (nat_lit 0, nat_lit 29, nat_lit 12), (nat_lit 0, nat_lit 30, nat_lit 13), (nat_lit 0, nat_lit 31, nat_lit 14), (nat_lit 0, nat_lit 32, nat_lit 15), (nat_lit 0, nat_lit 33, nat_lit 16), (nat_lit 0, nat_lit 34, nat_lit 17), (nat_lit 0, nat_lit 35, nat_lit 18), (nat_lit 0, nat_lit 36, nat_lit 19), (nat_lit 0, nat_lit 37, nat_lit 20), (nat_lit 0, nat_lit 38, nat_lit 21), (nat_lit 0, nat_lit 39, nat_lit 22), (nat_lit 0, nat_lit 40, nat_lit 23), (nat_lit 0, nat_lit 47, nat_lit 24), (nat_lit 0, nat_lit 48, nat_lit 25), (nat_lit 0, nat_lit 50, nat_lit 26), (nat_lit 0, nat_lit 51, nat_lit 27), (nat_lit 0, nat_lit 52, nat_lit 28), (nat_lit 0, nat_lit 53, nat_lit 29), (nat_lit 0, nat_lit 54, nat_lit 30), (nat_lit 0, nat_lit 55, nat_lit 31), (nat_lit 0, nat_lit 56, nat_lit 32), (nat_lit 0, nat_lit 57, nat_lit 33), (nat_lit 0, nat_lit 58, nat_lit 34), (nat_lit 0, nat_lit 59, nat_lit 35), (nat_lit 0, nat_lit 72, nat_lit 36), (nat_lit 0, nat_lit 73, nat_lit 37), (nat_lit 0, nat_lit 76, nat_lit 38), (nat_lit 0, nat_lit 77, nat_lit 39), (nat_lit 0, nat_lit 79, nat_lit 40), (nat_lit 0, nat_lit 81, nat_lit 41), (nat_lit 0, nat_lit 82, nat_lit 42)] [] (fun xs η => sP wl_ne zTr zPne_keepText xs η ∧ pPne_keepText xs η) (fun xs η y η' => sQ wl_ne zTr zOne_keepText zMne_keepText xs η y η' ∧ pQne_keepText xs η y η') :=
  zmet_alt (zmea_gen (mi := (nat_lit 0, nat_lit 1, nat_lit 8, nat_lit 2, nat_lit 0, tX8_keepText)) (cd := [(nat_lit 129, nat_lit 0, nat_lit 0, [(.inr (.inr (.inl (nat_lit 4)))), (.inl (nat_lit 0, (.ofNat (nat_lit 4))))], nat_lit 0, [], []), (nat_lit 129, nat_lit 1, nat_lit 0, [(.inr (.inr (.inl (nat_lit 7)))), (.inl (nat_lit 0, (.ofNat (nat_lit 4))))], nat_lit 0, [], []), (nat_lit 129, nat_lit 2, nat_lit 0, [(.inr (.inr (.inl (nat_lit 8)))), (.inl (nat_lit 0, (.ofNat (nat_lit 4))))], nat_lit 0, [], []), (nat_lit 129, nat_lit 3, nat_lit 0, [(.inr (.inr (.inl (nat_lit 9)))), (.inl (nat_lit 0, (.ofNat (nat_lit 4))))], nat_lit 0, [], []), (nat_lit 129, nat_lit 4, nat_lit 0, [(.inr (.inr (.inl (nat_lit 10)))), (.inl (nat_lit 0, (.ofNat (nat_lit 4))))], nat_lit 0, [], []), (nat_lit 129, nat_lit 5, nat_lit 0, [(.inr (.inr (.inl (nat_lit 11)))), (.inl (nat_lit 0, (.ofNat (nat_lit 4))))], nat_lit 0, [], []), (nat_lit 129, nat_lit 6, nat_lit 0, [(.inr (.inr (.inl (nat_lit 12)))), (.inl (nat_lit 0, (.ofNat (nat_lit 4))))], nat_lit 0, [], []), (nat_lit 129, nat_lit 7, nat_lit 0, [(.inr (.inr (.inl (nat_lit 13)))), (.inl (nat_lit 0, (.ofNat (nat_lit 4))))], nat_lit 0, [], []), (nat_lit 129, nat_lit 8, nat_lit 0, [(.inr (.inr (.inl (nat_lit 14)))), (.inl (nat_lit 0, (.ofNat (nat_lit 4))))], nat_lit 0, [], []), (nat_lit 129, nat_lit 9, nat_lit 0, [(.inr (.inr (.inl (nat_lit 15)))), (.inl (nat_lit 0, (.ofNat (nat_lit 4))))], nat_lit 0, [], []), (nat_lit 129, nat_lit 10, nat_lit 0, [(.inr (.inr (.inl (nat_lit 5)))), (.inl (nat_lit 0, (.ofNat (nat_lit 12))))], nat_lit 0, [], []), (nat_lit 129, nat_lit 11, nat_lit 0, [(.inr (.inr (.inl (nat_lit 6)))), (.inl (nat_lit 0, (.ofNat (nat_lit 12))))], nat_lit 0, [], []), (nat_lit 129, nat_lit 12, nat_lit 0, [(.inr (.inr (.inl (nat_lit 17)))), (.inl (nat_lit 0, (.ofNat (nat_lit 3))))], nat_lit 0, [], []), (nat_lit 129, nat_lit 13, nat_lit 0, [(.inr (.inr (.inl (nat_lit 18)))), (.inl (nat_lit 0, (.ofNat (nat_lit 3))))], nat_lit 0, [], []), (nat_lit 129, nat_lit 14, nat_lit 0, [(.inr (.inr (.inl (nat_lit 19)))), (.inl (nat_lit 0, (.ofNat (nat_lit 64))))], nat_lit 0, [], []), (nat_lit 129, nat_lit 15, nat_lit 0, [(.inr (.inr (.inl (nat_lit 20)))), (.inl (nat_lit 0, (.ofNat (nat_lit 64))))], nat_lit 0, [], []), (nat_lit 129, nat_lit 16, nat_lit 0, [(.inr (.inr (.inl (nat_lit 21)))), (.inl (nat_lit 0, (.ofNat (nat_lit 64))))], nat_lit 0, [], []), (nat_lit 154, nat_lit 17, nat_lit 1, [(.inr (.inr (.inl (nat_lit 0))))], nat_lit 0, [(nat_lit 0, nat_lit 0, nat_lit 1), (nat_lit 0, nat_lit 3, nat_lit 2), (nat_lit 0, nat_lit 20, nat_lit 3), (nat_lit 0, nat_lit 21, nat_lit 4), (nat_lit 0, nat_lit 22, nat_lit 5), (nat_lit 0, nat_lit 23, nat_lit 6), (nat_lit 0, nat_lit 24, nat_lit 7), (nat_lit 0, nat_lit 25, nat_lit 8), (nat_lit 0, nat_lit 26, nat_lit 9), (nat_lit 0, nat_lit 27, nat_lit 10), (nat_lit 0, nat_lit 28, nat_lit 11), (nat_lit 0, nat_lit 29, nat_lit 12), (nat_lit 0, nat_lit 30, nat_lit 13), (nat_lit 0, nat_lit 31, nat_lit 14), (nat_lit 0, nat_lit 32, nat_lit 15), (nat_lit 0, nat_lit 33, nat_lit 16), (nat_lit 0, nat_lit 34, nat_lit 17), (nat_lit 0, nat_lit 35, nat_lit 18), (nat_lit 0, nat_lit 36, nat_lit 19), (nat_lit 0, nat_lit 37, nat_lit 20), (nat_lit 0, nat_lit 38, nat_lit 21), (nat_lit 0, nat_lit 39, nat_lit 22), (nat_lit 0, nat_lit 40, nat_lit 23), (nat_lit 0, nat_lit 47, nat_lit 24), (nat_lit 0, nat_lit 48, nat_lit 25), (nat_lit 0, nat_lit 50, nat_lit 26), (nat_lit 0, nat_lit 51, nat_lit 27), (nat_lit 0, nat_lit 52, nat_lit 28), (nat_lit 0, nat_lit 53, nat_lit 29), (nat_lit 0, nat_lit 54, nat_lit 30), (nat_lit 0, nat_lit 55, nat_lit 31), (nat_lit 0, nat_lit 56, nat_lit 32), (nat_lit 0, nat_lit 57, nat_lit 33), (nat_lit 0, nat_lit 58, nat_lit 34), (nat_lit 0, nat_lit 59, nat_lit 35), (nat_lit 0, nat_lit 72, nat_lit 36), (nat_lit 0, nat_lit 73, nat_lit 37), (nat_lit 0, nat_lit 76, nat_lit 38), (nat_lit 0, nat_lit 77, nat_lit 39), (nat_lit 0, nat_lit 79, nat_lit 40), (nat_lit 0, nat_lit 81, nat_lit 41), (nat_lit 0, nat_lit 82, nat_lit 42)], [])]) (cu := []) (cs := [(nat_lit 0, zPne_copies_4, zOne_copies_4, zMne_copies_4), (nat_lit 1, zPne_copies_7, zOne_copies_7, zMne_copies_7), (nat_lit 2, zPne_copies_8, zOne_copies_8, zMne_copies_8), (nat_lit 3, zPne_copies_9, zOne_copies_9, zMne_copies_9), (nat_lit 4, zPne_copies_10, zOne_copies_10, zMne_copies_10), (nat_lit 5, zPne_copies_11, zOne_copies_11, zMne_copies_11), (nat_lit 6, zPne_copies_12, zOne_copies_12, zMne_copies_12), (nat_lit 7, zPne_copies_13, zOne_copies_13, zMne_copies_13), (nat_lit 8, zPne_copies_14, zOne_copies_14, zMne_copies_14), (nat_lit 9, zPne_copies_15, zOne_copies_15, zMne_copies_15), (nat_lit 10, zPne_copies_5, zOne_copies_5, zMne_copies_5), (nat_lit 11, zPne_copies_6, zOne_copies_6, zMne_copies_6), (nat_lit 12, zPne_copies_17, zOne_copies_17, zMne_copies_17), (nat_lit 13, zPne_copies_18, zOne_copies_18, zMne_copies_18), (nat_lit 14, zPne_copies_19, zOne_copies_19, zMne_copies_19), (nat_lit 15, zPne_copies_20, zOne_copies_20, zMne_copies_20), (nat_lit 16, zPne_copies_21, zOne_copies_21, zMne_copies_21), (nat_lit 17, zPne_begin, zOne_begin, zMne_begin)]) (iv := zVne_keepText) (po := [zOne_keepText]) (pr := zPne_keepText) (mods := zMne_keepText) (D7 := zDne_keepText) (D0 := zEne_keepText) (Dm := zFne_keepText) (f0 := 141) pCne_keepText qCne_keepText iCne_keepText pPne_keepText (fun xs η _ y η' => pQne_keepText xs η y η') zX_low pr_mtR rfl (List.forall_mem_cons.mpr ⟨zne_copies_4, List.forall_mem_cons.mpr ⟨zne_copies_7, List.forall_mem_cons.mpr ⟨zne_copies_8, List.forall_mem_cons.mpr ⟨zne_copies_9, List.forall_mem_cons.mpr ⟨zne_copies_10, List.forall_mem_cons.mpr ⟨zne_copies_11, List.forall_mem_cons.mpr ⟨zne_copies_12, List.forall_mem_cons.mpr ⟨zne_copies_13, List.forall_mem_cons.mpr ⟨zne_copies_14, List.forall_mem_cons.mpr ⟨zne_copies_15, List.forall_mem_cons.mpr ⟨zne_copies_5, List.forall_mem_cons.mpr ⟨zne_copies_6, List.forall_mem_cons.mpr ⟨zne_copies_17, List.forall_mem_cons.mpr ⟨zne_copies_18, List.forall_mem_cons.mpr ⟨zne_copies_19, List.forall_mem_cons.mpr ⟨zne_copies_20, List.forall_mem_cons.mpr ⟨zne_copies_21, List.forall_mem_cons.mpr ⟨zne_begin, fun _ h => nomatch h⟩⟩⟩⟩⟩⟩⟩⟩⟩⟩⟩⟩⟩⟩⟩⟩⟩⟩) (by decide +kernel) (by decide +kernel) (by decide +kernel)
    (by
      intro xs η hr hl hp hpp
      match xs, hl, hp, hpp with
      | [], _, hp, hpp =>
        refine List.forall_mem_cons.mpr ⟨?_, List.forall_mem_cons.mpr ⟨?_, List.forall_mem_cons.mpr ⟨?_, List.forall_mem_cons.mpr ⟨?_, List.forall_mem_cons.mpr ⟨?_, List.forall_mem_cons.mpr ⟨?_, List.forall_mem_cons.mpr ⟨?_, List.forall_mem_cons.mpr ⟨?_, List.forall_mem_cons.mpr ⟨?_, List.forall_mem_cons.mpr ⟨?_, List.forall_mem_cons.mpr ⟨?_, List.forall_mem_cons.mpr ⟨?_, List.forall_mem_cons.mpr ⟨?_, List.forall_mem_cons.mpr ⟨?_, List.forall_mem_cons.mpr ⟨?_, List.forall_mem_cons.mpr ⟨?_, List.forall_mem_cons.mpr ⟨?_, List.forall_mem_cons.mpr ⟨?_, List.forall_mem_cons.mpr ⟨?_, fun _ h => nomatch h⟩⟩⟩⟩⟩⟩⟩⟩⟩⟩⟩⟩⟩⟩⟩⟩⟩⟩⟩
        · refine zden_L (n := 1) (ρ := [0]) rfl ?_
          show ∀ x1 : Int, x1 = η 0 (Int.toNat 16) → zok 0 x1 → ∀ η1 : zE, η1 = zup η 0 (Int.toNat 12) x1 → ∀ x2 : Int, x2 = η1 0 (Int.toNat 17) → zok 0 x2 → ∀ η2 : zE, η2 = zup η1 0 (Int.toNat 13) x2 → ∀ x3 : Int, x3 = η2 0 (Int.toNat 18) → zok 0 x3 → ∀ η3 : zE, η3 = zup η2 0 (Int.toNat 14) x3 → ∀ x4 : Int, x4 = η3 0 (Int.toNat 19) → zok 0 x4 → ∀ η4 : zE, η4 = zup η3 0 (Int.toNat 15) x4 → ((gC2 wl_ne [(nat_lit 0, zPne_copies_4, zOne_copies_4, zMne_copies_4), (nat_lit 1, zPne_copies_7, zOne_copies_7, zMne_copies_7), (nat_lit 2, zPne_copies_8, zOne_copies_8, zMne_copies_8), (nat_lit 3, zPne_copies_9, zOne_copies_9, zMne_copies_9), (nat_lit 4, zPne_copies_10, zOne_copies_10, zMne_copies_10), (nat_lit 5, zPne_copies_11, zOne_copies_11, zMne_copies_11), (nat_lit 6, zPne_copies_12, zOne_copies_12, zMne_copies_12), (nat_lit 7, zPne_copies_13, zOne_copies_13, zMne_copies_13), (nat_lit 8, zPne_copies_14, zOne_copies_14, zMne_copies_14), (nat_lit 9, zPne_copies_15, zOne_copies_15, zMne_copies_15), (nat_lit 10, zPne_copies_5, zOne_copies_5, zMne_copies_5), (nat_lit 11, zPne_copies_6, zOne_copies_6, zMne_copies_6), (nat_lit 12, zPne_copies_17, zOne_copies_17, zMne_copies_17), (nat_lit 13, zPne_copies_18, zOne_copies_18, zMne_copies_18), (nat_lit 14, zPne_copies_19, zOne_copies_19, zMne_copies_19), (nat_lit 15, zPne_copies_20, zOne_copies_20, zMne_copies_20), (nat_lit 16, zPne_copies_21, zOne_copies_21, zMne_copies_21), (nat_lit 17, zPne_begin, zOne_begin, zMne_begin)] pCne_keepText qCne_keepText) 0).1 [] η4
          intro x1 e1 r1 η1 eη1 x2 e2 r2 η2 eη2 x3 e3 r3 η3 eη3 x4 e4 r4 η4 eη4
          exact trivial
        · refine zden_L (n := 1) (ρ := [0]) rfl ?_
          show ∀ x1 : Int, x1 = η 0 (Int.toNat 16) → zok 0 x1 → ∀ η1 : zE, η1 = zup η 0 (Int.toNat 12) x1 → ∀ x2 : Int, x2 = η1 0 (Int.toNat 17) → zok 0 x2 → ∀ η2 : zE, η2 = zup η1 0 (Int.toNat 13) x2 → ∀ x3 : Int, x3 = η2 0 (Int.toNat 18) → zok 0 x3 → ∀ η3 : zE, η3 = zup η2 0 (Int.toNat 14) x3 → ∀ x4 : Int, x4 = η3 0 (Int.toNat 19) → zok 0 x4 → ∀ η4 : zE, η4 = zup η3 0 (Int.toNat 15) x4 → ∀ (x5 : Int) (η5 : zE), ((gC2 wl_ne [(nat_lit 0, zPne_copies_4, zOne_copies_4, zMne_copies_4), (nat_lit 1, zPne_copies_7, zOne_copies_7, zMne_copies_7), (nat_lit 2, zPne_copies_8, zOne_copies_8, zMne_copies_8), (nat_lit 3, zPne_copies_9, zOne_copies_9, zMne_copies_9), (nat_lit 4, zPne_copies_10, zOne_copies_10, zMne_copies_10), (nat_lit 5, zPne_copies_11, zOne_copies_11, zMne_copies_11), (nat_lit 6, zPne_copies_12, zOne_copies_12, zMne_copies_12), (nat_lit 7, zPne_copies_13, zOne_copies_13, zMne_copies_13), (nat_lit 8, zPne_copies_14, zOne_copies_14, zMne_copies_14), (nat_lit 9, zPne_copies_15, zOne_copies_15, zMne_copies_15), (nat_lit 10, zPne_copies_5, zOne_copies_5, zMne_copies_5), (nat_lit 11, zPne_copies_6, zOne_copies_6, zMne_copies_6), (nat_lit 12, zPne_copies_17, zOne_copies_17, zMne_copies_17), (nat_lit 13, zPne_copies_18, zOne_copies_18, zMne_copies_18), (nat_lit 14, zPne_copies_19, zOne_copies_19, zMne_copies_19), (nat_lit 15, zPne_copies_20, zOne_copies_20, zMne_copies_20), (nat_lit 16, zPne_copies_21, zOne_copies_21, zMne_copies_21), (nat_lit 17, zPne_begin, zOne_begin, zMne_begin)] pCne_keepText qCne_keepText) 0).2 [] η4 x5 η5 → ((gC2 wl_ne [(nat_lit 0, zPne_copies_4, zOne_copies_4, zMne_copies_4), (nat_lit 1, zPne_copies_7, zOne_copies_7, zMne_copies_7), (nat_lit 2, zPne_copies_8, zOne_copies_8, zMne_copies_8), (nat_lit 3, zPne_copies_9, zOne_copies_9, zMne_copies_9), (nat_lit 4, zPne_copies_10, zOne_copies_10, zMne_copies_10), (nat_lit 5, zPne_copies_11, zOne_copies_11, zMne_copies_11), (nat_lit 6, zPne_copies_12, zOne_copies_12, zMne_copies_12), (nat_lit 7, zPne_copies_13, zOne_copies_13, zMne_copies_13), (nat_lit 8, zPne_copies_14, zOne_copies_14, zMne_copies_14), (nat_lit 9, zPne_copies_15, zOne_copies_15, zMne_copies_15), (nat_lit 10, zPne_copies_5, zOne_copies_5, zMne_copies_5), (nat_lit 11, zPne_copies_6, zOne_copies_6, zMne_copies_6), (nat_lit 12, zPne_copies_17, zOne_copies_17, zMne_copies_17), (nat_lit 13, zPne_copies_18, zOne_copies_18, zMne_copies_18), (nat_lit 14, zPne_copies_19, zOne_copies_19, zMne_copies_19), (nat_lit 15, zPne_copies_20, zOne_copies_20, zMne_copies_20), (nat_lit 16, zPne_copies_21, zOne_copies_21, zMne_copies_21), (nat_lit 17, zPne_begin, zOne_begin, zMne_begin)] pCne_keepText qCne_keepText) 10).1 [] η5
          intro x1 e1 r1 η1 eη1 x2 e2 r2 η2 eη2 x3 e3 r3 η3 eη3 x4 e4 r4 η4 eη4 x5 η5 h5
          have k5 : sQ wl_ne zTr zOne_copies_4 zMne_copies_4 [] η4 x5 η5 ∧ pQne_copies_4 [] η4 x5 η5 := h5
          exact trivial
        · refine zden_L (n := 1) (ρ := [0]) rfl ?_
          exact zne_keepText_o0 (ro := ro)  η hp hpp
        · refine zden_L (n := 1) (ρ := [0]) rfl ?_
          exact zne_keepText_o1 (ro := ro)  η hp hpp
        · refine zden_L (n := 1) (ρ := [0]) rfl ?_
          exact zne_keepText_o2 (ro := ro)  η hp hpp
        · refine zden_L (n := 1) (ρ := [0]) rfl ?_
          exact zne_keepText_o3 (ro := ro)  η hp hpp
        · refine zden_L (n := 1) (ρ := [0]) rfl ?_
          exact zne_keepText_o4 (ro := ro)  η hp hpp
        · refine zden_L (n := 1) (ρ := [0]) rfl ?_
          exact zne_keepText_o5 (ro := ro)  η hp hpp
        · refine zden_L (n := 1) (ρ := [0]) rfl ?_
          exact zne_keepText_o6 (ro := ro)  η hp hpp
        · refine zden_L (n := 1) (ρ := [0]) rfl ?_
          exact zne_keepText_o7 (ro := ro)  η hp hpp
        · refine zden_L (n := 1) (ρ := [0]) rfl ?_
          exact zne_keepText_o8 (ro := ro)  η hp hpp
        · refine zden_L (n := 1) (ρ := [0]) rfl ?_
          exact zne_keepText_o9 (ro := ro)  η hp hpp
        · refine zden_L (n := 1) (ρ := [0]) rfl ?_
          exact zne_keepText_o10 (ro := ro)  η hp hpp
        · refine zden_L (n := 1) (ρ := [0]) rfl ?_
          exact zne_keepText_o11 (ro := ro)  η hp hpp
        · refine zden_L (n := 1) (ρ := [0]) rfl ?_
          exact zne_keepText_o12 (ro := ro)  η hp hpp
        · refine zden_L (n := 1) (ρ := [0]) rfl ?_
          exact zne_keepText_o13 (ro := ro)  η hp hpp
        · refine zden_L (n := 1) (ρ := [0]) rfl ?_
          exact zne_keepText_o14 (ro := ro)  η hp hpp
        · refine zden_L (n := 1) (ρ := [0]) rfl ?_
          exact zne_keepText_o15 (ro := ro)  η hp hpp
        · refine zden_L (n := 1) (ρ := [0]) rfl ?_
          exact zne_keepText_o16 (ro := ro)  η hp hpp
      )
    (fun _ _ _ _ _ _ _ h => nomatch h)
    (fun _ h => nomatch h))
def zPne_text : zPq := ([((.negSucc (nat_lit 2147483647)), (.ofNat (nat_lit 2147483647)))], [])
def zOne_text : zPo := (((.negSucc (nat_lit 2147483647)), (.ofNat (nat_lit 2147483647))), [], [])
def zMne_text : List zCe := [(nat_lit 0, nat_lit 44), (nat_lit 0, nat_lit 45), (nat_lit 0, nat_lit 42), (nat_lit 0, nat_lit 47), (nat_lit 0, nat_lit 46), (nat_lit 0, nat_lit 43), (nat_lit 0, nat_lit 20), (nat_lit 0, nat_lit 8), (nat_lit 0, nat_lit 9), (nat_lit 0, nat_lit 10), (nat_lit 0, nat_lit 11), (nat_lit 0, nat_lit 5), (nat_lit 0, nat_lit 6), (nat_lit 22, nat_lit 0), (nat_lit 19, nat_lit 0), (nat_lit 20, nat_lit 0), (nat_lit 21, nat_lit 0), (nat_lit 23, nat_lit 0), (nat_lit 0, nat_lit 12), (nat_lit 0, nat_lit 17), (nat_lit 0, nat_lit 18), (nat_lit 0, nat_lit 19), (nat_lit 5, nat_lit 0), (nat_lit 6, nat_lit 0), (nat_lit 7, nat_lit 0), (nat_lit 8, nat_lit 0), (nat_lit 9, nat_lit 0), (nat_lit 10, nat_lit 0), (nat_lit 11, nat_lit 0), (nat_lit 12, nat_lit 0), (nat_lit 13, nat_lit 0), (nat_lit 14, nat_lit 0), (nat_lit 15, nat_lit 0), (nat_lit 4, nat_lit 0), (nat_lit 3, nat_lit 0), (nat_lit 16, nat_lit 0), (nat_lit 18, nat_lit 0), (nat_lit 17, nat_lit 0), (nat_lit 26, nat_lit 0), (nat_lit 27, nat_lit 0), (nat_lit 28, nat_lit 0), (nat_lit 29, nat_lit 0), (nat_lit 30, nat_lit 0), (nat_lit 31, nat_lit 0), (nat_lit 32, nat_lit 0), (nat_lit 33, nat_lit 0), (nat_lit 34, nat_lit 0), (nat_lit 35, nat_lit 0), (nat_lit 0, nat_lit 63), (nat_lit 0, nat_lit 64), (nat_lit 0, nat_lit 65), (nat_lit 0, nat_lit 66), (nat_lit 0, nat_lit 67), (nat_lit 0, nat_lit 68), (nat_lit 0, nat_lit 69), (nat_lit 0, nat_lit 70), (nat_lit 0, nat_lit 71), (nat_lit 0, nat_lit 61), (nat_lit 0, nat_lit 75), (nat_lit 0, nat_lit 76), (nat_lit 0, nat_lit 79), (nat_lit 0, nat_lit 81), (nat_lit 0, nat_lit 13), (nat_lit 0, nat_lit 14), (nat_lit 0, nat_lit 15), (nat_lit 0, nat_lit 16), (nat_lit 16, nat_lit 1), (nat_lit 16, nat_lit 2), (nat_lit 16, nat_lit 3), (nat_lit 0, nat_lit 2), (nat_lit 0, nat_lit 7), (nat_lit 0, nat_lit 3)]
def pPne_text : List Int → zE → Prop := fun _ η => G_k η ∧ T_l η ∧ PL_n 3 η
def oQne_text : List Int → zE → Int → zE → Prop := fun xs η _ η' => (G_k η' ∧ T_l η' ∧ PL_n 3 η') ∧ (0 ≤ xs.getD 0 0 ∧ xs.getD 0 0 ≤ η 0 1 → η' 0 1 = 0) ∧ (¬ (0 ≤ xs.getD 0 0 ∧ xs.getD 0 0 ≤ η 0 1) → η' 0 1 = η 0 1)
def fQne_text : List Int → zE → Int → zE → Prop := fun xs η y η' => yq_u (xs.getD 0 0) η y η'
def pQne_text : List Int → zE → Int → zE → Prop := fun xs η y η' => oQne_text xs η y η' ∧ fQne_text xs η y η'
def pCne_text : Nat → List Int → zE → Prop := fun c => match c with
  | 0 => pPne_plain
  | 1 => pPne_token
  | 2 => pPne_lineRead
  | 3 => pPne_keepText
  | _ => fun _ _ => True
def qCne_text : Nat → List Int → zE → Int → zE → Prop := fun c => match c with
  | 0 => pQne_plain
  | 1 => pQne_token
  | 2 => pQne_lineRead
  | 3 => pQne_keepText
  | _ => fun _ _ _ _ => True
def iCne_text : List Int → zE → Nat → List Int → zE → Prop := fun xs η0 c => match c with
  | 0 => fun ys η => (G_n η ∧ (0 ≤ xs.getD 0 0 ∧ xs.getD 0 0 ≤ η0 0 1) ∧ η 0 1 = 0) ∧ ((0 ≤ xs.getD 0 0 ∧ xs.getD 0 0 ≤ η0 0 1) ∧ ys.getD 0 0 = xs.getD 0 0 ∧ yq_rK (xs.getD 0 0) η0 (ys.getD 1 0) η ∧ η 0 74 = η0 0 74)
  | _ => fun _ _ => True
def zVne_text : List zIv := [(nat_lit 0, ([((.negSucc (nat_lit 2147483647)), (.ofNat (nat_lit 2147483647))), ((.negSucc (nat_lit 2147483647)), (.ofNat (nat_lit 2147483647)))], []), ((.ofNat (nat_lit 0)), [((.ofNat (nat_lit 10)), nat_lit 1, nat_lit 0, nat_lit 6), ((.negSucc (nat_lit 9)), nat_lit 1, nat_lit 0, nat_lit 7), ((.ofNat (nat_lit 1)), nat_lit 1, nat_lit 0, nat_lit 8)]))]
def zUne_text : List zCu := [(nat_lit 55, nat_lit 0, [(nat_lit 0, (.inr (.inr (.inl (nat_lit 0))))), (nat_lit 1, (.inl (nat_lit 1, (.ofNat (nat_lit 0))))), (nat_lit 2, (.inl (nat_lit 2, (.ofNat (nat_lit 0)))))], [])]
def zDne_text : List (List zK) := []
def zEne_text : List (List zK) := [[(nat_lit 11, nat_lit 0, [(nat_lit 0, (.negSucc (nat_lit 1)))]), (nat_lit 6, nat_lit 2, [(nat_lit 1, (.ofNat (nat_lit 0))), (nat_lit 0, (.ofNat (nat_lit 0)))]), (nat_lit 5, nat_lit 0, [(nat_lit 0, (.ofNat (nat_lit 0))), (nat_lit 0, (.ofNat (nat_lit 2))), (nat_lit 0, (.ofNat (nat_lit 0)))])],
  [(nat_lit 13, nat_lit 0, []), (nat_lit 5, nat_lit 0, [(nat_lit 0, (.ofNat (nat_lit 0))), (nat_lit 0, (.ofNat (nat_lit 7))), (nat_lit 0, (.ofNat (nat_lit 0)))]), (nat_lit 5, nat_lit 0, [(nat_lit 0, (.ofNat (nat_lit 0))), (nat_lit 0, (.ofNat (nat_lit 5))), (nat_lit 0, (.negSucc (nat_lit 0)))]), (nat_lit 5, nat_lit 0, [(nat_lit 0, (.ofNat (nat_lit 0))), (nat_lit 0, (.ofNat (nat_lit 4))), (nat_lit 0, (.ofNat (nat_lit 0)))]), (nat_lit 5, nat_lit 0, [(nat_lit 0, (.ofNat (nat_lit 0))), (nat_lit 0, (.ofNat (nat_lit 1))), (nat_lit 0, (.ofNat (nat_lit 0)))]), (nat_lit 5, nat_lit 0, [(nat_lit 0, (.ofNat (nat_lit 0))), (nat_lit 0, (.ofNat (nat_lit 6))), (nat_lit 1, (.ofNat (nat_lit 0)))]), (nat_lit 6, nat_lit 5, [(nat_lit 1, (.ofNat (nat_lit 0))), (nat_lit 2, (.ofNat (nat_lit 0)))]), (nat_lit 4, nat_lit 0, [(nat_lit 0, (.ofNat (nat_lit 0))), (nat_lit 0, (.ofNat (nat_lit 1)))]), (nat_lit 6, nat_lit 3, [(nat_lit 1, (.ofNat (nat_lit 0))), (nat_lit 0, (.ofNat (nat_lit 0)))]), (nat_lit 5, nat_lit 0, [(nat_lit 0, (.ofNat (nat_lit 0))), (nat_lit 0, (.ofNat (nat_lit 2))), (nat_lit 0, (.ofNat (nat_lit 0)))])],
  [(nat_lit 13, nat_lit 1, []), (nat_lit 8, nat_lit 0, []), (nat_lit 5, nat_lit 0, [(nat_lit 0, (.ofNat (nat_lit 0))), (nat_lit 0, (.ofNat (nat_lit 7))), (nat_lit 0, (.ofNat (nat_lit 0)))]), (nat_lit 5, nat_lit 0, [(nat_lit 0, (.ofNat (nat_lit 0))), (nat_lit 0, (.ofNat (nat_lit 5))), (nat_lit 0, (.negSucc (nat_lit 0)))]), (nat_lit 5, nat_lit 0, [(nat_lit 0, (.ofNat (nat_lit 0))), (nat_lit 0, (.ofNat (nat_lit 4))), (nat_lit 0, (.ofNat (nat_lit 0)))]), (nat_lit 5, nat_lit 0, [(nat_lit 0, (.ofNat (nat_lit 0))), (nat_lit 0, (.ofNat (nat_lit 1))), (nat_lit 0, (.ofNat (nat_lit 0)))]), (nat_lit 5, nat_lit 0, [(nat_lit 0, (.ofNat (nat_lit 0))), (nat_lit 0, (.ofNat (nat_lit 6))), (nat_lit 1, (.ofNat (nat_lit 0)))]), (nat_lit 6, nat_lit 5, [(nat_lit 1, (.ofNat (nat_lit 0))), (nat_lit 2, (.ofNat (nat_lit 0)))]), (nat_lit 4, nat_lit 0, [(nat_lit 0, (.ofNat (nat_lit 0))), (nat_lit 0, (.ofNat (nat_lit 1)))]), (nat_lit 6, nat_lit 3, [(nat_lit 1, (.ofNat (nat_lit 0))), (nat_lit 0, (.ofNat (nat_lit 0)))]), (nat_lit 5, nat_lit 0, [(nat_lit 0, (.ofNat (nat_lit 0))), (nat_lit 0, (.ofNat (nat_lit 2))), (nat_lit 0, (.ofNat (nat_lit 0)))])],
  [(nat_lit 12, nat_lit 0, [(nat_lit 1, (.ofNat (nat_lit 0))), (nat_lit 0, (.ofNat (nat_lit 0)))]), (nat_lit 8, nat_lit 1, []), (nat_lit 8, nat_lit 0, []), (nat_lit 5, nat_lit 0, [(nat_lit 0, (.ofNat (nat_lit 0))), (nat_lit 0, (.ofNat (nat_lit 7))), (nat_lit 0, (.ofNat (nat_lit 0)))]), (nat_lit 5, nat_lit 0, [(nat_lit 0, (.ofNat (nat_lit 0))), (nat_lit 0, (.ofNat (nat_lit 5))), (nat_lit 0, (.negSucc (nat_lit 0)))]), (nat_lit 5, nat_lit 0, [(nat_lit 0, (.ofNat (nat_lit 0))), (nat_lit 0, (.ofNat (nat_lit 4))), (nat_lit 0, (.ofNat (nat_lit 0)))]), (nat_lit 5, nat_lit 0, [(nat_lit 0, (.ofNat (nat_lit 0))), (nat_lit 0, (.ofNat (nat_lit 1))), (nat_lit 0, (.ofNat (nat_lit 0)))]), (nat_lit 5, nat_lit 0, [(nat_lit 0, (.ofNat (nat_lit 0))), (nat_lit 0, (.ofNat (nat_lit 6))), (nat_lit 1, (.ofNat (nat_lit 0)))]), (nat_lit 6, nat_lit 5, [(nat_lit 1, (.ofNat (nat_lit 0))), (nat_lit 2, (.ofNat (nat_lit 0)))]), (nat_lit 4, nat_lit 0, [(nat_lit 0, (.ofNat (nat_lit 0))), (nat_lit 0, (.ofNat (nat_lit 1)))]), (nat_lit 6, nat_lit 3, [(nat_lit 1, (.ofNat (nat_lit 0))), (nat_lit 0, (.ofNat (nat_lit 0)))]), (nat_lit 5, nat_lit 0, [(nat_lit 0, (.ofNat (nat_lit 0))), (nat_lit 0, (.ofNat (nat_lit 2))), (nat_lit 0, (.ofNat (nat_lit 0)))])],
  [(nat_lit 11, nat_lit 0, [(nat_lit 0, (.negSucc (nat_lit 1)))]), (nat_lit 6, nat_lit 4, [(nat_lit 1, (.ofNat (nat_lit 0))), (nat_lit 2, (.ofNat (nat_lit 0)))]), (nat_lit 4, nat_lit 0, [(nat_lit 0, (.ofNat (nat_lit 0))), (nat_lit 0, (.ofNat (nat_lit 1)))]), (nat_lit 6, nat_lit 3, [(nat_lit 1, (.ofNat (nat_lit 0))), (nat_lit 0, (.ofNat (nat_lit 0)))]), (nat_lit 5, nat_lit 0, [(nat_lit 0, (.ofNat (nat_lit 0))), (nat_lit 0, (.ofNat (nat_lit 2))), (nat_lit 0, (.ofNat (nat_lit 0)))])]]
def zFne_text : List (List zK) := []
def zDne_text_0 : List (List zK) := []
def zEne_text_0 : List (List zK) := [[(nat_lit 13, nat_lit 3, []), (nat_lit 6, nat_lit 0, [(nat_lit 3, (.ofNat (nat_lit 0))), (nat_lit 0, (.ofNat (nat_lit 0)))]), (nat_lit 4, nat_lit 0, [(nat_lit 0, (.ofNat (nat_lit 0))), (nat_lit 0, (.ofNat (nat_lit 8)))])],
  [(nat_lit 11, nat_lit 0, [(nat_lit 2, (.ofNat (nat_lit 0)))]), (nat_lit 8, nat_lit 3, []), (nat_lit 6, nat_lit 0, [(nat_lit 3, (.ofNat (nat_lit 0))), (nat_lit 0, (.ofNat (nat_lit 0)))]), (nat_lit 4, nat_lit 0, [(nat_lit 0, (.ofNat (nat_lit 0))), (nat_lit 0, (.ofNat (nat_lit 8)))])],
  [(nat_lit 13, nat_lit 2, []), (nat_lit 6, nat_lit 1, [(nat_lit 3, (.ofNat (nat_lit 0))), (nat_lit 0, (.ofNat (nat_lit 0)))]), (nat_lit 4, nat_lit 0, [(nat_lit 0, (.ofNat (nat_lit 0))), (nat_lit 0, (.ofNat (nat_lit 8)))])],
  [(nat_lit 11, nat_lit 0, [(nat_lit 0, (.negSucc (nat_lit 0)))]), (nat_lit 6, nat_lit 0, [(nat_lit 4, (.ofNat (nat_lit 0))), (nat_lit 0, (.ofNat (nat_lit 0)))]), (nat_lit 8, nat_lit 2, []), (nat_lit 6, nat_lit 1, [(nat_lit 3, (.ofNat (nat_lit 0))), (nat_lit 0, (.ofNat (nat_lit 0)))]), (nat_lit 4, nat_lit 0, [(nat_lit 0, (.ofNat (nat_lit 0))), (nat_lit 0, (.ofNat (nat_lit 8)))])]]
def zFne_text_0 : List (List zK) := [[(nat_lit 10, nat_lit 0, [(nat_lit 1, (.ofNat (nat_lit 0))), (nat_lit 5, (.ofNat (nat_lit 0)))]), (nat_lit 0, nat_lit 1, [(nat_lit 2, (.ofNat (nat_lit 0))), (nat_lit 0, (.ofNat (nat_lit 1)))]), (nat_lit 6, nat_lit 1, [(nat_lit 4, (.ofNat (nat_lit 0))), (nat_lit 0, (.ofNat (nat_lit 0)))]), (nat_lit 8, nat_lit 2, []), (nat_lit 6, nat_lit 1, [(nat_lit 3, (.ofNat (nat_lit 0))), (nat_lit 0, (.ofNat (nat_lit 0)))]), (nat_lit 4, nat_lit 0, [(nat_lit 0, (.ofNat (nat_lit 0))), (nat_lit 0, (.ofNat (nat_lit 8)))])]]
set_option maxHeartbeats 8000000 in
theorem zne_text_o0 {ro : Nat → List Int32} (x1 : Int) (η : zE) (hp : sP wl_ne zTr zPne_text [x1] η) (hpp : pPne_text [x1] η) : ∀ η1 : zE, η1 = zup η 0 (Int.toNat 2) 0 → (x1 < 0) → (fun (_ : Nat) (y : Int) (η' : zE) => pQne_text [x1] η y η') 0 (-2) η1 := by
  intro η1 eη1 c1
  refine yj_a ?_ ?_
  · have bx1 : ((-2147483648) : Int) ≤ x1 ∧ x1 ≤ 2147483647 := hp.2.1.1
    have fm1 : zFm zMne_text η η1 := by rw [eη1]; exact zFm_up zFm_rf rfl
    have fmE : zFm zMne_text η η1 := fm1
    have v0 : ∀ j, η1 2 j = η 2 j := fun j => by rw [eη1]; exact zup_ne (fun e _ => absurd e (by decide))
    have fr2 : ∀ j, η1 2 j = η 2 j := v0
    have v1 : ∀ j, η1 19 j = η 19 j := fun j => by rw [eη1]; exact zup_ne (fun e _ => absurd e (by decide))
    have fr19 : ∀ j, η1 19 j = η 19 j := v1
    have v2 : ∀ j, η1 20 j = η 20 j := fun j => by rw [eη1]; exact zup_ne (fun e _ => absurd e (by decide))
    have fr20 : ∀ j, η1 20 j = η 20 j := v2
    have v3 : ∀ j, η1 21 j = η 21 j := fun j => by rw [eη1]; exact zup_ne (fun e _ => absurd e (by decide))
    have fr21 : ∀ j, η1 21 j = η 21 j := v3
    have v4 : ∀ j, η1 16 j = η 16 j := fun j => by rw [eη1]; exact zup_ne (fun e _ => absurd e (by decide))
    have fr16 : ∀ j, η1 16 j = η 16 j := v4
    have v5 : ∀ j, η1 18 j = η 18 j := fun j => by rw [eη1]; exact zup_ne (fun e _ => absurd e (by decide))
    have fr18 : ∀ j, η1 18 j = η 18 j := v5
    have w0_0_7 : (0 : Int) ≤ η 0 7 ∧ η 0 7 ≤ 700 := wf_ok (a := 7) (b := 7) (z := (0, 700)) hp.1 (by decide +kernel) (Nat.le_refl _) (Nat.le_refl _)
    have v7 : zEq (η1 0 7) (η 0 7) := by rw [eη1]; exact (zup_ne (fun _ e => absurd e (by decide))).trans rfl
    have f0_7 : η1 0 7 = η 0 7 := v7
    have w0_0_6 : (0 : Int) ≤ η 0 6 ∧ η 0 6 ≤ 700 := wf_ok (a := 6) (b := 6) (z := (0, 700)) hp.1 (by decide +kernel) (Nat.le_refl _) (Nat.le_refl _)
    have v9 : zEq (η1 0 6) (η 0 6) := by rw [eη1]; exact (zup_ne (fun _ e => absurd e (by decide))).trans rfl
    have f0_6 : η1 0 6 = η 0 6 := v9
    have w0_0_8 : (0 : Int) ≤ η 0 8 ∧ η 0 8 ≤ 6 := wf_ok (a := 8) (b := 8) (z := (0, 6)) hp.1 (by decide +kernel) (Nat.le_refl _) (Nat.le_refl _)
    have v11 : zEq (η1 0 8) (η 0 8) := by rw [eη1]; exact (zup_ne (fun _ e => absurd e (by decide))).trans rfl
    have f0_8 : η1 0 8 = η 0 8 := v11
    have v13 : zEq (η1 0 9) (η 0 9) := by rw [eη1]; exact (zup_ne (fun _ e => absurd e (by decide))).trans rfl
    have f0_9 : η1 0 9 = η 0 9 := v13
    have w0_0_1 : (0 : Int) ≤ η 0 1 ∧ η 0 1 ≤ 700 := wf_ok (a := 1) (b := 1) (z := (0, 700)) hp.1 (by decide +kernel) (Nat.le_refl _) (Nat.le_refl _)
    have v15 : zEq (η1 0 1) (η 0 1) := by rw [eη1]; exact (zup_ne (fun _ e => absurd e (by decide))).trans rfl
    have f0_1 : η1 0 1 = η 0 1 := v15
    exact ⟨⟨by rw [eη1]; exact zGk_upc gk_k hpp.1 (by decide +kernel), by rw [eη1]; exact zGk_upc tk_l hpp.2.1 (by decide +kernel), by rw [eη1]; exact zGk_upc plk_n hpp.2.2 (by decide +kernel)⟩, fun w => absurd (show (0 : Int) ≤ x1 from w.1) (by omega), fun _ => f0_1⟩
  · have eη1 : η1 = zup η 0 2 0 := eη1
    subst eη1
    show yq_u x1 η _ _
    exact ⟨fun _ => ⟨rfl, rfl⟩, fun a b => by omega⟩
set_option maxHeartbeats 8000000 in
theorem zne_text_o1 {ro : Nat → List Int32} (x1 : Int) (η : zE) (hp : sP wl_ne zTr zPne_text [x1] η) (hpp : pPne_text [x1] η) : ∀ η1 : zE, η1 = zup η 0 (Int.toNat 2) 0 → (0 ≤ x1) → ∀ x2 : Int, x2 = η1 0 (Int.toNat 1) → zok 0 x2 → (x1 ≤ x2) → ∀ η2 : zE, η2 = zup η1 0 (Int.toNat 6) x1 → ∀ η3 : zE, η3 = zup η2 0 (Int.toNat 1) 0 → ∀ η4 : zE, η4 = zup η3 0 (Int.toNat 4) 0 → ∀ η5 : zE, η5 = zup η4 0 (Int.toNat 5) (-1) → ∀ η6 : zE, η6 = zup η5 0 (Int.toNat 7) 0 → ((gC2 wl_ne [(nat_lit 0, zPne_plain, zOne_plain, zMne_plain), (nat_lit 1, zPne_token, zOne_token, zMne_token), (nat_lit 2, zPne_lineRead, zOne_lineRead, zMne_lineRead), (nat_lit 3, zPne_keepText, zOne_keepText, zMne_keepText)] pCne_text qCne_text) 0).1 [] η6 := by
  intro η1 eη1 c1 x2 e2 r2 c2 η2 eη2 η3 eη3 η4 eη4 η5 eη5 η6 eη6
  have bx1 : ((-2147483648) : Int) ≤ x1 ∧ x1 ≤ 2147483647 := hp.2.1.1
  have w0_0_1 : (0 : Int) ≤ η 0 1 ∧ η 0 1 ≤ 700 := wf_ok (a := 1) (b := 1) (z := (0, 700)) hp.1 (by decide +kernel) (Nat.le_refl _) (Nat.le_refl _)
  have v1 : zEq (η1 0 1) (η 0 1) := by rw [eη1]; exact (zup_ne (fun _ e => absurd e (by decide))).trans rfl
  replace e2 : x2 = η 0 1 := e2.trans v1
  have w0_0_6 : (0 : Int) ≤ η 0 6 ∧ η 0 6 ≤ 700 := wf_ok (a := 6) (b := 6) (z := (0, 700)) hp.1 (by decide +kernel) (Nat.le_refl _) (Nat.le_refl _)
  have v3 : zEq (η1 0 6) (η 0 6) := by rw [eη1]; exact (zup_ne (fun _ e => absurd e (by decide))).trans rfl
  have c1_0_6 : η1 0 6 = η 0 6 := v3
  have v4 : zEq (η2 0 1) (η 0 1) := by rw [eη2]; exact (zup_ne (fun _ e => absurd e (by decide))).trans v1
  have c2_0_1 : η2 0 1 = η 0 1 := v4
  have w0_0_7 : (0 : Int) ≤ η 0 7 ∧ η 0 7 ≤ 700 := wf_ok (a := 7) (b := 7) (z := (0, 700)) hp.1 (by decide +kernel) (Nat.le_refl _) (Nat.le_refl _)
  have v6 : zEq (η1 0 7) (η 0 7) := by rw [eη1]; exact (zup_ne (fun _ e => absurd e (by decide))).trans rfl
  have v7 : zEq (η2 0 7) (η 0 7) := by rw [eη2]; exact (zup_ne (fun _ e => absurd e (by decide))).trans v6
  have v8 : zEq (η3 0 7) (η 0 7) := by rw [eη3]; exact (zup_ne (fun _ e => absurd e (by decide))).trans v7
  have v9 : zEq (η4 0 7) (η 0 7) := by rw [eη4]; exact (zup_ne (fun _ e => absurd e (by decide))).trans v8
  have v10 : zEq (η5 0 7) (η 0 7) := by rw [eη5]; exact (zup_ne (fun _ e => absurd e (by decide))).trans v9
  have c5_0_7 : η5 0 7 = η 0 7 := v10
  have fm1 : zFm zMne_text η η1 := by rw [eη1]; exact zFm_up zFm_rf rfl
  have fm2 : zFm zMne_text η η2 := by rw [eη2]; exact zFm_up fm1 rfl
  have fm3 : zFm zMne_text η η3 := by rw [eη3]; exact zFm_up fm2 rfl
  have fm4 : zFm zMne_text η η4 := by rw [eη4]; exact zFm_up fm3 rfl
  have fm5 : zFm zMne_text η η5 := by rw [eη5]; exact zFm_up fm4 rfl
  have fm6 : zFm zMne_text η η6 := by rw [eη6]; exact zFm_up fm5 rfl
  have fmE : zFm zMne_text η η6 := fm6
  have v11 : ∀ j, η1 2 j = η 2 j := fun j => by rw [eη1]; exact zup_ne (fun e _ => absurd e (by decide))
  have v12 : ∀ j, η2 2 j = η 2 j := fun j => by rw [eη2]; exact (zup_ne (fun e _ => absurd e (by decide))).trans (v11 j)
  have v13 : ∀ j, η3 2 j = η 2 j := fun j => by rw [eη3]; exact (zup_ne (fun e _ => absurd e (by decide))).trans (v12 j)
  have v14 : ∀ j, η4 2 j = η 2 j := fun j => by rw [eη4]; exact (zup_ne (fun e _ => absurd e (by decide))).trans (v13 j)
  have v15 : ∀ j, η5 2 j = η 2 j := fun j => by rw [eη5]; exact (zup_ne (fun e _ => absurd e (by decide))).trans (v14 j)
  have v16 : ∀ j, η6 2 j = η 2 j := fun j => by rw [eη6]; exact (zup_ne (fun e _ => absurd e (by decide))).trans (v15 j)
  have fr2 : ∀ j, η6 2 j = η 2 j := v16
  have v17 : ∀ j, η1 19 j = η 19 j := fun j => by rw [eη1]; exact zup_ne (fun e _ => absurd e (by decide))
  have v18 : ∀ j, η2 19 j = η 19 j := fun j => by rw [eη2]; exact (zup_ne (fun e _ => absurd e (by decide))).trans (v17 j)
  have v19 : ∀ j, η3 19 j = η 19 j := fun j => by rw [eη3]; exact (zup_ne (fun e _ => absurd e (by decide))).trans (v18 j)
  have v20 : ∀ j, η4 19 j = η 19 j := fun j => by rw [eη4]; exact (zup_ne (fun e _ => absurd e (by decide))).trans (v19 j)
  have v21 : ∀ j, η5 19 j = η 19 j := fun j => by rw [eη5]; exact (zup_ne (fun e _ => absurd e (by decide))).trans (v20 j)
  have v22 : ∀ j, η6 19 j = η 19 j := fun j => by rw [eη6]; exact (zup_ne (fun e _ => absurd e (by decide))).trans (v21 j)
  have fr19 : ∀ j, η6 19 j = η 19 j := v22
  have v23 : ∀ j, η1 20 j = η 20 j := fun j => by rw [eη1]; exact zup_ne (fun e _ => absurd e (by decide))
  have v24 : ∀ j, η2 20 j = η 20 j := fun j => by rw [eη2]; exact (zup_ne (fun e _ => absurd e (by decide))).trans (v23 j)
  have v25 : ∀ j, η3 20 j = η 20 j := fun j => by rw [eη3]; exact (zup_ne (fun e _ => absurd e (by decide))).trans (v24 j)
  have v26 : ∀ j, η4 20 j = η 20 j := fun j => by rw [eη4]; exact (zup_ne (fun e _ => absurd e (by decide))).trans (v25 j)
  have v27 : ∀ j, η5 20 j = η 20 j := fun j => by rw [eη5]; exact (zup_ne (fun e _ => absurd e (by decide))).trans (v26 j)
  have v28 : ∀ j, η6 20 j = η 20 j := fun j => by rw [eη6]; exact (zup_ne (fun e _ => absurd e (by decide))).trans (v27 j)
  have fr20 : ∀ j, η6 20 j = η 20 j := v28
  have v29 : ∀ j, η1 21 j = η 21 j := fun j => by rw [eη1]; exact zup_ne (fun e _ => absurd e (by decide))
  have v30 : ∀ j, η2 21 j = η 21 j := fun j => by rw [eη2]; exact (zup_ne (fun e _ => absurd e (by decide))).trans (v29 j)
  have v31 : ∀ j, η3 21 j = η 21 j := fun j => by rw [eη3]; exact (zup_ne (fun e _ => absurd e (by decide))).trans (v30 j)
  have v32 : ∀ j, η4 21 j = η 21 j := fun j => by rw [eη4]; exact (zup_ne (fun e _ => absurd e (by decide))).trans (v31 j)
  have v33 : ∀ j, η5 21 j = η 21 j := fun j => by rw [eη5]; exact (zup_ne (fun e _ => absurd e (by decide))).trans (v32 j)
  have v34 : ∀ j, η6 21 j = η 21 j := fun j => by rw [eη6]; exact (zup_ne (fun e _ => absurd e (by decide))).trans (v33 j)
  have fr21 : ∀ j, η6 21 j = η 21 j := v34
  have v35 : ∀ j, η1 16 j = η 16 j := fun j => by rw [eη1]; exact zup_ne (fun e _ => absurd e (by decide))
  have v36 : ∀ j, η2 16 j = η 16 j := fun j => by rw [eη2]; exact (zup_ne (fun e _ => absurd e (by decide))).trans (v35 j)
  have v37 : ∀ j, η3 16 j = η 16 j := fun j => by rw [eη3]; exact (zup_ne (fun e _ => absurd e (by decide))).trans (v36 j)
  have v38 : ∀ j, η4 16 j = η 16 j := fun j => by rw [eη4]; exact (zup_ne (fun e _ => absurd e (by decide))).trans (v37 j)
  have v39 : ∀ j, η5 16 j = η 16 j := fun j => by rw [eη5]; exact (zup_ne (fun e _ => absurd e (by decide))).trans (v38 j)
  have v40 : ∀ j, η6 16 j = η 16 j := fun j => by rw [eη6]; exact (zup_ne (fun e _ => absurd e (by decide))).trans (v39 j)
  have fr16 : ∀ j, η6 16 j = η 16 j := v40
  have v41 : ∀ j, η1 18 j = η 18 j := fun j => by rw [eη1]; exact zup_ne (fun e _ => absurd e (by decide))
  have v42 : ∀ j, η2 18 j = η 18 j := fun j => by rw [eη2]; exact (zup_ne (fun e _ => absurd e (by decide))).trans (v41 j)
  have v43 : ∀ j, η3 18 j = η 18 j := fun j => by rw [eη3]; exact (zup_ne (fun e _ => absurd e (by decide))).trans (v42 j)
  have v44 : ∀ j, η4 18 j = η 18 j := fun j => by rw [eη4]; exact (zup_ne (fun e _ => absurd e (by decide))).trans (v43 j)
  have v45 : ∀ j, η5 18 j = η 18 j := fun j => by rw [eη5]; exact (zup_ne (fun e _ => absurd e (by decide))).trans (v44 j)
  have v46 : ∀ j, η6 18 j = η 18 j := fun j => by rw [eη6]; exact (zup_ne (fun e _ => absurd e (by decide))).trans (v45 j)
  have fr18 : ∀ j, η6 18 j = η 18 j := v46
  have v47 : zEq (η6 0 7) (0) := by rw [eη6]; exact zup_eq
  have f0_7 : η6 0 7 = 0 := v47
  have v48 : zEq (η2 0 6) (x1) := by rw [eη2]; exact zup_eq
  have v49 : zEq (η3 0 6) (x1) := by rw [eη3]; exact (zup_ne (fun _ e => absurd e (by decide))).trans v48
  have v50 : zEq (η4 0 6) (x1) := by rw [eη4]; exact (zup_ne (fun _ e => absurd e (by decide))).trans v49
  have v51 : zEq (η5 0 6) (x1) := by rw [eη5]; exact (zup_ne (fun _ e => absurd e (by decide))).trans v50
  have v52 : zEq (η6 0 6) (x1) := by rw [eη6]; exact (zup_ne (fun _ e => absurd e (by decide))).trans v51
  have f0_6 : η6 0 6 = x1 := v52
  have w0_0_8 : (0 : Int) ≤ η 0 8 ∧ η 0 8 ≤ 6 := wf_ok (a := 8) (b := 8) (z := (0, 6)) hp.1 (by decide +kernel) (Nat.le_refl _) (Nat.le_refl _)
  have v54 : zEq (η1 0 8) (η 0 8) := by rw [eη1]; exact (zup_ne (fun _ e => absurd e (by decide))).trans rfl
  have v55 : zEq (η2 0 8) (η 0 8) := by rw [eη2]; exact (zup_ne (fun _ e => absurd e (by decide))).trans v54
  have v56 : zEq (η3 0 8) (η 0 8) := by rw [eη3]; exact (zup_ne (fun _ e => absurd e (by decide))).trans v55
  have v57 : zEq (η4 0 8) (η 0 8) := by rw [eη4]; exact (zup_ne (fun _ e => absurd e (by decide))).trans v56
  have v58 : zEq (η5 0 8) (η 0 8) := by rw [eη5]; exact (zup_ne (fun _ e => absurd e (by decide))).trans v57
  have v59 : zEq (η6 0 8) (η 0 8) := by rw [eη6]; exact (zup_ne (fun _ e => absurd e (by decide))).trans v58
  have f0_8 : η6 0 8 = η 0 8 := v59
  have v61 : zEq (η1 0 9) (η 0 9) := by rw [eη1]; exact (zup_ne (fun _ e => absurd e (by decide))).trans rfl
  have v62 : zEq (η2 0 9) (η 0 9) := by rw [eη2]; exact (zup_ne (fun _ e => absurd e (by decide))).trans v61
  have v63 : zEq (η3 0 9) (η 0 9) := by rw [eη3]; exact (zup_ne (fun _ e => absurd e (by decide))).trans v62
  have v64 : zEq (η4 0 9) (η 0 9) := by rw [eη4]; exact (zup_ne (fun _ e => absurd e (by decide))).trans v63
  have v65 : zEq (η5 0 9) (η 0 9) := by rw [eη5]; exact (zup_ne (fun _ e => absurd e (by decide))).trans v64
  have v66 : zEq (η6 0 9) (η 0 9) := by rw [eη6]; exact (zup_ne (fun _ e => absurd e (by decide))).trans v65
  have f0_9 : η6 0 9 = η 0 9 := v66
  have v67 : zEq (η3 0 1) (0) := by rw [eη3]; exact zup_eq
  have v68 : zEq (η4 0 1) (0) := by rw [eη4]; exact (zup_ne (fun _ e => absurd e (by decide))).trans v67
  have v69 : zEq (η5 0 1) (0) := by rw [eη5]; exact (zup_ne (fun _ e => absurd e (by decide))).trans v68
  have v70 : zEq (η6 0 1) (0) := by rw [eη6]; exact (zup_ne (fun _ e => absurd e (by decide))).trans v69
  have f0_1 : η6 0 1 = 0 := v70
  exact ⟨gk_of hpp.1 (show η6 0 7 ≤ η6 0 6 by omega) (by rw [f0_8, f0_9]; exact hpp.1.2.1) fr2, by rw [eη6, eη5, eη4, eη3, eη2, eη1]; exact (zGk_upc tk_l (zGk_upc tk_l (zGk_upc tk_l (zGk_upc tk_l (zGk_upc tk_l (zGk_upc tk_l hpp.2.1 (by decide +kernel)) (by decide +kernel)) (by decide +kernel)) (by decide +kernel)) (by decide +kernel)) (by decide +kernel)), by rw [eη6, eη5, eη4, eη3, eη2, eη1]; exact (zGk_upc plk_n (zGk_upc plk_n (zGk_upc plk_n (zGk_upc plk_n (zGk_upc plk_n (zGk_upc plk_n hpp.2.2 (by decide +kernel)) (by decide +kernel)) (by decide +kernel)) (by decide +kernel)) (by decide +kernel)) (by decide +kernel))⟩
set_option maxHeartbeats 8000000 in
theorem zne_text_o2 {ro : Nat → List Int32} (x1 : Int) (η : zE) (hp : sP wl_ne zTr zPne_text [x1] η) (hpp : pPne_text [x1] η) : ∀ η1 : zE, η1 = zup η 0 (Int.toNat 2) 0 → (0 ≤ x1) → ∀ x2 : Int, x2 = η1 0 (Int.toNat 1) → zok 0 x2 → (x1 ≤ x2) → ∀ η2 : zE, η2 = zup η1 0 (Int.toNat 6) x1 → ∀ η3 : zE, η3 = zup η2 0 (Int.toNat 1) 0 → ∀ η4 : zE, η4 = zup η3 0 (Int.toNat 4) 0 → ∀ η5 : zE, η5 = zup η4 0 (Int.toNat 5) (-1) → ∀ η6 : zE, η6 = zup η5 0 (Int.toNat 7) 0 → ∀ (x3 : Int) (η7 : zE), ((gC2 wl_ne [(nat_lit 0, zPne_plain, zOne_plain, zMne_plain), (nat_lit 1, zPne_token, zOne_token, zMne_token), (nat_lit 2, zPne_lineRead, zOne_lineRead, zMne_lineRead), (nat_lit 3, zPne_keepText, zOne_keepText, zMne_keepText)] pCne_text qCne_text) 0).2 [] η6 x3 η7 → ((gC2 wl_ne [(nat_lit 0, zPne_plain, zOne_plain, zMne_plain), (nat_lit 1, zPne_token, zOne_token, zMne_token), (nat_lit 2, zPne_lineRead, zOne_lineRead, zMne_lineRead), (nat_lit 3, zPne_keepText, zOne_keepText, zMne_keepText)] pCne_text qCne_text) 1).1 [] η7 := by
  intro η1 eη1 c1 x2 e2 r2 c2 η2 eη2 η3 eη3 η4 eη4 η5 eη5 η6 eη6 x3 η7 h3
  have y3 : fQne_plain [] η6 x3 η7 := h3.2.2
  have k3 : sQ wl_ne zTr zOne_plain zMne_plain [] η6 x3 η7 ∧ oQne_plain [] η6 x3 η7 := ⟨h3.1, h3.2.1⟩
  exact k3.2
set_option maxHeartbeats 8000000 in
theorem zne_text_o3 {ro : Nat → List Int32} (x1 : Int) (η : zE) (hp : sP wl_ne zTr zPne_text [x1] η) (hpp : pPne_text [x1] η) : ∀ η1 : zE, η1 = zup η 0 (Int.toNat 2) 0 → (0 ≤ x1) → ∀ x2 : Int, x2 = η1 0 (Int.toNat 1) → zok 0 x2 → (x1 ≤ x2) → ∀ η2 : zE, η2 = zup η1 0 (Int.toNat 6) x1 → ∀ η3 : zE, η3 = zup η2 0 (Int.toNat 1) 0 → ∀ η4 : zE, η4 = zup η3 0 (Int.toNat 4) 0 → ∀ η5 : zE, η5 = zup η4 0 (Int.toNat 5) (-1) → ∀ η6 : zE, η6 = zup η5 0 (Int.toNat 7) 0 → ∀ (x3 : Int) (η7 : zE), ((gC2 wl_ne [(nat_lit 0, zPne_plain, zOne_plain, zMne_plain), (nat_lit 1, zPne_token, zOne_token, zMne_token), (nat_lit 2, zPne_lineRead, zOne_lineRead, zMne_lineRead), (nat_lit 3, zPne_keepText, zOne_keepText, zMne_keepText)] pCne_text qCne_text) 0).2 [] η6 x3 η7 → ∀ (x4 : Int) (η8 : zE), ((gC2 wl_ne [(nat_lit 0, zPne_plain, zOne_plain, zMne_plain), (nat_lit 1, zPne_token, zOne_token, zMne_token), (nat_lit 2, zPne_lineRead, zOne_lineRead, zMne_lineRead), (nat_lit 3, zPne_keepText, zOne_keepText, zMne_keepText)] pCne_text qCne_text) 1).2 [] η7 x4 η8 → (iCne_text [x1] η) 0 [x1, 0] η8 := by
  intro η1 eη1 c1 x2 e2 r2 c2 η2 eη2 η3 eη3 η4 eη4 η5 eη5 η6 eη6 x3 η7 h3 x4 η8 h4
  have y3 : fQne_plain [] η6 x3 η7 := h3.2.2
  have k3 : sQ wl_ne zTr zOne_plain zMne_plain [] η6 x3 η7 ∧ oQne_plain [] η6 x3 η7 := ⟨h3.1, h3.2.1⟩
  have y4 : fQne_token [] η7 x4 η8 := h4.2.2
  have k4 : sQ wl_ne zTr zOne_token zMne_token [] η7 x4 η8 ∧ oQne_token [] η7 x4 η8 := ⟨h4.1, h4.2.1⟩
  refine yj_a ?_ ?_
  · have y3 : fQne_plain [] η6 x3 η7 := h3.2.2
    have k3 : sQ wl_ne zTr zOne_plain zMne_plain [] η6 x3 η7 ∧ oQne_plain [] η6 x3 η7 := ⟨h3.1, h3.2.1⟩
    have y4 : fQne_token [] η7 x4 η8 := h4.2.2
    have k4 : sQ wl_ne zTr zOne_token zMne_token [] η7 x4 η8 ∧ oQne_token [] η7 x4 η8 := ⟨h4.1, h4.2.1⟩
    have bx1 : ((-2147483648) : Int) ≤ x1 ∧ x1 ≤ 2147483647 := hp.2.1.1
    have w0_0_1 : (0 : Int) ≤ η 0 1 ∧ η 0 1 ≤ 700 := wf_ok (a := 1) (b := 1) (z := (0, 700)) hp.1 (by decide +kernel) (Nat.le_refl _) (Nat.le_refl _)
    have v1 : zEq (η1 0 1) (η 0 1) := by rw [eη1]; exact (zup_ne (fun _ e => absurd e (by decide))).trans rfl
    replace e2 : x2 = η 0 1 := e2.trans v1
    have w0_0_6 : (0 : Int) ≤ η 0 6 ∧ η 0 6 ≤ 700 := wf_ok (a := 6) (b := 6) (z := (0, 700)) hp.1 (by decide +kernel) (Nat.le_refl _) (Nat.le_refl _)
    have v3 : zEq (η1 0 6) (η 0 6) := by rw [eη1]; exact (zup_ne (fun _ e => absurd e (by decide))).trans rfl
    have c1_0_6 : η1 0 6 = η 0 6 := v3
    have v4 : zEq (η2 0 1) (η 0 1) := by rw [eη2]; exact (zup_ne (fun _ e => absurd e (by decide))).trans v1
    have c2_0_1 : η2 0 1 = η 0 1 := v4
    have w0_0_7 : (0 : Int) ≤ η 0 7 ∧ η 0 7 ≤ 700 := wf_ok (a := 7) (b := 7) (z := (0, 700)) hp.1 (by decide +kernel) (Nat.le_refl _) (Nat.le_refl _)
    have v6 : zEq (η1 0 7) (η 0 7) := by rw [eη1]; exact (zup_ne (fun _ e => absurd e (by decide))).trans rfl
    have v7 : zEq (η2 0 7) (η 0 7) := by rw [eη2]; exact (zup_ne (fun _ e => absurd e (by decide))).trans v6
    have v8 : zEq (η3 0 7) (η 0 7) := by rw [eη3]; exact (zup_ne (fun _ e => absurd e (by decide))).trans v7
    have v9 : zEq (η4 0 7) (η 0 7) := by rw [eη4]; exact (zup_ne (fun _ e => absurd e (by decide))).trans v8
    have v10 : zEq (η5 0 7) (η 0 7) := by rw [eη5]; exact (zup_ne (fun _ e => absurd e (by decide))).trans v9
    have c5_0_7 : η5 0 7 = η 0 7 := v10
    have bx3 : (0 : Int) ≤ x3 ∧ x3 ≤ 0 := k3.1.2.1
    have bx4 : (0 : Int) ≤ x4 ∧ x4 ≤ 0 := k4.1.2.1
    have fm1 : zFm zMne_text η η1 := by rw [eη1]; exact zFm_up zFm_rf rfl
    have fm2 : zFm zMne_text η η2 := by rw [eη2]; exact zFm_up fm1 rfl
    have fm3 : zFm zMne_text η η3 := by rw [eη3]; exact zFm_up fm2 rfl
    have fm4 : zFm zMne_text η η4 := by rw [eη4]; exact zFm_up fm3 rfl
    have fm5 : zFm zMne_text η η5 := by rw [eη5]; exact zFm_up fm4 rfl
    have fm6 : zFm zMne_text η η6 := by rw [eη6]; exact zFm_up fm5 rfl
    have fm7 : zFm zMne_text η η7 := zFm_tr2 fm6 k3.1.2.2.2.1 (by decide +kernel)
    have fm8 : zFm zMne_text η η8 := zFm_tr2 fm7 k4.1.2.2.2.1 (by decide +kernel)
    have fmE : zFm zMne_text η η8 := fm8
    have v11 : ∀ j, η1 2 j = η 2 j := fun j => by rw [eη1]; exact zup_ne (fun e _ => absurd e (by decide))
    have v12 : ∀ j, η2 2 j = η 2 j := fun j => by rw [eη2]; exact (zup_ne (fun e _ => absurd e (by decide))).trans (v11 j)
    have v13 : ∀ j, η3 2 j = η 2 j := fun j => by rw [eη3]; exact (zup_ne (fun e _ => absurd e (by decide))).trans (v12 j)
    have v14 : ∀ j, η4 2 j = η 2 j := fun j => by rw [eη4]; exact (zup_ne (fun e _ => absurd e (by decide))).trans (v13 j)
    have v15 : ∀ j, η5 2 j = η 2 j := fun j => by rw [eη5]; exact (zup_ne (fun e _ => absurd e (by decide))).trans (v14 j)
    have v16 : ∀ j, η6 2 j = η 2 j := fun j => by rw [eη6]; exact (zup_ne (fun e _ => absurd e (by decide))).trans (v15 j)
    have v17 : ∀ j, η7 2 j = η 2 j := fun j => (k3.1.2.2.2.1 2 _ (zinr_not (by decide +kernel))).trans (v16 j)
    have v18 : ∀ j, η8 2 j = η 2 j := fun j => (k4.1.2.2.2.1 2 _ (zinr_not (by decide +kernel))).trans (v17 j)
    have fr2 : ∀ j, η8 2 j = η 2 j := v18
    have v19 : ∀ j, η1 19 j = η 19 j := fun j => by rw [eη1]; exact zup_ne (fun e _ => absurd e (by decide))
    have v20 : ∀ j, η2 19 j = η 19 j := fun j => by rw [eη2]; exact (zup_ne (fun e _ => absurd e (by decide))).trans (v19 j)
    have v21 : ∀ j, η3 19 j = η 19 j := fun j => by rw [eη3]; exact (zup_ne (fun e _ => absurd e (by decide))).trans (v20 j)
    have v22 : ∀ j, η4 19 j = η 19 j := fun j => by rw [eη4]; exact (zup_ne (fun e _ => absurd e (by decide))).trans (v21 j)
    have v23 : ∀ j, η5 19 j = η 19 j := fun j => by rw [eη5]; exact (zup_ne (fun e _ => absurd e (by decide))).trans (v22 j)
    have v24 : ∀ j, η6 19 j = η 19 j := fun j => by rw [eη6]; exact (zup_ne (fun e _ => absurd e (by decide))).trans (v23 j)
    have v25 : ∀ j, η7 19 j = η 19 j := fun j => (k3.1.2.2.2.1 19 _ (zinr_not (by decide +kernel))).trans (v24 j)
    have v26 : ∀ j, η8 19 j = η 19 j := fun j => (k4.1.2.2.2.1 19 _ (zinr_not (by decide +kernel))).trans (v25 j)
    have fr19 : ∀ j, η8 19 j = η 19 j := v26
    have v27 : ∀ j, η1 20 j = η 20 j := fun j => by rw [eη1]; exact zup_ne (fun e _ => absurd e (by decide))
    have v28 : ∀ j, η2 20 j = η 20 j := fun j => by rw [eη2]; exact (zup_ne (fun e _ => absurd e (by decide))).trans (v27 j)
    have v29 : ∀ j, η3 20 j = η 20 j := fun j => by rw [eη3]; exact (zup_ne (fun e _ => absurd e (by decide))).trans (v28 j)
    have v30 : ∀ j, η4 20 j = η 20 j := fun j => by rw [eη4]; exact (zup_ne (fun e _ => absurd e (by decide))).trans (v29 j)
    have v31 : ∀ j, η5 20 j = η 20 j := fun j => by rw [eη5]; exact (zup_ne (fun e _ => absurd e (by decide))).trans (v30 j)
    have v32 : ∀ j, η6 20 j = η 20 j := fun j => by rw [eη6]; exact (zup_ne (fun e _ => absurd e (by decide))).trans (v31 j)
    have v33 : ∀ j, η7 20 j = η 20 j := fun j => (k3.1.2.2.2.1 20 _ (zinr_not (by decide +kernel))).trans (v32 j)
    have v34 : ∀ j, η8 20 j = η 20 j := fun j => (k4.1.2.2.2.1 20 _ (zinr_not (by decide +kernel))).trans (v33 j)
    have fr20 : ∀ j, η8 20 j = η 20 j := v34
    have v35 : ∀ j, η1 21 j = η 21 j := fun j => by rw [eη1]; exact zup_ne (fun e _ => absurd e (by decide))
    have v36 : ∀ j, η2 21 j = η 21 j := fun j => by rw [eη2]; exact (zup_ne (fun e _ => absurd e (by decide))).trans (v35 j)
    have v37 : ∀ j, η3 21 j = η 21 j := fun j => by rw [eη3]; exact (zup_ne (fun e _ => absurd e (by decide))).trans (v36 j)
    have v38 : ∀ j, η4 21 j = η 21 j := fun j => by rw [eη4]; exact (zup_ne (fun e _ => absurd e (by decide))).trans (v37 j)
    have v39 : ∀ j, η5 21 j = η 21 j := fun j => by rw [eη5]; exact (zup_ne (fun e _ => absurd e (by decide))).trans (v38 j)
    have v40 : ∀ j, η6 21 j = η 21 j := fun j => by rw [eη6]; exact (zup_ne (fun e _ => absurd e (by decide))).trans (v39 j)
    have v41 : ∀ j, η7 21 j = η 21 j := fun j => (k3.1.2.2.2.1 21 _ (zinr_not (by decide +kernel))).trans (v40 j)
    have v42 : ∀ j, η8 21 j = η 21 j := fun j => (k4.1.2.2.2.1 21 _ (zinr_not (by decide +kernel))).trans (v41 j)
    have fr21 : ∀ j, η8 21 j = η 21 j := v42
    have v44 : ∀ j, η8 16 j = η7 16 j := fun j => k4.1.2.2.2.1 16 _ (zinr_not (by decide +kernel))
    have fr16 : ∀ j, η8 16 j = η7 16 j := v44
    have v45 : ∀ j, η1 18 j = η 18 j := fun j => by rw [eη1]; exact zup_ne (fun e _ => absurd e (by decide))
    have v46 : ∀ j, η2 18 j = η 18 j := fun j => by rw [eη2]; exact (zup_ne (fun e _ => absurd e (by decide))).trans (v45 j)
    have v47 : ∀ j, η3 18 j = η 18 j := fun j => by rw [eη3]; exact (zup_ne (fun e _ => absurd e (by decide))).trans (v46 j)
    have v48 : ∀ j, η4 18 j = η 18 j := fun j => by rw [eη4]; exact (zup_ne (fun e _ => absurd e (by decide))).trans (v47 j)
    have v49 : ∀ j, η5 18 j = η 18 j := fun j => by rw [eη5]; exact (zup_ne (fun e _ => absurd e (by decide))).trans (v48 j)
    have v50 : ∀ j, η6 18 j = η 18 j := fun j => by rw [eη6]; exact (zup_ne (fun e _ => absurd e (by decide))).trans (v49 j)
    have v51 : ∀ j, η7 18 j = η 18 j := fun j => (k3.1.2.2.2.1 18 _ (zinr_not (by decide +kernel))).trans (v50 j)
    have v52 : ∀ j, η8 18 j = η 18 j := fun j => (k4.1.2.2.2.1 18 _ (zinr_not (by decide +kernel))).trans (v51 j)
    have fr18 : ∀ j, η8 18 j = η 18 j := v52
    have w8_0_7 : (0 : Int) ≤ η8 0 7 ∧ η8 0 7 ≤ 700 := wf_ok (a := 7) (b := 7) (z := (0, 700)) k4.1.1 (by decide +kernel) (Nat.le_refl _) (Nat.le_refl _)
    have f0_7 : η8 0 7 = η8 0 7 := rfl
    have v54 : zEq (η2 0 6) (x1) := by rw [eη2]; exact zup_eq
    have v55 : zEq (η3 0 6) (x1) := by rw [eη3]; exact (zup_ne (fun _ e => absurd e (by decide))).trans v54
    have v56 : zEq (η4 0 6) (x1) := by rw [eη4]; exact (zup_ne (fun _ e => absurd e (by decide))).trans v55
    have v57 : zEq (η5 0 6) (x1) := by rw [eη5]; exact (zup_ne (fun _ e => absurd e (by decide))).trans v56
    have v58 : zEq (η6 0 6) (x1) := by rw [eη6]; exact (zup_ne (fun _ e => absurd e (by decide))).trans v57
    have v59 : zEq (η7 0 6) (x1) := (k3.1.2.2.2.1 0 6 (by decide +kernel)).trans v58
    have v60 : zEq (η8 0 6) (x1) := (k4.1.2.2.2.1 0 6 (by decide +kernel)).trans v59
    have f0_6 : η8 0 6 = x1 := v60
    have w8_0_8 : (0 : Int) ≤ η8 0 8 ∧ η8 0 8 ≤ 6 := wf_ok (a := 8) (b := 8) (z := (0, 6)) k4.1.1 (by decide +kernel) (Nat.le_refl _) (Nat.le_refl _)
    have f0_8 : η8 0 8 = η8 0 8 := rfl
    have f0_9 : η8 0 9 = η8 0 9 := rfl
    have v63 : zEq (η3 0 1) (0) := by rw [eη3]; exact zup_eq
    have v64 : zEq (η4 0 1) (0) := by rw [eη4]; exact (zup_ne (fun _ e => absurd e (by decide))).trans v63
    have v65 : zEq (η5 0 1) (0) := by rw [eη5]; exact (zup_ne (fun _ e => absurd e (by decide))).trans v64
    have v66 : zEq (η6 0 1) (0) := by rw [eη6]; exact (zup_ne (fun _ e => absurd e (by decide))).trans v65
    have v67 : zEq (η7 0 1) (0) := (k3.1.2.2.2.1 0 1 (by decide +kernel)).trans v66
    have v68 : zEq (η8 0 1) (0) := (k4.1.2.2.2.1 0 1 (by decide +kernel)).trans v67
    have f0_1 : η8 0 1 = 0 := v68
    exact ⟨k4.2.1, ⟨show (0 : Int) ≤ x1 by omega, show x1 ≤ η 0 1 by omega⟩, f0_1⟩
  · have eη1 : η1 = zup η 0 2 0 := eη1
    have e2 : x2 = η1 0 1 := e2
    have g2 : x2 = η 0 1 := by rw [e2, eη1]; rfl
    clear r2
    have eη2 : η2 = zup η1 0 6 x1 := eη2
    have eη3 : η3 = zup η2 0 1 0 := eη3
    have eη4 : η4 = zup η3 0 4 0 := eη4
    have eη5 : η5 = zup η4 0 5 (-1) := eη5
    have eη6 : η6 = zup η5 0 7 0 := eη6
    have b3 : η7 = (yq_pln η6) := y3
    have b4 : η8 = (yq_tok η7) := y4
    have w6 : (0 : Int) ≤ η8 0 6 ∧ η8 0 6 ≤ 700 := wf_ok (a := 6) (b := 6) (z := (0, 700)) k4.1.1 (by decide +kernel) (Nat.le_refl _) (Nat.le_refl _)
    have w7 : (0 : Int) ≤ η8 0 7 ∧ η8 0 7 ≤ 700 := wf_ok (a := 7) (b := 7) (z := (0, 700)) k4.1.1 (by decide +kernel) (Nat.le_refl _) (Nat.le_refl _)
    have w8 : (0 : Int) ≤ η8 0 8 ∧ η8 0 8 ≤ 6 := wf_ok (a := 8) (b := 8) (z := (0, 6)) k4.1.1 (by decide +kernel) (Nat.le_refl _) (Nat.le_refl _)
    have wm : yq_mu η8 ≤ 7999 := by
      unfold yq_mu
      omega
    have f8 : η8 0 74 = η6 0 74 := (k4.1.2.2.2.1 0 74 (by decide +kernel)).trans (k3.1.2.2.2.1 0 74 (by decide +kernel))
    clear k3 h3
    clear k4 h4
    subst eη1
    subst e2
    subst eη2
    subst eη3
    subst eη4
    subst eη5
    subst eη6
    subst b3
    subst b4
    show (0 ≤ x1 ∧ x1 ≤ η 0 1) ∧ x1 = x1 ∧ yq_rK x1 η 0 _ ∧ _
    exact ⟨⟨by omega, by omega⟩, rfl, qrK_0 rfl wm, f8⟩
set_option maxHeartbeats 8000000 in
theorem zne_text_o4 {ro : Nat → List Int32} (x1 : Int) (η : zE) (hp : sP wl_ne zTr zPne_text [x1] η) (hpp : pPne_text [x1] η) : ∀ η1 : zE, η1 = zup η 0 (Int.toNat 2) 0 → (0 ≤ x1) → ∀ x2 : Int, x2 = η1 0 (Int.toNat 1) → zok 0 x2 → (x2 < x1) → (fun (_ : Nat) (y : Int) (η' : zE) => pQne_text [x1] η y η') 0 (-2) η1 := by
  intro η1 eη1 c1 x2 e2 r2 c2
  refine yj_a ?_ ?_
  · have bx1 : ((-2147483648) : Int) ≤ x1 ∧ x1 ≤ 2147483647 := hp.2.1.1
    have w0_0_1 : (0 : Int) ≤ η 0 1 ∧ η 0 1 ≤ 700 := wf_ok (a := 1) (b := 1) (z := (0, 700)) hp.1 (by decide +kernel) (Nat.le_refl _) (Nat.le_refl _)
    have v1 : zEq (η1 0 1) (η 0 1) := by rw [eη1]; exact (zup_ne (fun _ e => absurd e (by decide))).trans rfl
    replace e2 : x2 = η 0 1 := e2.trans v1
    have fm1 : zFm zMne_text η η1 := by rw [eη1]; exact zFm_up zFm_rf rfl
    have fmE : zFm zMne_text η η1 := fm1
    have v2 : ∀ j, η1 2 j = η 2 j := fun j => by rw [eη1]; exact zup_ne (fun e _ => absurd e (by decide))
    have fr2 : ∀ j, η1 2 j = η 2 j := v2
    have v3 : ∀ j, η1 19 j = η 19 j := fun j => by rw [eη1]; exact zup_ne (fun e _ => absurd e (by decide))
    have fr19 : ∀ j, η1 19 j = η 19 j := v3
    have v4 : ∀ j, η1 20 j = η 20 j := fun j => by rw [eη1]; exact zup_ne (fun e _ => absurd e (by decide))
    have fr20 : ∀ j, η1 20 j = η 20 j := v4
    have v5 : ∀ j, η1 21 j = η 21 j := fun j => by rw [eη1]; exact zup_ne (fun e _ => absurd e (by decide))
    have fr21 : ∀ j, η1 21 j = η 21 j := v5
    have v6 : ∀ j, η1 16 j = η 16 j := fun j => by rw [eη1]; exact zup_ne (fun e _ => absurd e (by decide))
    have fr16 : ∀ j, η1 16 j = η 16 j := v6
    have v7 : ∀ j, η1 18 j = η 18 j := fun j => by rw [eη1]; exact zup_ne (fun e _ => absurd e (by decide))
    have fr18 : ∀ j, η1 18 j = η 18 j := v7
    have w0_0_7 : (0 : Int) ≤ η 0 7 ∧ η 0 7 ≤ 700 := wf_ok (a := 7) (b := 7) (z := (0, 700)) hp.1 (by decide +kernel) (Nat.le_refl _) (Nat.le_refl _)
    have v9 : zEq (η1 0 7) (η 0 7) := by rw [eη1]; exact (zup_ne (fun _ e => absurd e (by decide))).trans rfl
    have f0_7 : η1 0 7 = η 0 7 := v9
    have w0_0_6 : (0 : Int) ≤ η 0 6 ∧ η 0 6 ≤ 700 := wf_ok (a := 6) (b := 6) (z := (0, 700)) hp.1 (by decide +kernel) (Nat.le_refl _) (Nat.le_refl _)
    have v11 : zEq (η1 0 6) (η 0 6) := by rw [eη1]; exact (zup_ne (fun _ e => absurd e (by decide))).trans rfl
    have f0_6 : η1 0 6 = η 0 6 := v11
    have w0_0_8 : (0 : Int) ≤ η 0 8 ∧ η 0 8 ≤ 6 := wf_ok (a := 8) (b := 8) (z := (0, 6)) hp.1 (by decide +kernel) (Nat.le_refl _) (Nat.le_refl _)
    have v13 : zEq (η1 0 8) (η 0 8) := by rw [eη1]; exact (zup_ne (fun _ e => absurd e (by decide))).trans rfl
    have f0_8 : η1 0 8 = η 0 8 := v13
    have v15 : zEq (η1 0 9) (η 0 9) := by rw [eη1]; exact (zup_ne (fun _ e => absurd e (by decide))).trans rfl
    have f0_9 : η1 0 9 = η 0 9 := v15
    have f0_1 : η1 0 1 = η 0 1 := v1
    exact ⟨⟨by rw [eη1]; exact zGk_upc gk_k hpp.1 (by decide +kernel), by rw [eη1]; exact zGk_upc tk_l hpp.2.1 (by decide +kernel), by rw [eη1]; exact zGk_upc plk_n hpp.2.2 (by decide +kernel)⟩, fun w => absurd (show x1 ≤ η 0 1 from w.2) (by omega), fun _ => f0_1⟩
  · have eη1 : η1 = zup η 0 2 0 := eη1
    have e2 : x2 = η1 0 1 := e2
    have g2 : x2 = η 0 1 := by rw [e2, eη1]; rfl
    clear r2
    subst eη1
    subst e2
    show yq_u x1 η _ _
    exact ⟨fun _ => ⟨rfl, rfl⟩, fun a b => by omega⟩
set_option maxHeartbeats 8000000 in
theorem zne_text_o5 {ro : Nat → List Int32} (xs : List Int) (η0 : zE) (hp : sP wl_ne zTr zPne_text xs η0) (hpp : pPne_text xs η0) (x1 x2 : Int) (η : zE) (hI : zsI wl_ne zTr zVne_text zMne_text η0 0 [x1, x2] η) (hig : iCne_text xs η0 0 [x1, x2] η) : ∀ x3 : Int, x3 = η 0 (Int.toNat 8) → zok 0 x3 → (x3 = 0) → ((gC2 wl_ne [(nat_lit 0, zPne_plain, zOne_plain, zMne_plain), (nat_lit 1, zPne_token, zOne_token, zMne_token), (nat_lit 2, zPne_lineRead, zOne_lineRead, zMne_lineRead), (nat_lit 3, zPne_keepText, zOne_keepText, zMne_keepText)] pCne_text qCne_text) 3).1 [] η := by
  have fig := hig.2
  have hig := hig.1
  intro x3 e3 r3 c1
  exact ⟨hig.1.1.1, hig.1.2⟩
set_option maxHeartbeats 8000000 in
theorem zne_text_o6 {ro : Nat → List Int32} (xs : List Int) (η0 : zE) (hp : sP wl_ne zTr zPne_text xs η0) (hpp : pPne_text xs η0) (x1 x2 : Int) (η : zE) (hI : zsI wl_ne zTr zVne_text zMne_text η0 0 [x1, x2] η) (hig : iCne_text xs η0 0 [x1, x2] η) : ∀ x3 : Int, x3 = η 0 (Int.toNat 8) → zok 0 x3 → (x3 = 0) → ∀ (x4 : Int) (η1 : zE), ((gC2 wl_ne [(nat_lit 0, zPne_plain, zOne_plain, zMne_plain), (nat_lit 1, zPne_token, zOne_token, zMne_token), (nat_lit 2, zPne_lineRead, zOne_lineRead, zMne_lineRead), (nat_lit 3, zPne_keepText, zOne_keepText, zMne_keepText)] pCne_text qCne_text) 3).2 [] η x4 η1 → (fun (_ : Nat) (y : Int) (η' : zE) => pQne_text xs η0 y η') 0 x2 η1 := by
  have fig := hig.2
  have hig := hig.1
  intro x3 e3 r3 c1 x4 η1 h4
  have y4 : fQne_keepText [] η x4 η1 := h4.2.2
  have k4 : sQ wl_ne zTr zOne_keepText zMne_keepText [] η x4 η1 ∧ oQne_keepText [] η x4 η1 := ⟨h4.1, h4.2.1⟩
  refine yj_a ?_ ?_
  · have y4 : fQne_keepText [] η x4 η1 := h4.2.2
    have k4 : sQ wl_ne zTr zOne_keepText zMne_keepText [] η x4 η1 ∧ oQne_keepText [] η x4 η1 := ⟨h4.1, h4.2.1⟩
    have bx1 : ((-2147483648) : Int) ≤ x1 ∧ x1 ≤ 2147483647 := hI.1.2.1.1
    have bx2 : ((-2147483648) : Int) ≤ x2 ∧ x2 ≤ 2147483647 := hI.1.2.1.2.1
    have w0_0_8 : (0 : Int) ≤ η 0 8 ∧ η 0 8 ≤ 6 := wf_ok (a := 8) (b := 8) (z := (0, 6)) hI.1.1 (by decide +kernel) (Nat.le_refl _) (Nat.le_refl _)
    replace e3 : x3 = η 0 8 := e3
    have bx4 : (0 : Int) ≤ x4 ∧ x4 ≤ 0 := k4.1.2.1
    have fm1 : zFm zMne_text η0 η1 := zFm_tr2 hI.2 k4.1.2.2.2.1 (by decide +kernel)
    have fmE : zFm zMne_text η0 η1 := fm1
    have v1 : ∀ j, η1 2 j = η 2 j := fun j => k4.1.2.2.2.1 2 _ (zinr_not (by decide +kernel))
    have fr2 : ∀ j, η1 2 j = η 2 j := v1
    have fr19 : ∀ j, η1 19 j = η1 19 j := fun _ => rfl
    have fr20 : ∀ j, η1 20 j = η1 20 j := fun _ => rfl
    have fr21 : ∀ j, η1 21 j = η1 21 j := fun _ => rfl
    have fr16 : ∀ j, η1 16 j = η1 16 j := fun _ => rfl
    have fr18 : ∀ j, η1 18 j = η1 18 j := fun _ => rfl
    have w0_0_7 : (0 : Int) ≤ η 0 7 ∧ η 0 7 ≤ 700 := wf_ok (a := 7) (b := 7) (z := (0, 700)) hI.1.1 (by decide +kernel) (Nat.le_refl _) (Nat.le_refl _)
    have v8 : zEq (η1 0 7) (η 0 7) := (k4.1.2.2.2.1 0 7 (by decide +kernel)).trans rfl
    have f0_7 : η1 0 7 = η 0 7 := v8
    have w0_0_6 : (0 : Int) ≤ η 0 6 ∧ η 0 6 ≤ 700 := wf_ok (a := 6) (b := 6) (z := (0, 700)) hI.1.1 (by decide +kernel) (Nat.le_refl _) (Nat.le_refl _)
    have v10 : zEq (η1 0 6) (η 0 6) := (k4.1.2.2.2.1 0 6 (by decide +kernel)).trans rfl
    have f0_6 : η1 0 6 = η 0 6 := v10
    have v11 : zEq (η1 0 8) (η 0 8) := (k4.1.2.2.2.1 0 8 (by decide +kernel)).trans rfl
    have f0_8 : η1 0 8 = η 0 8 := v11
    have v13 : zEq (η1 0 9) (η 0 9) := (k4.1.2.2.2.1 0 9 (by decide +kernel)).trans rfl
    have f0_9 : η1 0 9 = η 0 9 := v13
    have w0_0_1 : (0 : Int) ≤ η 0 1 ∧ η 0 1 ≤ 700 := wf_ok (a := 1) (b := 1) (z := (0, 700)) hI.1.1 (by decide +kernel) (Nat.le_refl _) (Nat.le_refl _)
    have v15 : zEq (η1 0 1) (η 0 1) := (k4.1.2.2.2.1 0 1 (by decide +kernel)).trans rfl
    have f0_1 : η1 0 1 = η 0 1 := v15
    exact ⟨k4.2, fun _ => f0_1.trans hig.2.2, fun w => absurd hig.2.1 w⟩
  · obtain ⟨⟨f1, f2⟩, f3, fI, f8⟩ : (0 ≤ xs.getD 0 0 ∧ xs.getD 0 0 ≤ η0 0 1) ∧ x1 = xs.getD 0 0 ∧ yq_rK (xs.getD 0 0) η0 x2 η ∧ η 0 74 = η0 0 74 := fig
    have e3 : x3 = η 0 8 := e3
    obtain ⟨q, f7⟩ := qrK_e fI (by omega)
    have g4 : η1 0 4 = η 0 4 := k4.1.2.2.2.1 0 4 (by decide +kernel)
    have g5 : η1 0 5 = η 0 5 := k4.1.2.2.2.1 0 5 (by decide +kernel)
    show yq_u (xs.getD 0 0) η0 x2 η1
    refine ⟨fun w => by omega, fun _ _ => ?_⟩
    rw [q]
    exact ⟨rfl, g4, g5, fun _ => y4, fun w => absurd w f7⟩
set_option maxHeartbeats 8000000 in
theorem zne_text_o7 {ro : Nat → List Int32} (xs : List Int) (η0 : zE) (hp : sP wl_ne zTr zPne_text xs η0) (hpp : pPne_text xs η0) (x1 x2 : Int) (η : zE) (hI : zsI wl_ne zTr zVne_text zMne_text η0 0 [x1, x2] η) (hig : iCne_text xs η0 0 [x1, x2] η) : ∀ x3 : Int, x3 = η 0 (Int.toNat 8) → zok 0 x3 → (¬ x3 = 0) → ((gC2 wl_ne [(nat_lit 0, zPne_plain, zOne_plain, zMne_plain), (nat_lit 1, zPne_token, zOne_token, zMne_token), (nat_lit 2, zPne_lineRead, zOne_lineRead, zMne_lineRead), (nat_lit 3, zPne_keepText, zOne_keepText, zMne_keepText)] pCne_text qCne_text) 2).1 [] η := by
  have fig := hig.2
  have hig := hig.1
  intro x3 e3 r3 c1
  exact hig.1
set_option maxHeartbeats 8000000 in
theorem zne_text_o8 {ro : Nat → List Int32} (xs : List Int) (η0 : zE) (hp : sP wl_ne zTr zPne_text xs η0) (hpp : pPne_text xs η0) (x1 x2 : Int) (η : zE) (hI : zsI wl_ne zTr zVne_text zMne_text η0 0 [x1, x2] η) (hig : iCne_text xs η0 0 [x1, x2] η) : ∀ x3 : Int, x3 = η 0 (Int.toNat 8) → zok 0 x3 → (¬ x3 = 0) → ∀ (x4 : Int) (η1 : zE), ((gC2 wl_ne [(nat_lit 0, zPne_plain, zOne_plain, zMne_plain), (nat_lit 1, zPne_token, zOne_token, zMne_token), (nat_lit 2, zPne_lineRead, zOne_lineRead, zMne_lineRead), (nat_lit 3, zPne_keepText, zOne_keepText, zMne_keepText)] pCne_text qCne_text) 2).2 [] η x4 η1 → (x4 = 0) → (fun (_ : Nat) (y : Int) (η' : zE) => pQne_text xs η0 y η') 0 (-1) η1 := by
  have fig := hig.2
  have hig := hig.1
  intro x3 e3 r3 c1 x4 η1 h4 c2
  have y4 : fQne_lineRead [] η x4 η1 := h4.2.2
  have k4 : sQ wl_ne zTr zOne_lineRead zMne_lineRead [] η x4 η1 ∧ oQne_lineRead [] η x4 η1 := ⟨h4.1, h4.2.1⟩
  refine yj_a ?_ ?_
  · have y4 : fQne_lineRead [] η x4 η1 := h4.2.2
    have k4 : sQ wl_ne zTr zOne_lineRead zMne_lineRead [] η x4 η1 ∧ oQne_lineRead [] η x4 η1 := ⟨h4.1, h4.2.1⟩
    have bx1 : ((-2147483648) : Int) ≤ x1 ∧ x1 ≤ 2147483647 := hI.1.2.1.1
    have bx2 : ((-2147483648) : Int) ≤ x2 ∧ x2 ≤ 2147483647 := hI.1.2.1.2.1
    have w0_0_8 : (0 : Int) ≤ η 0 8 ∧ η 0 8 ≤ 6 := wf_ok (a := 8) (b := 8) (z := (0, 6)) hI.1.1 (by decide +kernel) (Nat.le_refl _) (Nat.le_refl _)
    replace e3 : x3 = η 0 8 := e3
    have bx4 : (0 : Int) ≤ x4 ∧ x4 ≤ 1 := k4.1.2.1
    have fm1 : zFm zMne_text η0 η1 := zFm_tr2 hI.2 k4.1.2.2.2.1 (by decide +kernel)
    have fmE : zFm zMne_text η0 η1 := fm1
    have v1 : ∀ j, η1 2 j = η 2 j := fun j => k4.1.2.2.2.1 2 _ (zinr_not (by decide +kernel))
    have fr2 : ∀ j, η1 2 j = η 2 j := v1
    have fr19 : ∀ j, η1 19 j = η1 19 j := fun _ => rfl
    have fr20 : ∀ j, η1 20 j = η1 20 j := fun _ => rfl
    have fr21 : ∀ j, η1 21 j = η1 21 j := fun _ => rfl
    have fr16 : ∀ j, η1 16 j = η1 16 j := fun _ => rfl
    have fr18 : ∀ j, η1 18 j = η1 18 j := fun _ => rfl
    have w1_0_7 : (0 : Int) ≤ η1 0 7 ∧ η1 0 7 ≤ 700 := wf_ok (a := 7) (b := 7) (z := (0, 700)) k4.1.1 (by decide +kernel) (Nat.le_refl _) (Nat.le_refl _)
    have f0_7 : η1 0 7 = η1 0 7 := rfl
    have w0_0_6 : (0 : Int) ≤ η 0 6 ∧ η 0 6 ≤ 700 := wf_ok (a := 6) (b := 6) (z := (0, 700)) hI.1.1 (by decide +kernel) (Nat.le_refl _) (Nat.le_refl _)
    have v9 : zEq (η1 0 6) (η 0 6) := (k4.1.2.2.2.1 0 6 (by decide +kernel)).trans rfl
    have f0_6 : η1 0 6 = η 0 6 := v9
    have w1_0_8 : (0 : Int) ≤ η1 0 8 ∧ η1 0 8 ≤ 6 := wf_ok (a := 8) (b := 8) (z := (0, 6)) k4.1.1 (by decide +kernel) (Nat.le_refl _) (Nat.le_refl _)
    have f0_8 : η1 0 8 = η1 0 8 := rfl
    have f0_9 : η1 0 9 = η1 0 9 := rfl
    have w0_0_1 : (0 : Int) ≤ η 0 1 ∧ η 0 1 ≤ 700 := wf_ok (a := 1) (b := 1) (z := (0, 700)) hI.1.1 (by decide +kernel) (Nat.le_refl _) (Nat.le_refl _)
    have v13 : zEq (η1 0 1) (η 0 1) := (k4.1.2.2.2.1 0 1 (by decide +kernel)).trans rfl
    have f0_1 : η1 0 1 = η 0 1 := v13
    exact ⟨⟨k4.2.1.1, k4.2.1.2, k4.2.2.1⟩, fun _ => f0_1.trans hig.2.2, fun w => absurd hig.2.1 w⟩
  · obtain ⟨⟨f1, f2⟩, f3, fI, f8⟩ : (0 ≤ xs.getD 0 0 ∧ xs.getD 0 0 ≤ η0 0 1) ∧ x1 = xs.getD 0 0 ∧ yq_rK (xs.getD 0 0) η0 x2 η ∧ η 0 74 = η0 0 74 := fig
    have e3 : x3 = η 0 8 := e3
    obtain ⟨a4, b4⟩ : x4 = (yq_lnr η).1 ∧ η1 = (yq_lnr η).2 := y4
    have q := qrK_s fI (by omega)
    rw [← a4, ← b4] at q
    have q := q.1 (by omega)
    show yq_u (xs.getD 0 0) η0 (-1) η1
    refine ⟨fun w => by omega, fun _ _ => ?_⟩
    rw [q]
    exact ⟨rfl, rfl, rfl, fun w => absurd (show (0 : Int) ≤ -1 from w) (by decide), fun _ => ⟨rfl, (k4.1.2.2.2.1 0 74 (by decide +kernel)).trans f8⟩⟩
set_option maxHeartbeats 8000000 in
theorem zne_text_o9 {ro : Nat → List Int32} (xs : List Int) (η0 : zE) (hp : sP wl_ne zTr zPne_text xs η0) (hpp : pPne_text xs η0) (x1 x2 : Int) (η : zE) (hI : zsI wl_ne zTr zVne_text zMne_text η0 0 [x1, x2] η) (hig : iCne_text xs η0 0 [x1, x2] η) : ∀ x3 : Int, x3 = η 0 (Int.toNat 8) → zok 0 x3 → (¬ x3 = 0) → ∀ (x4 : Int) (η1 : zE), ((gC wl_ne [(nat_lit 0, zPne_plain, zOne_plain, zMne_plain), (nat_lit 1, zPne_token, zOne_token, zMne_token), (nat_lit 2, zPne_lineRead, zOne_lineRead, zMne_lineRead), (nat_lit 3, zPne_keepText, zOne_keepText, zMne_keepText)] pCne_text qCne_text) 2).2 [] η x4 η1 → (¬ x4 = 0) → ∀ x5 : Int, x5 = zd 0 1 x2 1 → (fun c ys η1 => zsI wl_ne zTr zVne_text zMne_text η0 c ys η1 ∧ iCne_text xs η0 c ys η1) 0 [x1, x5] η1 ∧ (zsM zVne_text) 0 [x1, x5] η1 < zsM zVne_text 0 [x1, x2] η := by
  have fig := hig.2
  have hig := hig.1
  intro x3 e3 r3 c1 x4 η1 h4 c2 x5 e5
  have y4 : fQne_lineRead [] η x4 η1 := h4.2.2
  have k4 : sQ wl_ne zTr zOne_lineRead zMne_lineRead [] η x4 η1 ∧ oQne_lineRead [] η x4 η1 := ⟨h4.1, h4.2.1⟩
  refine yj_d ?_ ?_
  · have y4 : fQne_lineRead [] η x4 η1 := h4.2.2
    have k4 : sQ wl_ne zTr zOne_lineRead zMne_lineRead [] η x4 η1 ∧ oQne_lineRead [] η x4 η1 := ⟨h4.1, h4.2.1⟩
    have b5 : z32 x5 := by rw [e5]; exact zd_32 (by decide)
    clear e5
    have sc := k4.2.2.2 c2
    have mu : 10 * (η1 0 6 - η1 0 7) + η1 0 8 < 10 * (η 0 6 - η 0 7) + η 0 8 := sc.2
    have hs : η1 0 7 ≤ η1 0 6 := sc.1.1.1.1.1
    have wk : (0 : Int) ≤ η1 0 8 ∧ η1 0 8 ≤ 6 := wf_ok (a := 8) (b := 8) (z := (0, 6)) k4.1.1 (by decide +kernel) (Nat.le_refl _) (Nat.le_refl _)
    exact ⟨⟨⟨⟨k4.1.1, ⟨hI.1.2.1.1, b5, trivial⟩, fun f hf => nomatch hf⟩, zFm_tr2 hI.2 k4.1.2.2.2.1 (by decide +kernel)⟩, sc.1, hig.2.1, (k4.1.2.2.2.1 0 1 (by decide +kernel)).trans hig.2.2⟩, by
      show ((0 : Int) + (10 * η1 0 6 + (-10 * η1 0 7 + (1 * η1 0 8 + 0)))).toNat < ((0 : Int) + (10 * η 0 6 + (-10 * η 0 7 + (1 * η 0 8 + 0)))).toNat
      omega⟩
  · obtain ⟨⟨f1, f2⟩, f3, fI, f8⟩ : (0 ≤ xs.getD 0 0 ∧ xs.getD 0 0 ≤ η0 0 1) ∧ x1 = xs.getD 0 0 ∧ yq_rK (xs.getD 0 0) η0 x2 η ∧ η 0 74 = η0 0 74 := fig
    have e3 : x3 = η 0 8 := e3
    obtain ⟨a4, b4⟩ : x4 = (yq_lnr η).1 ∧ η1 = (yq_lnr η).2 := y4
    have q := qrK_s fI (by omega)
    rw [← a4, ← b4] at q
    have e5 : x5 = zd 0 1 x2 1 := e5
    have sc := k4.2.2.2 c2
    have mu := sc.2
    have hs := sc.1.1.1.1.1
    have w8 : (0 : Int) ≤ η1 0 8 ∧ η1 0 8 ≤ 6 := wf_ok (a := 8) (b := 8) (z := (0, 6)) k4.1.1 (by decide +kernel) (Nat.le_refl _) (Nat.le_refl _)
    have q := q.2 (by omega) (by unfold yq_mu; omega)
    rw [← e5] at q
    exact ⟨⟨f1, f2⟩, f3, q, (k4.1.2.2.2.1 0 74 (by decide +kernel)).trans f8⟩
set_option maxHeartbeats 8000000 in
theorem zne_text {ro : Nat → List Int32} : zMet pr_P pr_K pr_df ro (sm_X0 1 6) 5 137 tm_ne [(.inr (.inr (.inl (nat_lit 0)))), (.inl (nat_lit 1, (.ofNat (nat_lit 0))))] 1 [(nat_lit 0, nat_lit 0, nat_lit 1), (nat_lit 0, nat_lit 3, nat_lit 2), (nat_lit 0, nat_lit 20, nat_lit 3), (nat_lit 0, nat_lit 21, nat_lit 4), (nat_lit 0, nat_lit 22, nat_lit 5), (nat_lit 0, nat_lit 23, nat_lit 6), (nat_lit 0, nat_lit 24, nat_lit 7), (nat_lit 0, nat_lit 25, nat_lit 8), (nat_lit 0, nat_lit 26, nat_lit 9), (nat_lit 0, nat_lit 27, nat_lit 10), (nat_lit 0, nat_lit 28, nat_lit 11), (nat_lit 0, nat_lit 29, nat_lit 12), (nat_lit 0, nat_lit 30, nat_lit 13), (nat_lit 0, nat_lit 31, nat_lit 14), (nat_lit 0, nat_lit 32, nat_lit 15), (nat_lit 0, nat_lit 33, nat_lit 16), (nat_lit 0, nat_lit 34, nat_lit 17), (nat_lit 0, nat_lit 35, nat_lit 18), (nat_lit 0, nat_lit 36, nat_lit 19), (nat_lit 0, nat_lit 37, nat_lit 20), (nat_lit 0, nat_lit 38, nat_lit 21), (nat_lit 0, nat_lit 39, nat_lit 22), (nat_lit 0, nat_lit 40, nat_lit 23), (nat_lit 0, nat_lit 47, nat_lit 24), (nat_lit 0, nat_lit 48, nat_lit 25), (nat_lit 0, nat_lit 50, nat_lit 26), (nat_lit 0, nat_lit 51, nat_lit 27), (nat_lit 0, nat_lit 52, nat_lit 28), (nat_lit 0, nat_lit 53, nat_lit 29), (nat_lit 0, nat_lit 54, nat_lit 30), (nat_lit 0, nat_lit 55, nat_lit 31), (nat_lit 0, nat_lit 56, nat_lit 32), (nat_lit 0, nat_lit 57, nat_lit 33), (nat_lit 0, nat_lit 58, nat_lit 34), (nat_lit 0, nat_lit 59, nat_lit 35), (nat_lit 0, nat_lit 72, nat_lit 36), (nat_lit 0, nat_lit 73, nat_lit 37), (nat_lit 0, nat_lit 76, nat_lit 38), (nat_lit 0, nat_lit 77, nat_lit 39), (nat_lit 0, nat_lit 79, nat_lit 40), (nat_lit 0, nat_lit 81, nat_lit 41), (nat_lit 0, nat_lit 82, nat_lit 42)] [] (fun xs η => sP wl_ne zTr zPne_text xs η ∧ pPne_text xs η) (fun xs η y η' => sQ wl_ne zTr zOne_text zMne_text xs η y η' ∧ pQne_text xs η y η') :=
  zmet_alt (zmea_gen (mi := (nat_lit 1, nat_lit 1, nat_lit 8, nat_lit 3, nat_lit 1, tX8_text)) (cd := [(nat_lit 128, nat_lit 0, nat_lit 0, [(.inr (.inr (.inl (nat_lit 0))))], nat_lit 0, [(nat_lit 0, nat_lit 0, nat_lit 1), (nat_lit 0, nat_lit 3, nat_lit 2), (nat_lit 0, nat_lit 20, nat_lit 3), (nat_lit 0, nat_lit 21, nat_lit 4), (nat_lit 0, nat_lit 22, nat_lit 5), (nat_lit 0, nat_lit 23, nat_lit 6), (nat_lit 0, nat_lit 24, nat_lit 7), (nat_lit 0, nat_lit 25, nat_lit 8), (nat_lit 0, nat_lit 26, nat_lit 9), (nat_lit 0, nat_lit 27, nat_lit 10), (nat_lit 0, nat_lit 28, nat_lit 11), (nat_lit 0, nat_lit 29, nat_lit 12), (nat_lit 0, nat_lit 30, nat_lit 13), (nat_lit 0, nat_lit 31, nat_lit 14), (nat_lit 0, nat_lit 32, nat_lit 15), (nat_lit 0, nat_lit 33, nat_lit 16), (nat_lit 0, nat_lit 34, nat_lit 17), (nat_lit 0, nat_lit 35, nat_lit 18), (nat_lit 0, nat_lit 36, nat_lit 19), (nat_lit 0, nat_lit 37, nat_lit 20), (nat_lit 0, nat_lit 38, nat_lit 21), (nat_lit 0, nat_lit 39, nat_lit 22), (nat_lit 0, nat_lit 40, nat_lit 23), (nat_lit 0, nat_lit 47, nat_lit 24), (nat_lit 0, nat_lit 48, nat_lit 25), (nat_lit 0, nat_lit 50, nat_lit 26), (nat_lit 0, nat_lit 51, nat_lit 27), (nat_lit 0, nat_lit 52, nat_lit 28), (nat_lit 0, nat_lit 53, nat_lit 29), (nat_lit 0, nat_lit 54, nat_lit 30), (nat_lit 0, nat_lit 55, nat_lit 31), (nat_lit 0, nat_lit 56, nat_lit 32), (nat_lit 0, nat_lit 57, nat_lit 33), (nat_lit 0, nat_lit 58, nat_lit 34), (nat_lit 0, nat_lit 59, nat_lit 35), (nat_lit 0, nat_lit 72, nat_lit 36), (nat_lit 0, nat_lit 73, nat_lit 37), (nat_lit 0, nat_lit 76, nat_lit 38), (nat_lit 0, nat_lit 77, nat_lit 39), (nat_lit 0, nat_lit 79, nat_lit 40), (nat_lit 0, nat_lit 81, nat_lit 41), (nat_lit 0, nat_lit 82, nat_lit 42)], []), (nat_lit 122, nat_lit 1, nat_lit 1, [(.inr (.inr (.inl (nat_lit 0))))], nat_lit 0, [(nat_lit 0, nat_lit 0, nat_lit 1), (nat_lit 0, nat_lit 3, nat_lit 2), (nat_lit 0, nat_lit 20, nat_lit 3), (nat_lit 0, nat_lit 21, nat_lit 4), (nat_lit 0, nat_lit 22, nat_lit 5), (nat_lit 0, nat_lit 23, nat_lit 6), (nat_lit 0, nat_lit 24, nat_lit 7), (nat_lit 0, nat_lit 25, nat_lit 8), (nat_lit 0, nat_lit 26, nat_lit 9), (nat_lit 0, nat_lit 27, nat_lit 10), (nat_lit 0, nat_lit 28, nat_lit 11), (nat_lit 0, nat_lit 29, nat_lit 12), (nat_lit 0, nat_lit 30, nat_lit 13), (nat_lit 0, nat_lit 31, nat_lit 14), (nat_lit 0, nat_lit 32, nat_lit 15), (nat_lit 0, nat_lit 33, nat_lit 16), (nat_lit 0, nat_lit 34, nat_lit 17), (nat_lit 0, nat_lit 35, nat_lit 18), (nat_lit 0, nat_lit 36, nat_lit 19), (nat_lit 0, nat_lit 37, nat_lit 20), (nat_lit 0, nat_lit 38, nat_lit 21), (nat_lit 0, nat_lit 39, nat_lit 22), (nat_lit 0, nat_lit 40, nat_lit 23), (nat_lit 0, nat_lit 47, nat_lit 24), (nat_lit 0, nat_lit 48, nat_lit 25), (nat_lit 0, nat_lit 50, nat_lit 26), (nat_lit 0, nat_lit 51, nat_lit 27), (nat_lit 0, nat_lit 52, nat_lit 28), (nat_lit 0, nat_lit 53, nat_lit 29), (nat_lit 0, nat_lit 54, nat_lit 30), (nat_lit 0, nat_lit 55, nat_lit 31), (nat_lit 0, nat_lit 56, nat_lit 32), (nat_lit 0, nat_lit 57, nat_lit 33), (nat_lit 0, nat_lit 58, nat_lit 34), (nat_lit 0, nat_lit 59, nat_lit 35), (nat_lit 0, nat_lit 72, nat_lit 36), (nat_lit 0, nat_lit 73, nat_lit 37), (nat_lit 0, nat_lit 76, nat_lit 38), (nat_lit 0, nat_lit 77, nat_lit 39), (nat_lit 0, nat_lit 79, nat_lit 40), (nat_lit 0, nat_lit 81, nat_lit 41), (nat_lit 0, nat_lit 82, nat_lit 42)], []), (nat_lit 136, nat_lit 2, nat_lit 4, [(.inr (.inr (.inl (nat_lit 0))))], nat_lit 2, [(nat_lit 0, nat_lit 0, nat_lit 1), (nat_lit 0, nat_lit 3, nat_lit 2), (nat_lit 0, nat_lit 20, nat_lit 3), (nat_lit 0, nat_lit 21, nat_lit 4), (nat_lit 0, nat_lit 22, nat_lit 5), (nat_lit 0, nat_lit 23, nat_lit 6), (nat_lit 0, nat_lit 24, nat_lit 7), (nat_lit 0, nat_lit 25, nat_lit 8), (nat_lit 0, nat_lit 26, nat_lit 9), (nat_lit 0, nat_lit 27, nat_lit 10), (nat_lit 0, nat_lit 28, nat_lit 11), (nat_lit 0, nat_lit 29, nat_lit 12), (nat_lit 0, nat_lit 30, nat_lit 13), (nat_lit 0, nat_lit 31, nat_lit 14), (nat_lit 0, nat_lit 32, nat_lit 15), (nat_lit 0, nat_lit 33, nat_lit 16), (nat_lit 0, nat_lit 34, nat_lit 17), (nat_lit 0, nat_lit 35, nat_lit 18), (nat_lit 0, nat_lit 36, nat_lit 19), (nat_lit 0, nat_lit 37, nat_lit 20), (nat_lit 0, nat_lit 38, nat_lit 21), (nat_lit 0, nat_lit 39, nat_lit 22), (nat_lit 0, nat_lit 40, nat_lit 23), (nat_lit 0, nat_lit 47, nat_lit 24), (nat_lit 0, nat_lit 48, nat_lit 25), (nat_lit 0, nat_lit 50, nat_lit 26), (nat_lit 0, nat_lit 51, nat_lit 27), (nat_lit 0, nat_lit 52, nat_lit 28), (nat_lit 0, nat_lit 53, nat_lit 29), (nat_lit 0, nat_lit 54, nat_lit 30), (nat_lit 0, nat_lit 55, nat_lit 31), (nat_lit 0, nat_lit 56, nat_lit 32), (nat_lit 0, nat_lit 57, nat_lit 33), (nat_lit 0, nat_lit 58, nat_lit 34), (nat_lit 0, nat_lit 59, nat_lit 35), (nat_lit 0, nat_lit 72, nat_lit 36), (nat_lit 0, nat_lit 73, nat_lit 37), (nat_lit 0, nat_lit 76, nat_lit 38), (nat_lit 0, nat_lit 77, nat_lit 39), (nat_lit 0, nat_lit 79, nat_lit 40), (nat_lit 0, nat_lit 81, nat_lit 41), (nat_lit 0, nat_lit 82, nat_lit 42)], []), (nat_lit 130, nat_lit 3, nat_lit 2, [(.inr (.inr (.inl (nat_lit 0))))], nat_lit 0, [(nat_lit 0, nat_lit 0, nat_lit 1), (nat_lit 0, nat_lit 3, nat_lit 2), (nat_lit 0, nat_lit 20, nat_lit 3), (nat_lit 0, nat_lit 21, nat_lit 4), (nat_lit 0, nat_lit 22, nat_lit 5), (nat_lit 0, nat_lit 23, nat_lit 6), (nat_lit 0, nat_lit 24, nat_lit 7), (nat_lit 0, nat_lit 25, nat_lit 8), (nat_lit 0, nat_lit 26, nat_lit 9), (nat_lit 0, nat_lit 27, nat_lit 10), (nat_lit 0, nat_lit 28, nat_lit 11), (nat_lit 0, nat_lit 29, nat_lit 12), (nat_lit 0, nat_lit 30, nat_lit 13), (nat_lit 0, nat_lit 31, nat_lit 14), (nat_lit 0, nat_lit 32, nat_lit 15), (nat_lit 0, nat_lit 33, nat_lit 16), (nat_lit 0, nat_lit 34, nat_lit 17), (nat_lit 0, nat_lit 35, nat_lit 18), (nat_lit 0, nat_lit 36, nat_lit 19), (nat_lit 0, nat_lit 37, nat_lit 20), (nat_lit 0, nat_lit 38, nat_lit 21), (nat_lit 0, nat_lit 39, nat_lit 22), (nat_lit 0, nat_lit 40, nat_lit 23), (nat_lit 0, nat_lit 47, nat_lit 24), (nat_lit 0, nat_lit 48, nat_lit 25), (nat_lit 0, nat_lit 50, nat_lit 26), (nat_lit 0, nat_lit 51, nat_lit 27), (nat_lit 0, nat_lit 52, nat_lit 28), (nat_lit 0, nat_lit 53, nat_lit 29), (nat_lit 0, nat_lit 54, nat_lit 30), (nat_lit 0, nat_lit 55, nat_lit 31), (nat_lit 0, nat_lit 56, nat_lit 32), (nat_lit 0, nat_lit 57, nat_lit 33), (nat_lit 0, nat_lit 58, nat_lit 34), (nat_lit 0, nat_lit 59, nat_lit 35), (nat_lit 0, nat_lit 72, nat_lit 36), (nat_lit 0, nat_lit 73, nat_lit 37), (nat_lit 0, nat_lit 76, nat_lit 38), (nat_lit 0, nat_lit 77, nat_lit 39), (nat_lit 0, nat_lit 79, nat_lit 40), (nat_lit 0, nat_lit 81, nat_lit 41), (nat_lit 0, nat_lit 82, nat_lit 42)], [])]) (cu := zUne_text) (cs := [(nat_lit 0, zPne_plain, zOne_plain, zMne_plain), (nat_lit 1, zPne_token, zOne_token, zMne_token), (nat_lit 2, zPne_lineRead, zOne_lineRead, zMne_lineRead), (nat_lit 3, zPne_keepText, zOne_keepText, zMne_keepText)]) (iv := zVne_text) (po := [zOne_text]) (pr := zPne_text) (mods := zMne_text) (D7 := zDne_text) (D0 := zEne_text) (Dm := zFne_text) (f0 := 35) pCne_text qCne_text iCne_text pPne_text (fun xs η _ y η' => pQne_text xs η y η') zX_low pr_mtR rfl (List.forall_mem_cons.mpr ⟨zne_plain, List.forall_mem_cons.mpr ⟨zne_token, List.forall_mem_cons.mpr ⟨zne_lineRead, List.forall_mem_cons.mpr ⟨zne_keepText, fun _ h => nomatch h⟩⟩⟩⟩) (by decide +kernel) (by decide +kernel) (by decide +kernel)
    (by
      intro xs η hr hl hp hpp
      match xs, hl, hp, hpp with
      | [x1], _, hp, hpp =>
        refine List.forall_mem_cons.mpr ⟨?_, List.forall_mem_cons.mpr ⟨?_, List.forall_mem_cons.mpr ⟨?_, List.forall_mem_cons.mpr ⟨?_, List.forall_mem_cons.mpr ⟨?_, fun _ h => nomatch h⟩⟩⟩⟩⟩
        · refine zden_L (n := 2) (ρ := [x1, 0]) rfl ?_
          exact zne_text_o0 (ro := ro) x1 η hp hpp
        · refine zden_L (n := 2) (ρ := [x1, 0]) rfl ?_
          exact zne_text_o1 (ro := ro) x1 η hp hpp
        · refine zden_L (n := 2) (ρ := [x1, 0]) rfl ?_
          exact zne_text_o2 (ro := ro) x1 η hp hpp
        · refine zden_L (n := 2) (ρ := [x1, 0]) rfl ?_
          exact zne_text_o3 (ro := ro) x1 η hp hpp
        · refine zden_L (n := 2) (ρ := [x1, 0]) rfl ?_
          exact zne_text_o4 (ro := ro) x1 η hp hpp
      )
    (fun _ _ _ _ _ _ _ h => nomatch h)
    (List.forall_mem_cons.mpr ⟨⟨zDne_text_0, zEne_text_0, zFne_text_0, 13, by decide +kernel, (by
      intro xs η0 hlx hp hpp ys η hr hl hI hig
      match ys, hl, hI, hig with
      | [x1, x2], _, hI, hig =>
        refine ⟨?_, ?_⟩
        · refine List.forall_mem_cons.mpr ⟨?_, List.forall_mem_cons.mpr ⟨?_, List.forall_mem_cons.mpr ⟨?_, List.forall_mem_cons.mpr ⟨?_, fun _ h => nomatch h⟩⟩⟩⟩
          · refine zden_L (n := 3) (ρ := [x2, x1, 0]) rfl ?_
            exact zne_text_o5 (ro := ro) xs η0 hp hpp x1 x2 η hI hig
          · refine zden_L (n := 3) (ρ := [x2, x1, 0]) rfl ?_
            exact zne_text_o6 (ro := ro) xs η0 hp hpp x1 x2 η hI hig
          · refine zden_L (n := 3) (ρ := [x2, x1, 0]) rfl ?_
            exact zne_text_o7 (ro := ro) xs η0 hp hpp x1 x2 η hI hig
          · refine zden_L (n := 3) (ρ := [x2, x1, 0]) rfl ?_
            exact zne_text_o8 (ro := ro) xs η0 hp hpp x1 x2 η hI hig
        · refine List.forall_mem_cons.mpr ⟨?_, fun _ h => nomatch h⟩
          · refine zden_L (n := 3) (ρ := [x2, x1, 0]) rfl ?_
            exact zne_text_o9 (ro := ro) xs η0 hp hpp x1 x2 η hI hig
      )⟩, (fun _ h => nomatch h)⟩))
