set_option maxHeartbeats 8000000 in
theorem zne_keepText_o0 {ro : Nat → List Int32} (η : zE) (hp : sP wl_ne zTr zPne_keepText [] η) (hpp : pPne_keepText [] η) : ∀ x1 : Int, x1 = η 0 (Int.toNat 16) → zok 0 x1 → ∀ η1 : zE, η1 = zup η 0 (Int.toNat 12) x1 → ∀ x2 : Int, x2 = η1 0 (Int.toNat 17) → zok 0 x2 → ∀ η2 : zE, η2 = zup η1 0 (Int.toNat 13) x2 → ∀ x3 : Int, x3 = η2 0 (Int.toNat 18) → zok 0 x3 → ∀ η3 : zE, η3 = zup η2 0 (Int.toNat 14) x3 → ∀ x4 : Int, x4 = η3 0 (Int.toNat 19) → zok 0 x4 → ∀ η4 : zE, η4 = zup η3 0 (Int.toNat 15) x4 → ∀ (x5 : Int) (η5 : zE), ((gC2 wl_ne [(nat_lit 0, zPne_copies_4, zOne_copies_4, zMne_copies_4), (nat_lit 1, zPne_copies_7, zOne_copies_7, zMne_copies_7), (nat_lit 2, zPne_copies_8, zOne_copies_8, zMne_copies_8), (nat_lit 3, zPne_copies_9, zOne_copies_9, zMne_copies_9), (nat_lit 4, zPne_copies_10, zOne_copies_10, zMne_copies_10), (nat_lit 5, zPne_copies_11, zOne_copies_11, zMne_copies_11), (nat_lit 6, zPne_copies_12, zOne_copies_12, zMne_copies_12), (nat_lit 7, zPne_copies_13, zOne_copies_13, zMne_copies_13), (nat_lit 8, zPne_copies_14, zOne_copies_14, zMne_copies_14), (nat_lit 9, zPne_copies_15, zOne_copies_15, zMne_copies_15), (nat_lit 10, zPne_copies_5, zOne_copies_5, zMne_copies_5), (nat_lit 11, zPne_copies_6, zOne_copies_6, zMne_copies_6), (nat_lit 12, zPne_copies_17, zOne_copies_17, zMne_copies_17), (nat_lit 13, zPne_copies_18, zOne_copies_18, zMne_copies_18), (nat_lit 14, zPne_copies_19, zOne_copies_19, zMne_copies_19), (nat_lit 15, zPne_copies_20, zOne_copies_20, zMne_copies_20), (nat_lit 16, zPne_copies_21, zOne_copies_21, zMne_copies_21), (nat_lit 17, zPne_begin, zOne_begin, zMne_begin)] pCne_keepText qCne_keepText) 0).2 [] η4 x5 η5 → ∀ (x6 : Int) (η6 : zE), ((gC2 wl_ne [(nat_lit 0, zPne_copies_4, zOne_copies_4, zMne_copies_4), (nat_lit 1, zPne_copies_7, zOne_copies_7, zMne_copies_7), (nat_lit 2, zPne_copies_8, zOne_copies_8, zMne_copies_8), (nat_lit 3, zPne_copies_9, zOne_copies_9, zMne_copies_9), (nat_lit 4, zPne_copies_10, zOne_copies_10, zMne_copies_10), (nat_lit 5, zPne_copies_11, zOne_copies_11, zMne_copies_11), (nat_lit 6, zPne_copies_12, zOne_copies_12, zMne_copies_12), (nat_lit 7, zPne_copies_13, zOne_copies_13, zMne_copies_13), (nat_lit 8, zPne_copies_14, zOne_copies_14, zMne_copies_14), (nat_lit 9, zPne_copies_15, zOne_copies_15, zMne_copies_15), (nat_lit 10, zPne_copies_5, zOne_copies_5, zMne_copies_5), (nat_lit 11, zPne_copies_6, zOne_copies_6, zMne_copies_6), (nat_lit 12, zPne_copies_17, zOne_copies_17, zMne_copies_17), (nat_lit 13, zPne_copies_18, zOne_copies_18, zMne_copies_18), (nat_lit 14, zPne_copies_19, zOne_copies_19, zMne_copies_19), (nat_lit 15, zPne_copies_20, zOne_copies_20, zMne_copies_20), (nat_lit 16, zPne_copies_21, zOne_copies_21, zMne_copies_21), (nat_lit 17, zPne_begin, zOne_begin, zMne_begin)] pCne_keepText qCne_keepText) 10).2 [] η5 x6 η6 → ((gC2 wl_ne [(nat_lit 0, zPne_copies_4, zOne_copies_4, zMne_copies_4), (nat_lit 1, zPne_copies_7, zOne_copies_7, zMne_copies_7), (nat_lit 2, zPne_copies_8, zOne_copies_8, zMne_copies_8), (nat_lit 3, zPne_copies_9, zOne_copies_9, zMne_copies_9), (nat_lit 4, zPne_copies_10, zOne_copies_10, zMne_copies_10), (nat_lit 5, zPne_copies_11, zOne_copies_11, zMne_copies_11), (nat_lit 6, zPne_copies_12, zOne_copies_12, zMne_copies_12), (nat_lit 7, zPne_copies_13, zOne_copies_13, zMne_copies_13), (nat_lit 8, zPne_copies_14, zOne_copies_14, zMne_copies_14), (nat_lit 9, zPne_copies_15, zOne_copies_15, zMne_copies_15), (nat_lit 10, zPne_copies_5, zOne_copies_5, zMne_copies_5), (nat_lit 11, zPne_copies_6, zOne_copies_6, zMne_copies_6), (nat_lit 12, zPne_copies_17, zOne_copies_17, zMne_copies_17), (nat_lit 13, zPne_copies_18, zOne_copies_18, zMne_copies_18), (nat_lit 14, zPne_copies_19, zOne_copies_19, zMne_copies_19), (nat_lit 15, zPne_copies_20, zOne_copies_20, zMne_copies_20), (nat_lit 16, zPne_copies_21, zOne_copies_21, zMne_copies_21), (nat_lit 17, zPne_begin, zOne_begin, zMne_begin)] pCne_keepText qCne_keepText) 11).1 [] η6 := by
  intro x1 e1 r1 η1 eη1 x2 e2 r2 η2 eη2 x3 e3 r3 η3 eη3 x4 e4 r4 η4 eη4 x5 η5 h5 x6 η6 h6
  have k5 : sQ wl_ne zTr zOne_copies_4 zMne_copies_4 [] η4 x5 η5 ∧ pQne_copies_4 [] η4 x5 η5 := h5
  have k6 : sQ wl_ne zTr zOne_copies_5 zMne_copies_5 [] η5 x6 η6 ∧ pQne_copies_5 [] η5 x6 η6 := h6
  exact trivial
set_option maxHeartbeats 8000000 in
theorem zne_keepText_o1 {ro : Nat → List Int32} (η : zE) (hp : sP wl_ne zTr zPne_keepText [] η) (hpp : pPne_keepText [] η) : ∀ x1 : Int, x1 = η 0 (Int.toNat 16) → zok 0 x1 → ∀ η1 : zE, η1 = zup η 0 (Int.toNat 12) x1 → ∀ x2 : Int, x2 = η1 0 (Int.toNat 17) → zok 0 x2 → ∀ η2 : zE, η2 = zup η1 0 (Int.toNat 13) x2 → ∀ x3 : Int, x3 = η2 0 (Int.toNat 18) → zok 0 x3 → ∀ η3 : zE, η3 = zup η2 0 (Int.toNat 14) x3 → ∀ x4 : Int, x4 = η3 0 (Int.toNat 19) → zok 0 x4 → ∀ η4 : zE, η4 = zup η3 0 (Int.toNat 15) x4 → ∀ (x5 : Int) (η5 : zE), ((gC2 wl_ne [(nat_lit 0, zPne_copies_4, zOne_copies_4, zMne_copies_4), (nat_lit 1, zPne_copies_7, zOne_copies_7, zMne_copies_7), (nat_lit 2, zPne_copies_8, zOne_copies_8, zMne_copies_8), (nat_lit 3, zPne_copies_9, zOne_copies_9, zMne_copies_9), (nat_lit 4, zPne_copies_10, zOne_copies_10, zMne_copies_10), (nat_lit 5, zPne_copies_11, zOne_copies_11, zMne_copies_11), (nat_lit 6, zPne_copies_12, zOne_copies_12, zMne_copies_12), (nat_lit 7, zPne_copies_13, zOne_copies_13, zMne_copies_13), (nat_lit 8, zPne_copies_14, zOne_copies_14, zMne_copies_14), (nat_lit 9, zPne_copies_15, zOne_copies_15, zMne_copies_15), (nat_lit 10, zPne_copies_5, zOne_copies_5, zMne_copies_5), (nat_lit 11, zPne_copies_6, zOne_copies_6, zMne_copies_6), (nat_lit 12, zPne_copies_17, zOne_copies_17, zMne_copies_17), (nat_lit 13, zPne_copies_18, zOne_copies_18, zMne_copies_18), (nat_lit 14, zPne_copies_19, zOne_copies_19, zMne_copies_19), (nat_lit 15, zPne_copies_20, zOne_copies_20, zMne_copies_20), (nat_lit 16, zPne_copies_21, zOne_copies_21, zMne_copies_21), (nat_lit 17, zPne_begin, zOne_begin, zMne_begin)] pCne_keepText qCne_keepText) 0).2 [] η4 x5 η5 → ∀ (x6 : Int) (η6 : zE), ((gC2 wl_ne [(nat_lit 0, zPne_copies_4, zOne_copies_4, zMne_copies_4), (nat_lit 1, zPne_copies_7, zOne_copies_7, zMne_copies_7), (nat_lit 2, zPne_copies_8, zOne_copies_8, zMne_copies_8), (nat_lit 3, zPne_copies_9, zOne_copies_9, zMne_copies_9), (nat_lit 4, zPne_copies_10, zOne_copies_10, zMne_copies_10), (nat_lit 5, zPne_copies_11, zOne_copies_11, zMne_copies_11), (nat_lit 6, zPne_copies_12, zOne_copies_12, zMne_copies_12), (nat_lit 7, zPne_copies_13, zOne_copies_13, zMne_copies_13), (nat_lit 8, zPne_copies_14, zOne_copies_14, zMne_copies_14), (nat_lit 9, zPne_copies_15, zOne_copies_15, zMne_copies_15), (nat_lit 10, zPne_copies_5, zOne_copies_5, zMne_copies_5), (nat_lit 11, zPne_copies_6, zOne_copies_6, zMne_copies_6), (nat_lit 12, zPne_copies_17, zOne_copies_17, zMne_copies_17), (nat_lit 13, zPne_copies_18, zOne_copies_18, zMne_copies_18), (nat_lit 14, zPne_copies_19, zOne_copies_19, zMne_copies_19), (nat_lit 15, zPne_copies_20, zOne_copies_20, zMne_copies_20), (nat_lit 16, zPne_copies_21, zOne_copies_21, zMne_copies_21), (nat_lit 17, zPne_begin, zOne_begin, zMne_begin)] pCne_keepText qCne_keepText) 10).2 [] η5 x6 η6 → ∀ (x7 : Int) (η7 : zE), ((gC2 wl_ne [(nat_lit 0, zPne_copies_4, zOne_copies_4, zMne_copies_4), (nat_lit 1, zPne_copies_7, zOne_copies_7, zMne_copies_7), (nat_lit 2, zPne_copies_8, zOne_copies_8, zMne_copies_8), (nat_lit 3, zPne_copies_9, zOne_copies_9, zMne_copies_9), (nat_lit 4, zPne_copies_10, zOne_copies_10, zMne_copies_10), (nat_lit 5, zPne_copies_11, zOne_copies_11, zMne_copies_11), (nat_lit 6, zPne_copies_12, zOne_copies_12, zMne_copies_12), (nat_lit 7, zPne_copies_13, zOne_copies_13, zMne_copies_13), (nat_lit 8, zPne_copies_14, zOne_copies_14, zMne_copies_14), (nat_lit 9, zPne_copies_15, zOne_copies_15, zMne_copies_15), (nat_lit 10, zPne_copies_5, zOne_copies_5, zMne_copies_5), (nat_lit 11, zPne_copies_6, zOne_copies_6, zMne_copies_6), (nat_lit 12, zPne_copies_17, zOne_copies_17, zMne_copies_17), (nat_lit 13, zPne_copies_18, zOne_copies_18, zMne_copies_18), (nat_lit 14, zPne_copies_19, zOne_copies_19, zMne_copies_19), (nat_lit 15, zPne_copies_20, zOne_copies_20, zMne_copies_20), (nat_lit 16, zPne_copies_21, zOne_copies_21, zMne_copies_21), (nat_lit 17, zPne_begin, zOne_begin, zMne_begin)] pCne_keepText qCne_keepText) 11).2 [] η6 x7 η7 → ((gC2 wl_ne [(nat_lit 0, zPne_copies_4, zOne_copies_4, zMne_copies_4), (nat_lit 1, zPne_copies_7, zOne_copies_7, zMne_copies_7), (nat_lit 2, zPne_copies_8, zOne_copies_8, zMne_copies_8), (nat_lit 3, zPne_copies_9, zOne_copies_9, zMne_copies_9), (nat_lit 4, zPne_copies_10, zOne_copies_10, zMne_copies_10), (nat_lit 5, zPne_copies_11, zOne_copies_11, zMne_copies_11), (nat_lit 6, zPne_copies_12, zOne_copies_12, zMne_copies_12), (nat_lit 7, zPne_copies_13, zOne_copies_13, zMne_copies_13), (nat_lit 8, zPne_copies_14, zOne_copies_14, zMne_copies_14), (nat_lit 9, zPne_copies_15, zOne_copies_15, zMne_copies_15), (nat_lit 10, zPne_copies_5, zOne_copies_5, zMne_copies_5), (nat_lit 11, zPne_copies_6, zOne_copies_6, zMne_copies_6), (nat_lit 12, zPne_copies_17, zOne_copies_17, zMne_copies_17), (nat_lit 13, zPne_copies_18, zOne_copies_18, zMne_copies_18), (nat_lit 14, zPne_copies_19, zOne_copies_19, zMne_copies_19), (nat_lit 15, zPne_copies_20, zOne_copies_20, zMne_copies_20), (nat_lit 16, zPne_copies_21, zOne_copies_21, zMne_copies_21), (nat_lit 17, zPne_begin, zOne_begin, zMne_begin)] pCne_keepText qCne_keepText) 1).1 [] η7 := by
  intro x1 e1 r1 η1 eη1 x2 e2 r2 η2 eη2 x3 e3 r3 η3 eη3 x4 e4 r4 η4 eη4 x5 η5 h5 x6 η6 h6 x7 η7 h7
  have k5 : sQ wl_ne zTr zOne_copies_4 zMne_copies_4 [] η4 x5 η5 ∧ pQne_copies_4 [] η4 x5 η5 := h5
  have k6 : sQ wl_ne zTr zOne_copies_5 zMne_copies_5 [] η5 x6 η6 ∧ pQne_copies_5 [] η5 x6 η6 := h6
  have k7 : sQ wl_ne zTr zOne_copies_6 zMne_copies_6 [] η6 x7 η7 ∧ pQne_copies_6 [] η6 x7 η7 := h7
  exact trivial
set_option maxHeartbeats 8000000 in
theorem zne_keepText_o2 {ro : Nat → List Int32} (η : zE) (hp : sP wl_ne zTr zPne_keepText [] η) (hpp : pPne_keepText [] η) : ∀ x1 : Int, x1 = η 0 (Int.toNat 16) → zok 0 x1 → ∀ η1 : zE, η1 = zup η 0 (Int.toNat 12) x1 → ∀ x2 : Int, x2 = η1 0 (Int.toNat 17) → zok 0 x2 → ∀ η2 : zE, η2 = zup η1 0 (Int.toNat 13) x2 → ∀ x3 : Int, x3 = η2 0 (Int.toNat 18) → zok 0 x3 → ∀ η3 : zE, η3 = zup η2 0 (Int.toNat 14) x3 → ∀ x4 : Int, x4 = η3 0 (Int.toNat 19) → zok 0 x4 → ∀ η4 : zE, η4 = zup η3 0 (Int.toNat 15) x4 → ∀ (x5 : Int) (η5 : zE), ((gC2 wl_ne [(nat_lit 0, zPne_copies_4, zOne_copies_4, zMne_copies_4), (nat_lit 1, zPne_copies_7, zOne_copies_7, zMne_copies_7), (nat_lit 2, zPne_copies_8, zOne_copies_8, zMne_copies_8), (nat_lit 3, zPne_copies_9, zOne_copies_9, zMne_copies_9), (nat_lit 4, zPne_copies_10, zOne_copies_10, zMne_copies_10), (nat_lit 5, zPne_copies_11, zOne_copies_11, zMne_copies_11), (nat_lit 6, zPne_copies_12, zOne_copies_12, zMne_copies_12), (nat_lit 7, zPne_copies_13, zOne_copies_13, zMne_copies_13), (nat_lit 8, zPne_copies_14, zOne_copies_14, zMne_copies_14), (nat_lit 9, zPne_copies_15, zOne_copies_15, zMne_copies_15), (nat_lit 10, zPne_copies_5, zOne_copies_5, zMne_copies_5), (nat_lit 11, zPne_copies_6, zOne_copies_6, zMne_copies_6), (nat_lit 12, zPne_copies_17, zOne_copies_17, zMne_copies_17), (nat_lit 13, zPne_copies_18, zOne_copies_18, zMne_copies_18), (nat_lit 14, zPne_copies_19, zOne_copies_19, zMne_copies_19), (nat_lit 15, zPne_copies_20, zOne_copies_20, zMne_copies_20), (nat_lit 16, zPne_copies_21, zOne_copies_21, zMne_copies_21), (nat_lit 17, zPne_begin, zOne_begin, zMne_begin)] pCne_keepText qCne_keepText) 0).2 [] η4 x5 η5 → ∀ (x6 : Int) (η6 : zE), ((gC2 wl_ne [(nat_lit 0, zPne_copies_4, zOne_copies_4, zMne_copies_4), (nat_lit 1, zPne_copies_7, zOne_copies_7, zMne_copies_7), (nat_lit 2, zPne_copies_8, zOne_copies_8, zMne_copies_8), (nat_lit 3, zPne_copies_9, zOne_copies_9, zMne_copies_9), (nat_lit 4, zPne_copies_10, zOne_copies_10, zMne_copies_10), (nat_lit 5, zPne_copies_11, zOne_copies_11, zMne_copies_11), (nat_lit 6, zPne_copies_12, zOne_copies_12, zMne_copies_12), (nat_lit 7, zPne_copies_13, zOne_copies_13, zMne_copies_13), (nat_lit 8, zPne_copies_14, zOne_copies_14, zMne_copies_14), (nat_lit 9, zPne_copies_15, zOne_copies_15, zMne_copies_15), (nat_lit 10, zPne_copies_5, zOne_copies_5, zMne_copies_5), (nat_lit 11, zPne_copies_6, zOne_copies_6, zMne_copies_6), (nat_lit 12, zPne_copies_17, zOne_copies_17, zMne_copies_17), (nat_lit 13, zPne_copies_18, zOne_copies_18, zMne_copies_18), (nat_lit 14, zPne_copies_19, zOne_copies_19, zMne_copies_19), (nat_lit 15, zPne_copies_20, zOne_copies_20, zMne_copies_20), (nat_lit 16, zPne_copies_21, zOne_copies_21, zMne_copies_21), (nat_lit 17, zPne_begin, zOne_begin, zMne_begin)] pCne_keepText qCne_keepText) 10).2 [] η5 x6 η6 → ∀ (x7 : Int) (η7 : zE), ((gC2 wl_ne [(nat_lit 0, zPne_copies_4, zOne_copies_4, zMne_copies_4), (nat_lit 1, zPne_copies_7, zOne_copies_7, zMne_copies_7), (nat_lit 2, zPne_copies_8, zOne_copies_8, zMne_copies_8), (nat_lit 3, zPne_copies_9, zOne_copies_9, zMne_copies_9), (nat_lit 4, zPne_copies_10, zOne_copies_10, zMne_copies_10), (nat_lit 5, zPne_copies_11, zOne_copies_11, zMne_copies_11), (nat_lit 6, zPne_copies_12, zOne_copies_12, zMne_copies_12), (nat_lit 7, zPne_copies_13, zOne_copies_13, zMne_copies_13), (nat_lit 8, zPne_copies_14, zOne_copies_14, zMne_copies_14), (nat_lit 9, zPne_copies_15, zOne_copies_15, zMne_copies_15), (nat_lit 10, zPne_copies_5, zOne_copies_5, zMne_copies_5), (nat_lit 11, zPne_copies_6, zOne_copies_6, zMne_copies_6), (nat_lit 12, zPne_copies_17, zOne_copies_17, zMne_copies_17), (nat_lit 13, zPne_copies_18, zOne_copies_18, zMne_copies_18), (nat_lit 14, zPne_copies_19, zOne_copies_19, zMne_copies_19), (nat_lit 15, zPne_copies_20, zOne_copies_20, zMne_copies_20), (nat_lit 16, zPne_copies_21, zOne_copies_21, zMne_copies_21), (nat_lit 17, zPne_begin, zOne_begin, zMne_begin)] pCne_keepText qCne_keepText) 11).2 [] η6 x7 η7 → ∀ (x8 : Int) (η8 : zE), ((gC2 wl_ne [(nat_lit 0, zPne_copies_4, zOne_copies_4, zMne_copies_4), (nat_lit 1, zPne_copies_7, zOne_copies_7, zMne_copies_7), (nat_lit 2, zPne_copies_8, zOne_copies_8, zMne_copies_8), (nat_lit 3, zPne_copies_9, zOne_copies_9, zMne_copies_9), (nat_lit 4, zPne_copies_10, zOne_copies_10, zMne_copies_10), (nat_lit 5, zPne_copies_11, zOne_copies_11, zMne_copies_11), (nat_lit 6, zPne_copies_12, zOne_copies_12, zMne_copies_12), (nat_lit 7, zPne_copies_13, zOne_copies_13, zMne_copies_13), (nat_lit 8, zPne_copies_14, zOne_copies_14, zMne_copies_14), (nat_lit 9, zPne_copies_15, zOne_copies_15, zMne_copies_15), (nat_lit 10, zPne_copies_5, zOne_copies_5, zMne_copies_5), (nat_lit 11, zPne_copies_6, zOne_copies_6, zMne_copies_6), (nat_lit 12, zPne_copies_17, zOne_copies_17, zMne_copies_17), (nat_lit 13, zPne_copies_18, zOne_copies_18, zMne_copies_18), (nat_lit 14, zPne_copies_19, zOne_copies_19, zMne_copies_19), (nat_lit 15, zPne_copies_20, zOne_copies_20, zMne_copies_20), (nat_lit 16, zPne_copies_21, zOne_copies_21, zMne_copies_21), (nat_lit 17, zPne_begin, zOne_begin, zMne_begin)] pCne_keepText qCne_keepText) 1).2 [] η7 x8 η8 → ((gC2 wl_ne [(nat_lit 0, zPne_copies_4, zOne_copies_4, zMne_copies_4), (nat_lit 1, zPne_copies_7, zOne_copies_7, zMne_copies_7), (nat_lit 2, zPne_copies_8, zOne_copies_8, zMne_copies_8), (nat_lit 3, zPne_copies_9, zOne_copies_9, zMne_copies_9), (nat_lit 4, zPne_copies_10, zOne_copies_10, zMne_copies_10), (nat_lit 5, zPne_copies_11, zOne_copies_11, zMne_copies_11), (nat_lit 6, zPne_copies_12, zOne_copies_12, zMne_copies_12), (nat_lit 7, zPne_copies_13, zOne_copies_13, zMne_copies_13), (nat_lit 8, zPne_copies_14, zOne_copies_14, zMne_copies_14), (nat_lit 9, zPne_copies_15, zOne_copies_15, zMne_copies_15), (nat_lit 10, zPne_copies_5, zOne_copies_5, zMne_copies_5), (nat_lit 11, zPne_copies_6, zOne_copies_6, zMne_copies_6), (nat_lit 12, zPne_copies_17, zOne_copies_17, zMne_copies_17), (nat_lit 13, zPne_copies_18, zOne_copies_18, zMne_copies_18), (nat_lit 14, zPne_copies_19, zOne_copies_19, zMne_copies_19), (nat_lit 15, zPne_copies_20, zOne_copies_20, zMne_copies_20), (nat_lit 16, zPne_copies_21, zOne_copies_21, zMne_copies_21), (nat_lit 17, zPne_begin, zOne_begin, zMne_begin)] pCne_keepText qCne_keepText) 2).1 [] η8 := by
  intro x1 e1 r1 η1 eη1 x2 e2 r2 η2 eη2 x3 e3 r3 η3 eη3 x4 e4 r4 η4 eη4 x5 η5 h5 x6 η6 h6 x7 η7 h7 x8 η8 h8
  have k5 : sQ wl_ne zTr zOne_copies_4 zMne_copies_4 [] η4 x5 η5 ∧ pQne_copies_4 [] η4 x5 η5 := h5
  have k6 : sQ wl_ne zTr zOne_copies_5 zMne_copies_5 [] η5 x6 η6 ∧ pQne_copies_5 [] η5 x6 η6 := h6
  have k7 : sQ wl_ne zTr zOne_copies_6 zMne_copies_6 [] η6 x7 η7 ∧ pQne_copies_6 [] η6 x7 η7 := h7
  have k8 : sQ wl_ne zTr zOne_copies_7 zMne_copies_7 [] η7 x8 η8 ∧ pQne_copies_7 [] η7 x8 η8 := h8
  exact trivial
set_option maxHeartbeats 8000000 in
theorem zne_keepText_o3 {ro : Nat → List Int32} (η : zE) (hp : sP wl_ne zTr zPne_keepText [] η) (hpp : pPne_keepText [] η) : ∀ x1 : Int, x1 = η 0 (Int.toNat 16) → zok 0 x1 → ∀ η1 : zE, η1 = zup η 0 (Int.toNat 12) x1 → ∀ x2 : Int, x2 = η1 0 (Int.toNat 17) → zok 0 x2 → ∀ η2 : zE, η2 = zup η1 0 (Int.toNat 13) x2 → ∀ x3 : Int, x3 = η2 0 (Int.toNat 18) → zok 0 x3 → ∀ η3 : zE, η3 = zup η2 0 (Int.toNat 14) x3 → ∀ x4 : Int, x4 = η3 0 (Int.toNat 19) → zok 0 x4 → ∀ η4 : zE, η4 = zup η3 0 (Int.toNat 15) x4 → ∀ (x5 : Int) (η5 : zE), ((gC2 wl_ne [(nat_lit 0, zPne_copies_4, zOne_copies_4, zMne_copies_4), (nat_lit 1, zPne_copies_7, zOne_copies_7, zMne_copies_7), (nat_lit 2, zPne_copies_8, zOne_copies_8, zMne_copies_8), (nat_lit 3, zPne_copies_9, zOne_copies_9, zMne_copies_9), (nat_lit 4, zPne_copies_10, zOne_copies_10, zMne_copies_10), (nat_lit 5, zPne_copies_11, zOne_copies_11, zMne_copies_11), (nat_lit 6, zPne_copies_12, zOne_copies_12, zMne_copies_12), (nat_lit 7, zPne_copies_13, zOne_copies_13, zMne_copies_13), (nat_lit 8, zPne_copies_14, zOne_copies_14, zMne_copies_14), (nat_lit 9, zPne_copies_15, zOne_copies_15, zMne_copies_15), (nat_lit 10, zPne_copies_5, zOne_copies_5, zMne_copies_5), (nat_lit 11, zPne_copies_6, zOne_copies_6, zMne_copies_6), (nat_lit 12, zPne_copies_17, zOne_copies_17, zMne_copies_17), (nat_lit 13, zPne_copies_18, zOne_copies_18, zMne_copies_18), (nat_lit 14, zPne_copies_19, zOne_copies_19, zMne_copies_19), (nat_lit 15, zPne_copies_20, zOne_copies_20, zMne_copies_20), (nat_lit 16, zPne_copies_21, zOne_copies_21, zMne_copies_21), (nat_lit 17, zPne_begin, zOne_begin, zMne_begin)] pCne_keepText qCne_keepText) 0).2 [] η4 x5 η5 → ∀ (x6 : Int) (η6 : zE), ((gC2 wl_ne [(nat_lit 0, zPne_copies_4, zOne_copies_4, zMne_copies_4), (nat_lit 1, zPne_copies_7, zOne_copies_7, zMne_copies_7), (nat_lit 2, zPne_copies_8, zOne_copies_8, zMne_copies_8), (nat_lit 3, zPne_copies_9, zOne_copies_9, zMne_copies_9), (nat_lit 4, zPne_copies_10, zOne_copies_10, zMne_copies_10), (nat_lit 5, zPne_copies_11, zOne_copies_11, zMne_copies_11), (nat_lit 6, zPne_copies_12, zOne_copies_12, zMne_copies_12), (nat_lit 7, zPne_copies_13, zOne_copies_13, zMne_copies_13), (nat_lit 8, zPne_copies_14, zOne_copies_14, zMne_copies_14), (nat_lit 9, zPne_copies_15, zOne_copies_15, zMne_copies_15), (nat_lit 10, zPne_copies_5, zOne_copies_5, zMne_copies_5), (nat_lit 11, zPne_copies_6, zOne_copies_6, zMne_copies_6), (nat_lit 12, zPne_copies_17, zOne_copies_17, zMne_copies_17), (nat_lit 13, zPne_copies_18, zOne_copies_18, zMne_copies_18), (nat_lit 14, zPne_copies_19, zOne_copies_19, zMne_copies_19), (nat_lit 15, zPne_copies_20, zOne_copies_20, zMne_copies_20), (nat_lit 16, zPne_copies_21, zOne_copies_21, zMne_copies_21), (nat_lit 17, zPne_begin, zOne_begin, zMne_begin)] pCne_keepText qCne_keepText) 10).2 [] η5 x6 η6 → ∀ (x7 : Int) (η7 : zE), ((gC2 wl_ne [(nat_lit 0, zPne_copies_4, zOne_copies_4, zMne_copies_4), (nat_lit 1, zPne_copies_7, zOne_copies_7, zMne_copies_7), (nat_lit 2, zPne_copies_8, zOne_copies_8, zMne_copies_8), (nat_lit 3, zPne_copies_9, zOne_copies_9, zMne_copies_9), (nat_lit 4, zPne_copies_10, zOne_copies_10, zMne_copies_10), (nat_lit 5, zPne_copies_11, zOne_copies_11, zMne_copies_11), (nat_lit 6, zPne_copies_12, zOne_copies_12, zMne_copies_12), (nat_lit 7, zPne_copies_13, zOne_copies_13, zMne_copies_13), (nat_lit 8, zPne_copies_14, zOne_copies_14, zMne_copies_14), (nat_lit 9, zPne_copies_15, zOne_copies_15, zMne_copies_15), (nat_lit 10, zPne_copies_5, zOne_copies_5, zMne_copies_5), (nat_lit 11, zPne_copies_6, zOne_copies_6, zMne_copies_6), (nat_lit 12, zPne_copies_17, zOne_copies_17, zMne_copies_17), (nat_lit 13, zPne_copies_18, zOne_copies_18, zMne_copies_18), (nat_lit 14, zPne_copies_19, zOne_copies_19, zMne_copies_19), (nat_lit 15, zPne_copies_20, zOne_copies_20, zMne_copies_20), (nat_lit 16, zPne_copies_21, zOne_copies_21, zMne_copies_21), (nat_lit 17, zPne_begin, zOne_begin, zMne_begin)] pCne_keepText qCne_keepText) 11).2 [] η6 x7 η7 → ∀ (x8 : Int) (η8 : zE), ((gC2 wl_ne [(nat_lit 0, zPne_copies_4, zOne_copies_4, zMne_copies_4), (nat_lit 1, zPne_copies_7, zOne_copies_7, zMne_copies_7), (nat_lit 2, zPne_copies_8, zOne_copies_8, zMne_copies_8), (nat_lit 3, zPne_copies_9, zOne_copies_9, zMne_copies_9), (nat_lit 4, zPne_copies_10, zOne_copies_10, zMne_copies_10), (nat_lit 5, zPne_copies_11, zOne_copies_11, zMne_copies_11), (nat_lit 6, zPne_copies_12, zOne_copies_12, zMne_copies_12), (nat_lit 7, zPne_copies_13, zOne_copies_13, zMne_copies_13), (nat_lit 8, zPne_copies_14, zOne_copies_14, zMne_copies_14), (nat_lit 9, zPne_copies_15, zOne_copies_15, zMne_copies_15), (nat_lit 10, zPne_copies_5, zOne_copies_5, zMne_copies_5), (nat_lit 11, zPne_copies_6, zOne_copies_6, zMne_copies_6), (nat_lit 12, zPne_copies_17, zOne_copies_17, zMne_copies_17), (nat_lit 13, zPne_copies_18, zOne_copies_18, zMne_copies_18), (nat_lit 14, zPne_copies_19, zOne_copies_19, zMne_copies_19), (nat_lit 15, zPne_copies_20, zOne_copies_20, zMne_copies_20), (nat_lit 16, zPne_copies_21, zOne_copies_21, zMne_copies_21), (nat_lit 17, zPne_begin, zOne_begin, zMne_begin)] pCne_keepText qCne_keepText) 1).2 [] η7 x8 η8 → ∀ (x9 : Int) (η9 : zE), ((gC2 wl_ne [(nat_lit 0, zPne_copies_4, zOne_copies_4, zMne_copies_4), (nat_lit 1, zPne_copies_7, zOne_copies_7, zMne_copies_7), (nat_lit 2, zPne_copies_8, zOne_copies_8, zMne_copies_8), (nat_lit 3, zPne_copies_9, zOne_copies_9, zMne_copies_9), (nat_lit 4, zPne_copies_10, zOne_copies_10, zMne_copies_10), (nat_lit 5, zPne_copies_11, zOne_copies_11, zMne_copies_11), (nat_lit 6, zPne_copies_12, zOne_copies_12, zMne_copies_12), (nat_lit 7, zPne_copies_13, zOne_copies_13, zMne_copies_13), (nat_lit 8, zPne_copies_14, zOne_copies_14, zMne_copies_14), (nat_lit 9, zPne_copies_15, zOne_copies_15, zMne_copies_15), (nat_lit 10, zPne_copies_5, zOne_copies_5, zMne_copies_5), (nat_lit 11, zPne_copies_6, zOne_copies_6, zMne_copies_6), (nat_lit 12, zPne_copies_17, zOne_copies_17, zMne_copies_17), (nat_lit 13, zPne_copies_18, zOne_copies_18, zMne_copies_18), (nat_lit 14, zPne_copies_19, zOne_copies_19, zMne_copies_19), (nat_lit 15, zPne_copies_20, zOne_copies_20, zMne_copies_20), (nat_lit 16, zPne_copies_21, zOne_copies_21, zMne_copies_21), (nat_lit 17, zPne_begin, zOne_begin, zMne_begin)] pCne_keepText qCne_keepText) 2).2 [] η8 x9 η9 → ((gC2 wl_ne [(nat_lit 0, zPne_copies_4, zOne_copies_4, zMne_copies_4), (nat_lit 1, zPne_copies_7, zOne_copies_7, zMne_copies_7), (nat_lit 2, zPne_copies_8, zOne_copies_8, zMne_copies_8), (nat_lit 3, zPne_copies_9, zOne_copies_9, zMne_copies_9), (nat_lit 4, zPne_copies_10, zOne_copies_10, zMne_copies_10), (nat_lit 5, zPne_copies_11, zOne_copies_11, zMne_copies_11), (nat_lit 6, zPne_copies_12, zOne_copies_12, zMne_copies_12), (nat_lit 7, zPne_copies_13, zOne_copies_13, zMne_copies_13), (nat_lit 8, zPne_copies_14, zOne_copies_14, zMne_copies_14), (nat_lit 9, zPne_copies_15, zOne_copies_15, zMne_copies_15), (nat_lit 10, zPne_copies_5, zOne_copies_5, zMne_copies_5), (nat_lit 11, zPne_copies_6, zOne_copies_6, zMne_copies_6), (nat_lit 12, zPne_copies_17, zOne_copies_17, zMne_copies_17), (nat_lit 13, zPne_copies_18, zOne_copies_18, zMne_copies_18), (nat_lit 14, zPne_copies_19, zOne_copies_19, zMne_copies_19), (nat_lit 15, zPne_copies_20, zOne_copies_20, zMne_copies_20), (nat_lit 16, zPne_copies_21, zOne_copies_21, zMne_copies_21), (nat_lit 17, zPne_begin, zOne_begin, zMne_begin)] pCne_keepText qCne_keepText) 3).1 [] η9 := by
  intro x1 e1 r1 η1 eη1 x2 e2 r2 η2 eη2 x3 e3 r3 η3 eη3 x4 e4 r4 η4 eη4 x5 η5 h5 x6 η6 h6 x7 η7 h7 x8 η8 h8 x9 η9 h9
  have k5 : sQ wl_ne zTr zOne_copies_4 zMne_copies_4 [] η4 x5 η5 ∧ pQne_copies_4 [] η4 x5 η5 := h5
  have k6 : sQ wl_ne zTr zOne_copies_5 zMne_copies_5 [] η5 x6 η6 ∧ pQne_copies_5 [] η5 x6 η6 := h6
  have k7 : sQ wl_ne zTr zOne_copies_6 zMne_copies_6 [] η6 x7 η7 ∧ pQne_copies_6 [] η6 x7 η7 := h7
  have k8 : sQ wl_ne zTr zOne_copies_7 zMne_copies_7 [] η7 x8 η8 ∧ pQne_copies_7 [] η7 x8 η8 := h8
  have k9 : sQ wl_ne zTr zOne_copies_8 zMne_copies_8 [] η8 x9 η9 ∧ pQne_copies_8 [] η8 x9 η9 := h9
  exact trivial
set_option maxHeartbeats 8000000 in
theorem zne_keepText_o4 {ro : Nat → List Int32} (η : zE) (hp : sP wl_ne zTr zPne_keepText [] η) (hpp : pPne_keepText [] η) : ∀ x1 : Int, x1 = η 0 (Int.toNat 16) → zok 0 x1 → ∀ η1 : zE, η1 = zup η 0 (Int.toNat 12) x1 → ∀ x2 : Int, x2 = η1 0 (Int.toNat 17) → zok 0 x2 → ∀ η2 : zE, η2 = zup η1 0 (Int.toNat 13) x2 → ∀ x3 : Int, x3 = η2 0 (Int.toNat 18) → zok 0 x3 → ∀ η3 : zE, η3 = zup η2 0 (Int.toNat 14) x3 → ∀ x4 : Int, x4 = η3 0 (Int.toNat 19) → zok 0 x4 → ∀ η4 : zE, η4 = zup η3 0 (Int.toNat 15) x4 → ∀ (x5 : Int) (η5 : zE), ((gC2 wl_ne [(nat_lit 0, zPne_copies_4, zOne_copies_4, zMne_copies_4), (nat_lit 1, zPne_copies_7, zOne_copies_7, zMne_copies_7), (nat_lit 2, zPne_copies_8, zOne_copies_8, zMne_copies_8), (nat_lit 3, zPne_copies_9, zOne_copies_9, zMne_copies_9), (nat_lit 4, zPne_copies_10, zOne_copies_10, zMne_copies_10), (nat_lit 5, zPne_copies_11, zOne_copies_11, zMne_copies_11), (nat_lit 6, zPne_copies_12, zOne_copies_12, zMne_copies_12), (nat_lit 7, zPne_copies_13, zOne_copies_13, zMne_copies_13), (nat_lit 8, zPne_copies_14, zOne_copies_14, zMne_copies_14), (nat_lit 9, zPne_copies_15, zOne_copies_15, zMne_copies_15), (nat_lit 10, zPne_copies_5, zOne_copies_5, zMne_copies_5), (nat_lit 11, zPne_copies_6, zOne_copies_6, zMne_copies_6), (nat_lit 12, zPne_copies_17, zOne_copies_17, zMne_copies_17), (nat_lit 13, zPne_copies_18, zOne_copies_18, zMne_copies_18), (nat_lit 14, zPne_copies_19, zOne_copies_19, zMne_copies_19), (nat_lit 15, zPne_copies_20, zOne_copies_20, zMne_copies_20), (nat_lit 16, zPne_copies_21, zOne_copies_21, zMne_copies_21), (nat_lit 17, zPne_begin, zOne_begin, zMne_begin)] pCne_keepText qCne_keepText) 0).2 [] η4 x5 η5 → ∀ (x6 : Int) (η6 : zE), ((gC2 wl_ne [(nat_lit 0, zPne_copies_4, zOne_copies_4, zMne_copies_4), (nat_lit 1, zPne_copies_7, zOne_copies_7, zMne_copies_7), (nat_lit 2, zPne_copies_8, zOne_copies_8, zMne_copies_8), (nat_lit 3, zPne_copies_9, zOne_copies_9, zMne_copies_9), (nat_lit 4, zPne_copies_10, zOne_copies_10, zMne_copies_10), (nat_lit 5, zPne_copies_11, zOne_copies_11, zMne_copies_11), (nat_lit 6, zPne_copies_12, zOne_copies_12, zMne_copies_12), (nat_lit 7, zPne_copies_13, zOne_copies_13, zMne_copies_13), (nat_lit 8, zPne_copies_14, zOne_copies_14, zMne_copies_14), (nat_lit 9, zPne_copies_15, zOne_copies_15, zMne_copies_15), (nat_lit 10, zPne_copies_5, zOne_copies_5, zMne_copies_5), (nat_lit 11, zPne_copies_6, zOne_copies_6, zMne_copies_6), (nat_lit 12, zPne_copies_17, zOne_copies_17, zMne_copies_17), (nat_lit 13, zPne_copies_18, zOne_copies_18, zMne_copies_18), (nat_lit 14, zPne_copies_19, zOne_copies_19, zMne_copies_19), (nat_lit 15, zPne_copies_20, zOne_copies_20, zMne_copies_20), (nat_lit 16, zPne_copies_21, zOne_copies_21, zMne_copies_21), (nat_lit 17, zPne_begin, zOne_begin, zMne_begin)] pCne_keepText qCne_keepText) 10).2 [] η5 x6 η6 → ∀ (x7 : Int) (η7 : zE), ((gC2 wl_ne [(nat_lit 0, zPne_copies_4, zOne_copies_4, zMne_copies_4), (nat_lit 1, zPne_copies_7, zOne_copies_7, zMne_copies_7), (nat_lit 2, zPne_copies_8, zOne_copies_8, zMne_copies_8), (nat_lit 3, zPne_copies_9, zOne_copies_9, zMne_copies_9), (nat_lit 4, zPne_copies_10, zOne_copies_10, zMne_copies_10), (nat_lit 5, zPne_copies_11, zOne_copies_11, zMne_copies_11), (nat_lit 6, zPne_copies_12, zOne_copies_12, zMne_copies_12), (nat_lit 7, zPne_copies_13, zOne_copies_13, zMne_copies_13), (nat_lit 8, zPne_copies_14, zOne_copies_14, zMne_copies_14), (nat_lit 9, zPne_copies_15, zOne_copies_15, zMne_copies_15), (nat_lit 10, zPne_copies_5, zOne_copies_5, zMne_copies_5), (nat_lit 11, zPne_copies_6, zOne_copies_6, zMne_copies_6), (nat_lit 12, zPne_copies_17, zOne_copies_17, zMne_copies_17), (nat_lit 13, zPne_copies_18, zOne_copies_18, zMne_copies_18), (nat_lit 14, zPne_copies_19, zOne_copies_19, zMne_copies_19), (nat_lit 15, zPne_copies_20, zOne_copies_20, zMne_copies_20), (nat_lit 16, zPne_copies_21, zOne_copies_21, zMne_copies_21), (nat_lit 17, zPne_begin, zOne_begin, zMne_begin)] pCne_keepText qCne_keepText) 11).2 [] η6 x7 η7 → ∀ (x8 : Int) (η8 : zE), ((gC2 wl_ne [(nat_lit 0, zPne_copies_4, zOne_copies_4, zMne_copies_4), (nat_lit 1, zPne_copies_7, zOne_copies_7, zMne_copies_7), (nat_lit 2, zPne_copies_8, zOne_copies_8, zMne_copies_8), (nat_lit 3, zPne_copies_9, zOne_copies_9, zMne_copies_9), (nat_lit 4, zPne_copies_10, zOne_copies_10, zMne_copies_10), (nat_lit 5, zPne_copies_11, zOne_copies_11, zMne_copies_11), (nat_lit 6, zPne_copies_12, zOne_copies_12, zMne_copies_12), (nat_lit 7, zPne_copies_13, zOne_copies_13, zMne_copies_13), (nat_lit 8, zPne_copies_14, zOne_copies_14, zMne_copies_14), (nat_lit 9, zPne_copies_15, zOne_copies_15, zMne_copies_15), (nat_lit 10, zPne_copies_5, zOne_copies_5, zMne_copies_5), (nat_lit 11, zPne_copies_6, zOne_copies_6, zMne_copies_6), (nat_lit 12, zPne_copies_17, zOne_copies_17, zMne_copies_17), (nat_lit 13, zPne_copies_18, zOne_copies_18, zMne_copies_18), (nat_lit 14, zPne_copies_19, zOne_copies_19, zMne_copies_19), (nat_lit 15, zPne_copies_20, zOne_copies_20, zMne_copies_20), (nat_lit 16, zPne_copies_21, zOne_copies_21, zMne_copies_21), (nat_lit 17, zPne_begin, zOne_begin, zMne_begin)] pCne_keepText qCne_keepText) 1).2 [] η7 x8 η8 → ∀ (x9 : Int) (η9 : zE), ((gC2 wl_ne [(nat_lit 0, zPne_copies_4, zOne_copies_4, zMne_copies_4), (nat_lit 1, zPne_copies_7, zOne_copies_7, zMne_copies_7), (nat_lit 2, zPne_copies_8, zOne_copies_8, zMne_copies_8), (nat_lit 3, zPne_copies_9, zOne_copies_9, zMne_copies_9), (nat_lit 4, zPne_copies_10, zOne_copies_10, zMne_copies_10), (nat_lit 5, zPne_copies_11, zOne_copies_11, zMne_copies_11), (nat_lit 6, zPne_copies_12, zOne_copies_12, zMne_copies_12), (nat_lit 7, zPne_copies_13, zOne_copies_13, zMne_copies_13), (nat_lit 8, zPne_copies_14, zOne_copies_14, zMne_copies_14), (nat_lit 9, zPne_copies_15, zOne_copies_15, zMne_copies_15), (nat_lit 10, zPne_copies_5, zOne_copies_5, zMne_copies_5), (nat_lit 11, zPne_copies_6, zOne_copies_6, zMne_copies_6), (nat_lit 12, zPne_copies_17, zOne_copies_17, zMne_copies_17), (nat_lit 13, zPne_copies_18, zOne_copies_18, zMne_copies_18), (nat_lit 14, zPne_copies_19, zOne_copies_19, zMne_copies_19), (nat_lit 15, zPne_copies_20, zOne_copies_20, zMne_copies_20), (nat_lit 16, zPne_copies_21, zOne_copies_21, zMne_copies_21), (nat_lit 17, zPne_begin, zOne_begin, zMne_begin)] pCne_keepText qCne_keepText) 2).2 [] η8 x9 η9 → ∀ (x10 : Int) (η10 : zE), ((gC2 wl_ne [(nat_lit 0, zPne_copies_4, zOne_copies_4, zMne_copies_4), (nat_lit 1, zPne_copies_7, zOne_copies_7, zMne_copies_7), (nat_lit 2, zPne_copies_8, zOne_copies_8, zMne_copies_8), (nat_lit 3, zPne_copies_9, zOne_copies_9, zMne_copies_9), (nat_lit 4, zPne_copies_10, zOne_copies_10, zMne_copies_10), (nat_lit 5, zPne_copies_11, zOne_copies_11, zMne_copies_11), (nat_lit 6, zPne_copies_12, zOne_copies_12, zMne_copies_12), (nat_lit 7, zPne_copies_13, zOne_copies_13, zMne_copies_13), (nat_lit 8, zPne_copies_14, zOne_copies_14, zMne_copies_14), (nat_lit 9, zPne_copies_15, zOne_copies_15, zMne_copies_15), (nat_lit 10, zPne_copies_5, zOne_copies_5, zMne_copies_5), (nat_lit 11, zPne_copies_6, zOne_copies_6, zMne_copies_6), (nat_lit 12, zPne_copies_17, zOne_copies_17, zMne_copies_17), (nat_lit 13, zPne_copies_18, zOne_copies_18, zMne_copies_18), (nat_lit 14, zPne_copies_19, zOne_copies_19, zMne_copies_19), (nat_lit 15, zPne_copies_20, zOne_copies_20, zMne_copies_20), (nat_lit 16, zPne_copies_21, zOne_copies_21, zMne_copies_21), (nat_lit 17, zPne_begin, zOne_begin, zMne_begin)] pCne_keepText qCne_keepText) 3).2 [] η9 x10 η10 → ((gC2 wl_ne [(nat_lit 0, zPne_copies_4, zOne_copies_4, zMne_copies_4), (nat_lit 1, zPne_copies_7, zOne_copies_7, zMne_copies_7), (nat_lit 2, zPne_copies_8, zOne_copies_8, zMne_copies_8), (nat_lit 3, zPne_copies_9, zOne_copies_9, zMne_copies_9), (nat_lit 4, zPne_copies_10, zOne_copies_10, zMne_copies_10), (nat_lit 5, zPne_copies_11, zOne_copies_11, zMne_copies_11), (nat_lit 6, zPne_copies_12, zOne_copies_12, zMne_copies_12), (nat_lit 7, zPne_copies_13, zOne_copies_13, zMne_copies_13), (nat_lit 8, zPne_copies_14, zOne_copies_14, zMne_copies_14), (nat_lit 9, zPne_copies_15, zOne_copies_15, zMne_copies_15), (nat_lit 10, zPne_copies_5, zOne_copies_5, zMne_copies_5), (nat_lit 11, zPne_copies_6, zOne_copies_6, zMne_copies_6), (nat_lit 12, zPne_copies_17, zOne_copies_17, zMne_copies_17), (nat_lit 13, zPne_copies_18, zOne_copies_18, zMne_copies_18), (nat_lit 14, zPne_copies_19, zOne_copies_19, zMne_copies_19), (nat_lit 15, zPne_copies_20, zOne_copies_20, zMne_copies_20), (nat_lit 16, zPne_copies_21, zOne_copies_21, zMne_copies_21), (nat_lit 17, zPne_begin, zOne_begin, zMne_begin)] pCne_keepText qCne_keepText) 4).1 [] η10 := by
  intro x1 e1 r1 η1 eη1 x2 e2 r2 η2 eη2 x3 e3 r3 η3 eη3 x4 e4 r4 η4 eη4 x5 η5 h5 x6 η6 h6 x7 η7 h7 x8 η8 h8 x9 η9 h9 x10 η10 h10
  have k5 : sQ wl_ne zTr zOne_copies_4 zMne_copies_4 [] η4 x5 η5 ∧ pQne_copies_4 [] η4 x5 η5 := h5
  have k6 : sQ wl_ne zTr zOne_copies_5 zMne_copies_5 [] η5 x6 η6 ∧ pQne_copies_5 [] η5 x6 η6 := h6
  have k7 : sQ wl_ne zTr zOne_copies_6 zMne_copies_6 [] η6 x7 η7 ∧ pQne_copies_6 [] η6 x7 η7 := h7
  have k8 : sQ wl_ne zTr zOne_copies_7 zMne_copies_7 [] η7 x8 η8 ∧ pQne_copies_7 [] η7 x8 η8 := h8
  have k9 : sQ wl_ne zTr zOne_copies_8 zMne_copies_8 [] η8 x9 η9 ∧ pQne_copies_8 [] η8 x9 η9 := h9
  have k10 : sQ wl_ne zTr zOne_copies_9 zMne_copies_9 [] η9 x10 η10 ∧ pQne_copies_9 [] η9 x10 η10 := h10
  exact trivial
set_option maxHeartbeats 8000000 in
theorem zne_keepText_o5 {ro : Nat → List Int32} (η : zE) (hp : sP wl_ne zTr zPne_keepText [] η) (hpp : pPne_keepText [] η) : ∀ x1 : Int, x1 = η 0 (Int.toNat 16) → zok 0 x1 → ∀ η1 : zE, η1 = zup η 0 (Int.toNat 12) x1 → ∀ x2 : Int, x2 = η1 0 (Int.toNat 17) → zok 0 x2 → ∀ η2 : zE, η2 = zup η1 0 (Int.toNat 13) x2 → ∀ x3 : Int, x3 = η2 0 (Int.toNat 18) → zok 0 x3 → ∀ η3 : zE, η3 = zup η2 0 (Int.toNat 14) x3 → ∀ x4 : Int, x4 = η3 0 (Int.toNat 19) → zok 0 x4 → ∀ η4 : zE, η4 = zup η3 0 (Int.toNat 15) x4 → ∀ (x5 : Int) (η5 : zE), ((gC2 wl_ne [(nat_lit 0, zPne_copies_4, zOne_copies_4, zMne_copies_4), (nat_lit 1, zPne_copies_7, zOne_copies_7, zMne_copies_7), (nat_lit 2, zPne_copies_8, zOne_copies_8, zMne_copies_8), (nat_lit 3, zPne_copies_9, zOne_copies_9, zMne_copies_9), (nat_lit 4, zPne_copies_10, zOne_copies_10, zMne_copies_10), (nat_lit 5, zPne_copies_11, zOne_copies_11, zMne_copies_11), (nat_lit 6, zPne_copies_12, zOne_copies_12, zMne_copies_12), (nat_lit 7, zPne_copies_13, zOne_copies_13, zMne_copies_13), (nat_lit 8, zPne_copies_14, zOne_copies_14, zMne_copies_14), (nat_lit 9, zPne_copies_15, zOne_copies_15, zMne_copies_15), (nat_lit 10, zPne_copies_5, zOne_copies_5, zMne_copies_5), (nat_lit 11, zPne_copies_6, zOne_copies_6, zMne_copies_6), (nat_lit 12, zPne_copies_17, zOne_copies_17, zMne_copies_17), (nat_lit 13, zPne_copies_18, zOne_copies_18, zMne_copies_18), (nat_lit 14, zPne_copies_19, zOne_copies_19, zMne_copies_19), (nat_lit 15, zPne_copies_20, zOne_copies_20, zMne_copies_20), (nat_lit 16, zPne_copies_21, zOne_copies_21, zMne_copies_21), (nat_lit 17, zPne_begin, zOne_begin, zMne_begin)] pCne_keepText qCne_keepText) 0).2 [] η4 x5 η5 → ∀ (x6 : Int) (η6 : zE), ((gC2 wl_ne [(nat_lit 0, zPne_copies_4, zOne_copies_4, zMne_copies_4), (nat_lit 1, zPne_copies_7, zOne_copies_7, zMne_copies_7), (nat_lit 2, zPne_copies_8, zOne_copies_8, zMne_copies_8), (nat_lit 3, zPne_copies_9, zOne_copies_9, zMne_copies_9), (nat_lit 4, zPne_copies_10, zOne_copies_10, zMne_copies_10), (nat_lit 5, zPne_copies_11, zOne_copies_11, zMne_copies_11), (nat_lit 6, zPne_copies_12, zOne_copies_12, zMne_copies_12), (nat_lit 7, zPne_copies_13, zOne_copies_13, zMne_copies_13), (nat_lit 8, zPne_copies_14, zOne_copies_14, zMne_copies_14), (nat_lit 9, zPne_copies_15, zOne_copies_15, zMne_copies_15), (nat_lit 10, zPne_copies_5, zOne_copies_5, zMne_copies_5), (nat_lit 11, zPne_copies_6, zOne_copies_6, zMne_copies_6), (nat_lit 12, zPne_copies_17, zOne_copies_17, zMne_copies_17), (nat_lit 13, zPne_copies_18, zOne_copies_18, zMne_copies_18), (nat_lit 14, zPne_copies_19, zOne_copies_19, zMne_copies_19), (nat_lit 15, zPne_copies_20, zOne_copies_20, zMne_copies_20), (nat_lit 16, zPne_copies_21, zOne_copies_21, zMne_copies_21), (nat_lit 17, zPne_begin, zOne_begin, zMne_begin)] pCne_keepText qCne_keepText) 10).2 [] η5 x6 η6 → ∀ (x7 : Int) (η7 : zE), ((gC2 wl_ne [(nat_lit 0, zPne_copies_4, zOne_copies_4, zMne_copies_4), (nat_lit 1, zPne_copies_7, zOne_copies_7, zMne_copies_7), (nat_lit 2, zPne_copies_8, zOne_copies_8, zMne_copies_8), (nat_lit 3, zPne_copies_9, zOne_copies_9, zMne_copies_9), (nat_lit 4, zPne_copies_10, zOne_copies_10, zMne_copies_10), (nat_lit 5, zPne_copies_11, zOne_copies_11, zMne_copies_11), (nat_lit 6, zPne_copies_12, zOne_copies_12, zMne_copies_12), (nat_lit 7, zPne_copies_13, zOne_copies_13, zMne_copies_13), (nat_lit 8, zPne_copies_14, zOne_copies_14, zMne_copies_14), (nat_lit 9, zPne_copies_15, zOne_copies_15, zMne_copies_15), (nat_lit 10, zPne_copies_5, zOne_copies_5, zMne_copies_5), (nat_lit 11, zPne_copies_6, zOne_copies_6, zMne_copies_6), (nat_lit 12, zPne_copies_17, zOne_copies_17, zMne_copies_17), (nat_lit 13, zPne_copies_18, zOne_copies_18, zMne_copies_18), (nat_lit 14, zPne_copies_19, zOne_copies_19, zMne_copies_19), (nat_lit 15, zPne_copies_20, zOne_copies_20, zMne_copies_20), (nat_lit 16, zPne_copies_21, zOne_copies_21, zMne_copies_21), (nat_lit 17, zPne_begin, zOne_begin, zMne_begin)] pCne_keepText qCne_keepText) 11).2 [] η6 x7 η7 → ∀ (x8 : Int) (η8 : zE), ((gC2 wl_ne [(nat_lit 0, zPne_copies_4, zOne_copies_4, zMne_copies_4), (nat_lit 1, zPne_copies_7, zOne_copies_7, zMne_copies_7), (nat_lit 2, zPne_copies_8, zOne_copies_8, zMne_copies_8), (nat_lit 3, zPne_copies_9, zOne_copies_9, zMne_copies_9), (nat_lit 4, zPne_copies_10, zOne_copies_10, zMne_copies_10), (nat_lit 5, zPne_copies_11, zOne_copies_11, zMne_copies_11), (nat_lit 6, zPne_copies_12, zOne_copies_12, zMne_copies_12), (nat_lit 7, zPne_copies_13, zOne_copies_13, zMne_copies_13), (nat_lit 8, zPne_copies_14, zOne_copies_14, zMne_copies_14), (nat_lit 9, zPne_copies_15, zOne_copies_15, zMne_copies_15), (nat_lit 10, zPne_copies_5, zOne_copies_5, zMne_copies_5), (nat_lit 11, zPne_copies_6, zOne_copies_6, zMne_copies_6), (nat_lit 12, zPne_copies_17, zOne_copies_17, zMne_copies_17), (nat_lit 13, zPne_copies_18, zOne_copies_18, zMne_copies_18), (nat_lit 14, zPne_copies_19, zOne_copies_19, zMne_copies_19), (nat_lit 15, zPne_copies_20, zOne_copies_20, zMne_copies_20), (nat_lit 16, zPne_copies_21, zOne_copies_21, zMne_copies_21), (nat_lit 17, zPne_begin, zOne_begin, zMne_begin)] pCne_keepText qCne_keepText) 1).2 [] η7 x8 η8 → ∀ (x9 : Int) (η9 : zE), ((gC2 wl_ne [(nat_lit 0, zPne_copies_4, zOne_copies_4, zMne_copies_4), (nat_lit 1, zPne_copies_7, zOne_copies_7, zMne_copies_7), (nat_lit 2, zPne_copies_8, zOne_copies_8, zMne_copies_8), (nat_lit 3, zPne_copies_9, zOne_copies_9, zMne_copies_9), (nat_lit 4, zPne_copies_10, zOne_copies_10, zMne_copies_10), (nat_lit 5, zPne_copies_11, zOne_copies_11, zMne_copies_11), (nat_lit 6, zPne_copies_12, zOne_copies_12, zMne_copies_12), (nat_lit 7, zPne_copies_13, zOne_copies_13, zMne_copies_13), (nat_lit 8, zPne_copies_14, zOne_copies_14, zMne_copies_14), (nat_lit 9, zPne_copies_15, zOne_copies_15, zMne_copies_15), (nat_lit 10, zPne_copies_5, zOne_copies_5, zMne_copies_5), (nat_lit 11, zPne_copies_6, zOne_copies_6, zMne_copies_6), (nat_lit 12, zPne_copies_17, zOne_copies_17, zMne_copies_17), (nat_lit 13, zPne_copies_18, zOne_copies_18, zMne_copies_18), (nat_lit 14, zPne_copies_19, zOne_copies_19, zMne_copies_19), (nat_lit 15, zPne_copies_20, zOne_copies_20, zMne_copies_20), (nat_lit 16, zPne_copies_21, zOne_copies_21, zMne_copies_21), (nat_lit 17, zPne_begin, zOne_begin, zMne_begin)] pCne_keepText qCne_keepText) 2).2 [] η8 x9 η9 → ∀ (x10 : Int) (η10 : zE), ((gC2 wl_ne [(nat_lit 0, zPne_copies_4, zOne_copies_4, zMne_copies_4), (nat_lit 1, zPne_copies_7, zOne_copies_7, zMne_copies_7), (nat_lit 2, zPne_copies_8, zOne_copies_8, zMne_copies_8), (nat_lit 3, zPne_copies_9, zOne_copies_9, zMne_copies_9), (nat_lit 4, zPne_copies_10, zOne_copies_10, zMne_copies_10), (nat_lit 5, zPne_copies_11, zOne_copies_11, zMne_copies_11), (nat_lit 6, zPne_copies_12, zOne_copies_12, zMne_copies_12), (nat_lit 7, zPne_copies_13, zOne_copies_13, zMne_copies_13), (nat_lit 8, zPne_copies_14, zOne_copies_14, zMne_copies_14), (nat_lit 9, zPne_copies_15, zOne_copies_15, zMne_copies_15), (nat_lit 10, zPne_copies_5, zOne_copies_5, zMne_copies_5), (nat_lit 11, zPne_copies_6, zOne_copies_6, zMne_copies_6), (nat_lit 12, zPne_copies_17, zOne_copies_17, zMne_copies_17), (nat_lit 13, zPne_copies_18, zOne_copies_18, zMne_copies_18), (nat_lit 14, zPne_copies_19, zOne_copies_19, zMne_copies_19), (nat_lit 15, zPne_copies_20, zOne_copies_20, zMne_copies_20), (nat_lit 16, zPne_copies_21, zOne_copies_21, zMne_copies_21), (nat_lit 17, zPne_begin, zOne_begin, zMne_begin)] pCne_keepText qCne_keepText) 3).2 [] η9 x10 η10 → ∀ (x11 : Int) (η11 : zE), ((gC2 wl_ne [(nat_lit 0, zPne_copies_4, zOne_copies_4, zMne_copies_4), (nat_lit 1, zPne_copies_7, zOne_copies_7, zMne_copies_7), (nat_lit 2, zPne_copies_8, zOne_copies_8, zMne_copies_8), (nat_lit 3, zPne_copies_9, zOne_copies_9, zMne_copies_9), (nat_lit 4, zPne_copies_10, zOne_copies_10, zMne_copies_10), (nat_lit 5, zPne_copies_11, zOne_copies_11, zMne_copies_11), (nat_lit 6, zPne_copies_12, zOne_copies_12, zMne_copies_12), (nat_lit 7, zPne_copies_13, zOne_copies_13, zMne_copies_13), (nat_lit 8, zPne_copies_14, zOne_copies_14, zMne_copies_14), (nat_lit 9, zPne_copies_15, zOne_copies_15, zMne_copies_15), (nat_lit 10, zPne_copies_5, zOne_copies_5, zMne_copies_5), (nat_lit 11, zPne_copies_6, zOne_copies_6, zMne_copies_6), (nat_lit 12, zPne_copies_17, zOne_copies_17, zMne_copies_17), (nat_lit 13, zPne_copies_18, zOne_copies_18, zMne_copies_18), (nat_lit 14, zPne_copies_19, zOne_copies_19, zMne_copies_19), (nat_lit 15, zPne_copies_20, zOne_copies_20, zMne_copies_20), (nat_lit 16, zPne_copies_21, zOne_copies_21, zMne_copies_21), (nat_lit 17, zPne_begin, zOne_begin, zMne_begin)] pCne_keepText qCne_keepText) 4).2 [] η10 x11 η11 → ((gC2 wl_ne [(nat_lit 0, zPne_copies_4, zOne_copies_4, zMne_copies_4), (nat_lit 1, zPne_copies_7, zOne_copies_7, zMne_copies_7), (nat_lit 2, zPne_copies_8, zOne_copies_8, zMne_copies_8), (nat_lit 3, zPne_copies_9, zOne_copies_9, zMne_copies_9), (nat_lit 4, zPne_copies_10, zOne_copies_10, zMne_copies_10), (nat_lit 5, zPne_copies_11, zOne_copies_11, zMne_copies_11), (nat_lit 6, zPne_copies_12, zOne_copies_12, zMne_copies_12), (nat_lit 7, zPne_copies_13, zOne_copies_13, zMne_copies_13), (nat_lit 8, zPne_copies_14, zOne_copies_14, zMne_copies_14), (nat_lit 9, zPne_copies_15, zOne_copies_15, zMne_copies_15), (nat_lit 10, zPne_copies_5, zOne_copies_5, zMne_copies_5), (nat_lit 11, zPne_copies_6, zOne_copies_6, zMne_copies_6), (nat_lit 12, zPne_copies_17, zOne_copies_17, zMne_copies_17), (nat_lit 13, zPne_copies_18, zOne_copies_18, zMne_copies_18), (nat_lit 14, zPne_copies_19, zOne_copies_19, zMne_copies_19), (nat_lit 15, zPne_copies_20, zOne_copies_20, zMne_copies_20), (nat_lit 16, zPne_copies_21, zOne_copies_21, zMne_copies_21), (nat_lit 17, zPne_begin, zOne_begin, zMne_begin)] pCne_keepText qCne_keepText) 5).1 [] η11 := by
  intro x1 e1 r1 η1 eη1 x2 e2 r2 η2 eη2 x3 e3 r3 η3 eη3 x4 e4 r4 η4 eη4 x5 η5 h5 x6 η6 h6 x7 η7 h7 x8 η8 h8 x9 η9 h9 x10 η10 h10 x11 η11 h11
  have k5 : sQ wl_ne zTr zOne_copies_4 zMne_copies_4 [] η4 x5 η5 ∧ pQne_copies_4 [] η4 x5 η5 := h5
  have k6 : sQ wl_ne zTr zOne_copies_5 zMne_copies_5 [] η5 x6 η6 ∧ pQne_copies_5 [] η5 x6 η6 := h6
  have k7 : sQ wl_ne zTr zOne_copies_6 zMne_copies_6 [] η6 x7 η7 ∧ pQne_copies_6 [] η6 x7 η7 := h7
  have k8 : sQ wl_ne zTr zOne_copies_7 zMne_copies_7 [] η7 x8 η8 ∧ pQne_copies_7 [] η7 x8 η8 := h8
  have k9 : sQ wl_ne zTr zOne_copies_8 zMne_copies_8 [] η8 x9 η9 ∧ pQne_copies_8 [] η8 x9 η9 := h9
  have k10 : sQ wl_ne zTr zOne_copies_9 zMne_copies_9 [] η9 x10 η10 ∧ pQne_copies_9 [] η9 x10 η10 := h10
  have k11 : sQ wl_ne zTr zOne_copies_10 zMne_copies_10 [] η10 x11 η11 ∧ pQne_copies_10 [] η10 x11 η11 := h11
  exact trivial
set_option maxHeartbeats 8000000 in
theorem zne_keepText_o6 {ro : Nat → List Int32} (η : zE) (hp : sP wl_ne zTr zPne_keepText [] η) (hpp : pPne_keepText [] η) : ∀ x1 : Int, x1 = η 0 (Int.toNat 16) → zok 0 x1 → ∀ η1 : zE, η1 = zup η 0 (Int.toNat 12) x1 → ∀ x2 : Int, x2 = η1 0 (Int.toNat 17) → zok 0 x2 → ∀ η2 : zE, η2 = zup η1 0 (Int.toNat 13) x2 → ∀ x3 : Int, x3 = η2 0 (Int.toNat 18) → zok 0 x3 → ∀ η3 : zE, η3 = zup η2 0 (Int.toNat 14) x3 → ∀ x4 : Int, x4 = η3 0 (Int.toNat 19) → zok 0 x4 → ∀ η4 : zE, η4 = zup η3 0 (Int.toNat 15) x4 → ∀ (x5 : Int) (η5 : zE), ((gC2 wl_ne [(nat_lit 0, zPne_copies_4, zOne_copies_4, zMne_copies_4), (nat_lit 1, zPne_copies_7, zOne_copies_7, zMne_copies_7), (nat_lit 2, zPne_copies_8, zOne_copies_8, zMne_copies_8), (nat_lit 3, zPne_copies_9, zOne_copies_9, zMne_copies_9), (nat_lit 4, zPne_copies_10, zOne_copies_10, zMne_copies_10), (nat_lit 5, zPne_copies_11, zOne_copies_11, zMne_copies_11), (nat_lit 6, zPne_copies_12, zOne_copies_12, zMne_copies_12), (nat_lit 7, zPne_copies_13, zOne_copies_13, zMne_copies_13), (nat_lit 8, zPne_copies_14, zOne_copies_14, zMne_copies_14), (nat_lit 9, zPne_copies_15, zOne_copies_15, zMne_copies_15), (nat_lit 10, zPne_copies_5, zOne_copies_5, zMne_copies_5), (nat_lit 11, zPne_copies_6, zOne_copies_6, zMne_copies_6), (nat_lit 12, zPne_copies_17, zOne_copies_17, zMne_copies_17), (nat_lit 13, zPne_copies_18, zOne_copies_18, zMne_copies_18), (nat_lit 14, zPne_copies_19, zOne_copies_19, zMne_copies_19), (nat_lit 15, zPne_copies_20, zOne_copies_20, zMne_copies_20), (nat_lit 16, zPne_copies_21, zOne_copies_21, zMne_copies_21), (nat_lit 17, zPne_begin, zOne_begin, zMne_begin)] pCne_keepText qCne_keepText) 0).2 [] η4 x5 η5 → ∀ (x6 : Int) (η6 : zE), ((gC2 wl_ne [(nat_lit 0, zPne_copies_4, zOne_copies_4, zMne_copies_4), (nat_lit 1, zPne_copies_7, zOne_copies_7, zMne_copies_7), (nat_lit 2, zPne_copies_8, zOne_copies_8, zMne_copies_8), (nat_lit 3, zPne_copies_9, zOne_copies_9, zMne_copies_9), (nat_lit 4, zPne_copies_10, zOne_copies_10, zMne_copies_10), (nat_lit 5, zPne_copies_11, zOne_copies_11, zMne_copies_11), (nat_lit 6, zPne_copies_12, zOne_copies_12, zMne_copies_12), (nat_lit 7, zPne_copies_13, zOne_copies_13, zMne_copies_13), (nat_lit 8, zPne_copies_14, zOne_copies_14, zMne_copies_14), (nat_lit 9, zPne_copies_15, zOne_copies_15, zMne_copies_15), (nat_lit 10, zPne_copies_5, zOne_copies_5, zMne_copies_5), (nat_lit 11, zPne_copies_6, zOne_copies_6, zMne_copies_6), (nat_lit 12, zPne_copies_17, zOne_copies_17, zMne_copies_17), (nat_lit 13, zPne_copies_18, zOne_copies_18, zMne_copies_18), (nat_lit 14, zPne_copies_19, zOne_copies_19, zMne_copies_19), (nat_lit 15, zPne_copies_20, zOne_copies_20, zMne_copies_20), (nat_lit 16, zPne_copies_21, zOne_copies_21, zMne_copies_21), (nat_lit 17, zPne_begin, zOne_begin, zMne_begin)] pCne_keepText qCne_keepText) 10).2 [] η5 x6 η6 → ∀ (x7 : Int) (η7 : zE), ((gC2 wl_ne [(nat_lit 0, zPne_copies_4, zOne_copies_4, zMne_copies_4), (nat_lit 1, zPne_copies_7, zOne_copies_7, zMne_copies_7), (nat_lit 2, zPne_copies_8, zOne_copies_8, zMne_copies_8), (nat_lit 3, zPne_copies_9, zOne_copies_9, zMne_copies_9), (nat_lit 4, zPne_copies_10, zOne_copies_10, zMne_copies_10), (nat_lit 5, zPne_copies_11, zOne_copies_11, zMne_copies_11), (nat_lit 6, zPne_copies_12, zOne_copies_12, zMne_copies_12), (nat_lit 7, zPne_copies_13, zOne_copies_13, zMne_copies_13), (nat_lit 8, zPne_copies_14, zOne_copies_14, zMne_copies_14), (nat_lit 9, zPne_copies_15, zOne_copies_15, zMne_copies_15), (nat_lit 10, zPne_copies_5, zOne_copies_5, zMne_copies_5), (nat_lit 11, zPne_copies_6, zOne_copies_6, zMne_copies_6), (nat_lit 12, zPne_copies_17, zOne_copies_17, zMne_copies_17), (nat_lit 13, zPne_copies_18, zOne_copies_18, zMne_copies_18), (nat_lit 14, zPne_copies_19, zOne_copies_19, zMne_copies_19), (nat_lit 15, zPne_copies_20, zOne_copies_20, zMne_copies_20), (nat_lit 16, zPne_copies_21, zOne_copies_21, zMne_copies_21), (nat_lit 17, zPne_begin, zOne_begin, zMne_begin)] pCne_keepText qCne_keepText) 11).2 [] η6 x7 η7 → ∀ (x8 : Int) (η8 : zE), ((gC2 wl_ne [(nat_lit 0, zPne_copies_4, zOne_copies_4, zMne_copies_4), (nat_lit 1, zPne_copies_7, zOne_copies_7, zMne_copies_7), (nat_lit 2, zPne_copies_8, zOne_copies_8, zMne_copies_8), (nat_lit 3, zPne_copies_9, zOne_copies_9, zMne_copies_9), (nat_lit 4, zPne_copies_10, zOne_copies_10, zMne_copies_10), (nat_lit 5, zPne_copies_11, zOne_copies_11, zMne_copies_11), (nat_lit 6, zPne_copies_12, zOne_copies_12, zMne_copies_12), (nat_lit 7, zPne_copies_13, zOne_copies_13, zMne_copies_13), (nat_lit 8, zPne_copies_14, zOne_copies_14, zMne_copies_14), (nat_lit 9, zPne_copies_15, zOne_copies_15, zMne_copies_15), (nat_lit 10, zPne_copies_5, zOne_copies_5, zMne_copies_5), (nat_lit 11, zPne_copies_6, zOne_copies_6, zMne_copies_6), (nat_lit 12, zPne_copies_17, zOne_copies_17, zMne_copies_17), (nat_lit 13, zPne_copies_18, zOne_copies_18, zMne_copies_18), (nat_lit 14, zPne_copies_19, zOne_copies_19, zMne_copies_19), (nat_lit 15, zPne_copies_20, zOne_copies_20, zMne_copies_20), (nat_lit 16, zPne_copies_21, zOne_copies_21, zMne_copies_21), (nat_lit 17, zPne_begin, zOne_begin, zMne_begin)] pCne_keepText qCne_keepText) 1).2 [] η7 x8 η8 → ∀ (x9 : Int) (η9 : zE), ((gC2 wl_ne [(nat_lit 0, zPne_copies_4, zOne_copies_4, zMne_copies_4), (nat_lit 1, zPne_copies_7, zOne_copies_7, zMne_copies_7), (nat_lit 2, zPne_copies_8, zOne_copies_8, zMne_copies_8), (nat_lit 3, zPne_copies_9, zOne_copies_9, zMne_copies_9), (nat_lit 4, zPne_copies_10, zOne_copies_10, zMne_copies_10), (nat_lit 5, zPne_copies_11, zOne_copies_11, zMne_copies_11), (nat_lit 6, zPne_copies_12, zOne_copies_12, zMne_copies_12), (nat_lit 7, zPne_copies_13, zOne_copies_13, zMne_copies_13), (nat_lit 8, zPne_copies_14, zOne_copies_14, zMne_copies_14), (nat_lit 9, zPne_copies_15, zOne_copies_15, zMne_copies_15), (nat_lit 10, zPne_copies_5, zOne_copies_5, zMne_copies_5), (nat_lit 11, zPne_copies_6, zOne_copies_6, zMne_copies_6), (nat_lit 12, zPne_copies_17, zOne_copies_17, zMne_copies_17), (nat_lit 13, zPne_copies_18, zOne_copies_18, zMne_copies_18), (nat_lit 14, zPne_copies_19, zOne_copies_19, zMne_copies_19), (nat_lit 15, zPne_copies_20, zOne_copies_20, zMne_copies_20), (nat_lit 16, zPne_copies_21, zOne_copies_21, zMne_copies_21), (nat_lit 17, zPne_begin, zOne_begin, zMne_begin)] pCne_keepText qCne_keepText) 2).2 [] η8 x9 η9 → ∀ (x10 : Int) (η10 : zE), ((gC2 wl_ne [(nat_lit 0, zPne_copies_4, zOne_copies_4, zMne_copies_4), (nat_lit 1, zPne_copies_7, zOne_copies_7, zMne_copies_7), (nat_lit 2, zPne_copies_8, zOne_copies_8, zMne_copies_8), (nat_lit 3, zPne_copies_9, zOne_copies_9, zMne_copies_9), (nat_lit 4, zPne_copies_10, zOne_copies_10, zMne_copies_10), (nat_lit 5, zPne_copies_11, zOne_copies_11, zMne_copies_11), (nat_lit 6, zPne_copies_12, zOne_copies_12, zMne_copies_12), (nat_lit 7, zPne_copies_13, zOne_copies_13, zMne_copies_13), (nat_lit 8, zPne_copies_14, zOne_copies_14, zMne_copies_14), (nat_lit 9, zPne_copies_15, zOne_copies_15, zMne_copies_15), (nat_lit 10, zPne_copies_5, zOne_copies_5, zMne_copies_5), (nat_lit 11, zPne_copies_6, zOne_copies_6, zMne_copies_6), (nat_lit 12, zPne_copies_17, zOne_copies_17, zMne_copies_17), (nat_lit 13, zPne_copies_18, zOne_copies_18, zMne_copies_18), (nat_lit 14, zPne_copies_19, zOne_copies_19, zMne_copies_19), (nat_lit 15, zPne_copies_20, zOne_copies_20, zMne_copies_20), (nat_lit 16, zPne_copies_21, zOne_copies_21, zMne_copies_21), (nat_lit 17, zPne_begin, zOne_begin, zMne_begin)] pCne_keepText qCne_keepText) 3).2 [] η9 x10 η10 → ∀ (x11 : Int) (η11 : zE), ((gC2 wl_ne [(nat_lit 0, zPne_copies_4, zOne_copies_4, zMne_copies_4), (nat_lit 1, zPne_copies_7, zOne_copies_7, zMne_copies_7), (nat_lit 2, zPne_copies_8, zOne_copies_8, zMne_copies_8), (nat_lit 3, zPne_copies_9, zOne_copies_9, zMne_copies_9), (nat_lit 4, zPne_copies_10, zOne_copies_10, zMne_copies_10), (nat_lit 5, zPne_copies_11, zOne_copies_11, zMne_copies_11), (nat_lit 6, zPne_copies_12, zOne_copies_12, zMne_copies_12), (nat_lit 7, zPne_copies_13, zOne_copies_13, zMne_copies_13), (nat_lit 8, zPne_copies_14, zOne_copies_14, zMne_copies_14), (nat_lit 9, zPne_copies_15, zOne_copies_15, zMne_copies_15), (nat_lit 10, zPne_copies_5, zOne_copies_5, zMne_copies_5), (nat_lit 11, zPne_copies_6, zOne_copies_6, zMne_copies_6), (nat_lit 12, zPne_copies_17, zOne_copies_17, zMne_copies_17), (nat_lit 13, zPne_copies_18, zOne_copies_18, zMne_copies_18), (nat_lit 14, zPne_copies_19, zOne_copies_19, zMne_copies_19), (nat_lit 15, zPne_copies_20, zOne_copies_20, zMne_copies_20), (nat_lit 16, zPne_copies_21, zOne_copies_21, zMne_copies_21), (nat_lit 17, zPne_begin, zOne_begin, zMne_begin)] pCne_keepText qCne_keepText) 4).2 [] η10 x11 η11 → ∀ (x12 : Int) (η12 : zE), ((gC2 wl_ne [(nat_lit 0, zPne_copies_4, zOne_copies_4, zMne_copies_4), (nat_lit 1, zPne_copies_7, zOne_copies_7, zMne_copies_7), (nat_lit 2, zPne_copies_8, zOne_copies_8, zMne_copies_8), (nat_lit 3, zPne_copies_9, zOne_copies_9, zMne_copies_9), (nat_lit 4, zPne_copies_10, zOne_copies_10, zMne_copies_10), (nat_lit 5, zPne_copies_11, zOne_copies_11, zMne_copies_11), (nat_lit 6, zPne_copies_12, zOne_copies_12, zMne_copies_12), (nat_lit 7, zPne_copies_13, zOne_copies_13, zMne_copies_13), (nat_lit 8, zPne_copies_14, zOne_copies_14, zMne_copies_14), (nat_lit 9, zPne_copies_15, zOne_copies_15, zMne_copies_15), (nat_lit 10, zPne_copies_5, zOne_copies_5, zMne_copies_5), (nat_lit 11, zPne_copies_6, zOne_copies_6, zMne_copies_6), (nat_lit 12, zPne_copies_17, zOne_copies_17, zMne_copies_17), (nat_lit 13, zPne_copies_18, zOne_copies_18, zMne_copies_18), (nat_lit 14, zPne_copies_19, zOne_copies_19, zMne_copies_19), (nat_lit 15, zPne_copies_20, zOne_copies_20, zMne_copies_20), (nat_lit 16, zPne_copies_21, zOne_copies_21, zMne_copies_21), (nat_lit 17, zPne_begin, zOne_begin, zMne_begin)] pCne_keepText qCne_keepText) 5).2 [] η11 x12 η12 → ((gC2 wl_ne [(nat_lit 0, zPne_copies_4, zOne_copies_4, zMne_copies_4), (nat_lit 1, zPne_copies_7, zOne_copies_7, zMne_copies_7), (nat_lit 2, zPne_copies_8, zOne_copies_8, zMne_copies_8), (nat_lit 3, zPne_copies_9, zOne_copies_9, zMne_copies_9), (nat_lit 4, zPne_copies_10, zOne_copies_10, zMne_copies_10), (nat_lit 5, zPne_copies_11, zOne_copies_11, zMne_copies_11), (nat_lit 6, zPne_copies_12, zOne_copies_12, zMne_copies_12), (nat_lit 7, zPne_copies_13, zOne_copies_13, zMne_copies_13), (nat_lit 8, zPne_copies_14, zOne_copies_14, zMne_copies_14), (nat_lit 9, zPne_copies_15, zOne_copies_15, zMne_copies_15), (nat_lit 10, zPne_copies_5, zOne_copies_5, zMne_copies_5), (nat_lit 11, zPne_copies_6, zOne_copies_6, zMne_copies_6), (nat_lit 12, zPne_copies_17, zOne_copies_17, zMne_copies_17), (nat_lit 13, zPne_copies_18, zOne_copies_18, zMne_copies_18), (nat_lit 14, zPne_copies_19, zOne_copies_19, zMne_copies_19), (nat_lit 15, zPne_copies_20, zOne_copies_20, zMne_copies_20), (nat_lit 16, zPne_copies_21, zOne_copies_21, zMne_copies_21), (nat_lit 17, zPne_begin, zOne_begin, zMne_begin)] pCne_keepText qCne_keepText) 6).1 [] η12 := by
  intro x1 e1 r1 η1 eη1 x2 e2 r2 η2 eη2 x3 e3 r3 η3 eη3 x4 e4 r4 η4 eη4 x5 η5 h5 x6 η6 h6 x7 η7 h7 x8 η8 h8 x9 η9 h9 x10 η10 h10 x11 η11 h11 x12 η12 h12
  have k5 : sQ wl_ne zTr zOne_copies_4 zMne_copies_4 [] η4 x5 η5 ∧ pQne_copies_4 [] η4 x5 η5 := h5
  have k6 : sQ wl_ne zTr zOne_copies_5 zMne_copies_5 [] η5 x6 η6 ∧ pQne_copies_5 [] η5 x6 η6 := h6
  have k7 : sQ wl_ne zTr zOne_copies_6 zMne_copies_6 [] η6 x7 η7 ∧ pQne_copies_6 [] η6 x7 η7 := h7
  have k8 : sQ wl_ne zTr zOne_copies_7 zMne_copies_7 [] η7 x8 η8 ∧ pQne_copies_7 [] η7 x8 η8 := h8
  have k9 : sQ wl_ne zTr zOne_copies_8 zMne_copies_8 [] η8 x9 η9 ∧ pQne_copies_8 [] η8 x9 η9 := h9
  have k10 : sQ wl_ne zTr zOne_copies_9 zMne_copies_9 [] η9 x10 η10 ∧ pQne_copies_9 [] η9 x10 η10 := h10
  have k11 : sQ wl_ne zTr zOne_copies_10 zMne_copies_10 [] η10 x11 η11 ∧ pQne_copies_10 [] η10 x11 η11 := h11
  have k12 : sQ wl_ne zTr zOne_copies_11 zMne_copies_11 [] η11 x12 η12 ∧ pQne_copies_11 [] η11 x12 η12 := h12
  exact trivial
set_option maxHeartbeats 8000000 in
theorem zne_keepText_o7 {ro : Nat → List Int32} (η : zE) (hp : sP wl_ne zTr zPne_keepText [] η) (hpp : pPne_keepText [] η) : ∀ x1 : Int, x1 = η 0 (Int.toNat 16) → zok 0 x1 → ∀ η1 : zE, η1 = zup η 0 (Int.toNat 12) x1 → ∀ x2 : Int, x2 = η1 0 (Int.toNat 17) → zok 0 x2 → ∀ η2 : zE, η2 = zup η1 0 (Int.toNat 13) x2 → ∀ x3 : Int, x3 = η2 0 (Int.toNat 18) → zok 0 x3 → ∀ η3 : zE, η3 = zup η2 0 (Int.toNat 14) x3 → ∀ x4 : Int, x4 = η3 0 (Int.toNat 19) → zok 0 x4 → ∀ η4 : zE, η4 = zup η3 0 (Int.toNat 15) x4 → ∀ (x5 : Int) (η5 : zE), ((gC2 wl_ne [(nat_lit 0, zPne_copies_4, zOne_copies_4, zMne_copies_4), (nat_lit 1, zPne_copies_7, zOne_copies_7, zMne_copies_7), (nat_lit 2, zPne_copies_8, zOne_copies_8, zMne_copies_8), (nat_lit 3, zPne_copies_9, zOne_copies_9, zMne_copies_9), (nat_lit 4, zPne_copies_10, zOne_copies_10, zMne_copies_10), (nat_lit 5, zPne_copies_11, zOne_copies_11, zMne_copies_11), (nat_lit 6, zPne_copies_12, zOne_copies_12, zMne_copies_12), (nat_lit 7, zPne_copies_13, zOne_copies_13, zMne_copies_13), (nat_lit 8, zPne_copies_14, zOne_copies_14, zMne_copies_14), (nat_lit 9, zPne_copies_15, zOne_copies_15, zMne_copies_15), (nat_lit 10, zPne_copies_5, zOne_copies_5, zMne_copies_5), (nat_lit 11, zPne_copies_6, zOne_copies_6, zMne_copies_6), (nat_lit 12, zPne_copies_17, zOne_copies_17, zMne_copies_17), (nat_lit 13, zPne_copies_18, zOne_copies_18, zMne_copies_18), (nat_lit 14, zPne_copies_19, zOne_copies_19, zMne_copies_19), (nat_lit 15, zPne_copies_20, zOne_copies_20, zMne_copies_20), (nat_lit 16, zPne_copies_21, zOne_copies_21, zMne_copies_21), (nat_lit 17, zPne_begin, zOne_begin, zMne_begin)] pCne_keepText qCne_keepText) 0).2 [] η4 x5 η5 → ∀ (x6 : Int) (η6 : zE), ((gC2 wl_ne [(nat_lit 0, zPne_copies_4, zOne_copies_4, zMne_copies_4), (nat_lit 1, zPne_copies_7, zOne_copies_7, zMne_copies_7), (nat_lit 2, zPne_copies_8, zOne_copies_8, zMne_copies_8), (nat_lit 3, zPne_copies_9, zOne_copies_9, zMne_copies_9), (nat_lit 4, zPne_copies_10, zOne_copies_10, zMne_copies_10), (nat_lit 5, zPne_copies_11, zOne_copies_11, zMne_copies_11), (nat_lit 6, zPne_copies_12, zOne_copies_12, zMne_copies_12), (nat_lit 7, zPne_copies_13, zOne_copies_13, zMne_copies_13), (nat_lit 8, zPne_copies_14, zOne_copies_14, zMne_copies_14), (nat_lit 9, zPne_copies_15, zOne_copies_15, zMne_copies_15), (nat_lit 10, zPne_copies_5, zOne_copies_5, zMne_copies_5), (nat_lit 11, zPne_copies_6, zOne_copies_6, zMne_copies_6), (nat_lit 12, zPne_copies_17, zOne_copies_17, zMne_copies_17), (nat_lit 13, zPne_copies_18, zOne_copies_18, zMne_copies_18), (nat_lit 14, zPne_copies_19, zOne_copies_19, zMne_copies_19), (nat_lit 15, zPne_copies_20, zOne_copies_20, zMne_copies_20), (nat_lit 16, zPne_copies_21, zOne_copies_21, zMne_copies_21), (nat_lit 17, zPne_begin, zOne_begin, zMne_begin)] pCne_keepText qCne_keepText) 10).2 [] η5 x6 η6 → ∀ (x7 : Int) (η7 : zE), ((gC2 wl_ne [(nat_lit 0, zPne_copies_4, zOne_copies_4, zMne_copies_4), (nat_lit 1, zPne_copies_7, zOne_copies_7, zMne_copies_7), (nat_lit 2, zPne_copies_8, zOne_copies_8, zMne_copies_8), (nat_lit 3, zPne_copies_9, zOne_copies_9, zMne_copies_9), (nat_lit 4, zPne_copies_10, zOne_copies_10, zMne_copies_10), (nat_lit 5, zPne_copies_11, zOne_copies_11, zMne_copies_11), (nat_lit 6, zPne_copies_12, zOne_copies_12, zMne_copies_12), (nat_lit 7, zPne_copies_13, zOne_copies_13, zMne_copies_13), (nat_lit 8, zPne_copies_14, zOne_copies_14, zMne_copies_14), (nat_lit 9, zPne_copies_15, zOne_copies_15, zMne_copies_15), (nat_lit 10, zPne_copies_5, zOne_copies_5, zMne_copies_5), (nat_lit 11, zPne_copies_6, zOne_copies_6, zMne_copies_6), (nat_lit 12, zPne_copies_17, zOne_copies_17, zMne_copies_17), (nat_lit 13, zPne_copies_18, zOne_copies_18, zMne_copies_18), (nat_lit 14, zPne_copies_19, zOne_copies_19, zMne_copies_19), (nat_lit 15, zPne_copies_20, zOne_copies_20, zMne_copies_20), (nat_lit 16, zPne_copies_21, zOne_copies_21, zMne_copies_21), (nat_lit 17, zPne_begin, zOne_begin, zMne_begin)] pCne_keepText qCne_keepText) 11).2 [] η6 x7 η7 → ∀ (x8 : Int) (η8 : zE), ((gC2 wl_ne [(nat_lit 0, zPne_copies_4, zOne_copies_4, zMne_copies_4), (nat_lit 1, zPne_copies_7, zOne_copies_7, zMne_copies_7), (nat_lit 2, zPne_copies_8, zOne_copies_8, zMne_copies_8), (nat_lit 3, zPne_copies_9, zOne_copies_9, zMne_copies_9), (nat_lit 4, zPne_copies_10, zOne_copies_10, zMne_copies_10), (nat_lit 5, zPne_copies_11, zOne_copies_11, zMne_copies_11), (nat_lit 6, zPne_copies_12, zOne_copies_12, zMne_copies_12), (nat_lit 7, zPne_copies_13, zOne_copies_13, zMne_copies_13), (nat_lit 8, zPne_copies_14, zOne_copies_14, zMne_copies_14), (nat_lit 9, zPne_copies_15, zOne_copies_15, zMne_copies_15), (nat_lit 10, zPne_copies_5, zOne_copies_5, zMne_copies_5), (nat_lit 11, zPne_copies_6, zOne_copies_6, zMne_copies_6), (nat_lit 12, zPne_copies_17, zOne_copies_17, zMne_copies_17), (nat_lit 13, zPne_copies_18, zOne_copies_18, zMne_copies_18), (nat_lit 14, zPne_copies_19, zOne_copies_19, zMne_copies_19), (nat_lit 15, zPne_copies_20, zOne_copies_20, zMne_copies_20), (nat_lit 16, zPne_copies_21, zOne_copies_21, zMne_copies_21), (nat_lit 17, zPne_begin, zOne_begin, zMne_begin)] pCne_keepText qCne_keepText) 1).2 [] η7 x8 η8 → ∀ (x9 : Int) (η9 : zE), ((gC2 wl_ne [(nat_lit 0, zPne_copies_4, zOne_copies_4, zMne_copies_4), (nat_lit 1, zPne_copies_7, zOne_copies_7, zMne_copies_7), (nat_lit 2, zPne_copies_8, zOne_copies_8, zMne_copies_8), (nat_lit 3, zPne_copies_9, zOne_copies_9, zMne_copies_9), (nat_lit 4, zPne_copies_10, zOne_copies_10, zMne_copies_10), (nat_lit 5, zPne_copies_11, zOne_copies_11, zMne_copies_11), (nat_lit 6, zPne_copies_12, zOne_copies_12, zMne_copies_12), (nat_lit 7, zPne_copies_13, zOne_copies_13, zMne_copies_13), (nat_lit 8, zPne_copies_14, zOne_copies_14, zMne_copies_14), (nat_lit 9, zPne_copies_15, zOne_copies_15, zMne_copies_15), (nat_lit 10, zPne_copies_5, zOne_copies_5, zMne_copies_5), (nat_lit 11, zPne_copies_6, zOne_copies_6, zMne_copies_6), (nat_lit 12, zPne_copies_17, zOne_copies_17, zMne_copies_17), (nat_lit 13, zPne_copies_18, zOne_copies_18, zMne_copies_18), (nat_lit 14, zPne_copies_19, zOne_copies_19, zMne_copies_19), (nat_lit 15, zPne_copies_20, zOne_copies_20, zMne_copies_20), (nat_lit 16, zPne_copies_21, zOne_copies_21, zMne_copies_21), (nat_lit 17, zPne_begin, zOne_begin, zMne_begin)] pCne_keepText qCne_keepText) 2).2 [] η8 x9 η9 → ∀ (x10 : Int) (η10 : zE), ((gC2 wl_ne [(nat_lit 0, zPne_copies_4, zOne_copies_4, zMne_copies_4), (nat_lit 1, zPne_copies_7, zOne_copies_7, zMne_copies_7), (nat_lit 2, zPne_copies_8, zOne_copies_8, zMne_copies_8), (nat_lit 3, zPne_copies_9, zOne_copies_9, zMne_copies_9), (nat_lit 4, zPne_copies_10, zOne_copies_10, zMne_copies_10), (nat_lit 5, zPne_copies_11, zOne_copies_11, zMne_copies_11), (nat_lit 6, zPne_copies_12, zOne_copies_12, zMne_copies_12), (nat_lit 7, zPne_copies_13, zOne_copies_13, zMne_copies_13), (nat_lit 8, zPne_copies_14, zOne_copies_14, zMne_copies_14), (nat_lit 9, zPne_copies_15, zOne_copies_15, zMne_copies_15), (nat_lit 10, zPne_copies_5, zOne_copies_5, zMne_copies_5), (nat_lit 11, zPne_copies_6, zOne_copies_6, zMne_copies_6), (nat_lit 12, zPne_copies_17, zOne_copies_17, zMne_copies_17), (nat_lit 13, zPne_copies_18, zOne_copies_18, zMne_copies_18), (nat_lit 14, zPne_copies_19, zOne_copies_19, zMne_copies_19), (nat_lit 15, zPne_copies_20, zOne_copies_20, zMne_copies_20), (nat_lit 16, zPne_copies_21, zOne_copies_21, zMne_copies_21), (nat_lit 17, zPne_begin, zOne_begin, zMne_begin)] pCne_keepText qCne_keepText) 3).2 [] η9 x10 η10 → ∀ (x11 : Int) (η11 : zE), ((gC2 wl_ne [(nat_lit 0, zPne_copies_4, zOne_copies_4, zMne_copies_4), (nat_lit 1, zPne_copies_7, zOne_copies_7, zMne_copies_7), (nat_lit 2, zPne_copies_8, zOne_copies_8, zMne_copies_8), (nat_lit 3, zPne_copies_9, zOne_copies_9, zMne_copies_9), (nat_lit 4, zPne_copies_10, zOne_copies_10, zMne_copies_10), (nat_lit 5, zPne_copies_11, zOne_copies_11, zMne_copies_11), (nat_lit 6, zPne_copies_12, zOne_copies_12, zMne_copies_12), (nat_lit 7, zPne_copies_13, zOne_copies_13, zMne_copies_13), (nat_lit 8, zPne_copies_14, zOne_copies_14, zMne_copies_14), (nat_lit 9, zPne_copies_15, zOne_copies_15, zMne_copies_15), (nat_lit 10, zPne_copies_5, zOne_copies_5, zMne_copies_5), (nat_lit 11, zPne_copies_6, zOne_copies_6, zMne_copies_6), (nat_lit 12, zPne_copies_17, zOne_copies_17, zMne_copies_17), (nat_lit 13, zPne_copies_18, zOne_copies_18, zMne_copies_18), (nat_lit 14, zPne_copies_19, zOne_copies_19, zMne_copies_19), (nat_lit 15, zPne_copies_20, zOne_copies_20, zMne_copies_20), (nat_lit 16, zPne_copies_21, zOne_copies_21, zMne_copies_21), (nat_lit 17, zPne_begin, zOne_begin, zMne_begin)] pCne_keepText qCne_keepText) 4).2 [] η10 x11 η11 → ∀ (x12 : Int) (η12 : zE), ((gC2 wl_ne [(nat_lit 0, zPne_copies_4, zOne_copies_4, zMne_copies_4), (nat_lit 1, zPne_copies_7, zOne_copies_7, zMne_copies_7), (nat_lit 2, zPne_copies_8, zOne_copies_8, zMne_copies_8), (nat_lit 3, zPne_copies_9, zOne_copies_9, zMne_copies_9), (nat_lit 4, zPne_copies_10, zOne_copies_10, zMne_copies_10), (nat_lit 5, zPne_copies_11, zOne_copies_11, zMne_copies_11), (nat_lit 6, zPne_copies_12, zOne_copies_12, zMne_copies_12), (nat_lit 7, zPne_copies_13, zOne_copies_13, zMne_copies_13), (nat_lit 8, zPne_copies_14, zOne_copies_14, zMne_copies_14), (nat_lit 9, zPne_copies_15, zOne_copies_15, zMne_copies_15), (nat_lit 10, zPne_copies_5, zOne_copies_5, zMne_copies_5), (nat_lit 11, zPne_copies_6, zOne_copies_6, zMne_copies_6), (nat_lit 12, zPne_copies_17, zOne_copies_17, zMne_copies_17), (nat_lit 13, zPne_copies_18, zOne_copies_18, zMne_copies_18), (nat_lit 14, zPne_copies_19, zOne_copies_19, zMne_copies_19), (nat_lit 15, zPne_copies_20, zOne_copies_20, zMne_copies_20), (nat_lit 16, zPne_copies_21, zOne_copies_21, zMne_copies_21), (nat_lit 17, zPne_begin, zOne_begin, zMne_begin)] pCne_keepText qCne_keepText) 5).2 [] η11 x12 η12 → ∀ (x13 : Int) (η13 : zE), ((gC2 wl_ne [(nat_lit 0, zPne_copies_4, zOne_copies_4, zMne_copies_4), (nat_lit 1, zPne_copies_7, zOne_copies_7, zMne_copies_7), (nat_lit 2, zPne_copies_8, zOne_copies_8, zMne_copies_8), (nat_lit 3, zPne_copies_9, zOne_copies_9, zMne_copies_9), (nat_lit 4, zPne_copies_10, zOne_copies_10, zMne_copies_10), (nat_lit 5, zPne_copies_11, zOne_copies_11, zMne_copies_11), (nat_lit 6, zPne_copies_12, zOne_copies_12, zMne_copies_12), (nat_lit 7, zPne_copies_13, zOne_copies_13, zMne_copies_13), (nat_lit 8, zPne_copies_14, zOne_copies_14, zMne_copies_14), (nat_lit 9, zPne_copies_15, zOne_copies_15, zMne_copies_15), (nat_lit 10, zPne_copies_5, zOne_copies_5, zMne_copies_5), (nat_lit 11, zPne_copies_6, zOne_copies_6, zMne_copies_6), (nat_lit 12, zPne_copies_17, zOne_copies_17, zMne_copies_17), (nat_lit 13, zPne_copies_18, zOne_copies_18, zMne_copies_18), (nat_lit 14, zPne_copies_19, zOne_copies_19, zMne_copies_19), (nat_lit 15, zPne_copies_20, zOne_copies_20, zMne_copies_20), (nat_lit 16, zPne_copies_21, zOne_copies_21, zMne_copies_21), (nat_lit 17, zPne_begin, zOne_begin, zMne_begin)] pCne_keepText qCne_keepText) 6).2 [] η12 x13 η13 → ((gC2 wl_ne [(nat_lit 0, zPne_copies_4, zOne_copies_4, zMne_copies_4), (nat_lit 1, zPne_copies_7, zOne_copies_7, zMne_copies_7), (nat_lit 2, zPne_copies_8, zOne_copies_8, zMne_copies_8), (nat_lit 3, zPne_copies_9, zOne_copies_9, zMne_copies_9), (nat_lit 4, zPne_copies_10, zOne_copies_10, zMne_copies_10), (nat_lit 5, zPne_copies_11, zOne_copies_11, zMne_copies_11), (nat_lit 6, zPne_copies_12, zOne_copies_12, zMne_copies_12), (nat_lit 7, zPne_copies_13, zOne_copies_13, zMne_copies_13), (nat_lit 8, zPne_copies_14, zOne_copies_14, zMne_copies_14), (nat_lit 9, zPne_copies_15, zOne_copies_15, zMne_copies_15), (nat_lit 10, zPne_copies_5, zOne_copies_5, zMne_copies_5), (nat_lit 11, zPne_copies_6, zOne_copies_6, zMne_copies_6), (nat_lit 12, zPne_copies_17, zOne_copies_17, zMne_copies_17), (nat_lit 13, zPne_copies_18, zOne_copies_18, zMne_copies_18), (nat_lit 14, zPne_copies_19, zOne_copies_19, zMne_copies_19), (nat_lit 15, zPne_copies_20, zOne_copies_20, zMne_copies_20), (nat_lit 16, zPne_copies_21, zOne_copies_21, zMne_copies_21), (nat_lit 17, zPne_begin, zOne_begin, zMne_begin)] pCne_keepText qCne_keepText) 7).1 [] η13 := by
  intro x1 e1 r1 η1 eη1 x2 e2 r2 η2 eη2 x3 e3 r3 η3 eη3 x4 e4 r4 η4 eη4 x5 η5 h5 x6 η6 h6 x7 η7 h7 x8 η8 h8 x9 η9 h9 x10 η10 h10 x11 η11 h11 x12 η12 h12 x13 η13 h13
  have k5 : sQ wl_ne zTr zOne_copies_4 zMne_copies_4 [] η4 x5 η5 ∧ pQne_copies_4 [] η4 x5 η5 := h5
  have k6 : sQ wl_ne zTr zOne_copies_5 zMne_copies_5 [] η5 x6 η6 ∧ pQne_copies_5 [] η5 x6 η6 := h6
  have k7 : sQ wl_ne zTr zOne_copies_6 zMne_copies_6 [] η6 x7 η7 ∧ pQne_copies_6 [] η6 x7 η7 := h7
  have k8 : sQ wl_ne zTr zOne_copies_7 zMne_copies_7 [] η7 x8 η8 ∧ pQne_copies_7 [] η7 x8 η8 := h8
  have k9 : sQ wl_ne zTr zOne_copies_8 zMne_copies_8 [] η8 x9 η9 ∧ pQne_copies_8 [] η8 x9 η9 := h9
  have k10 : sQ wl_ne zTr zOne_copies_9 zMne_copies_9 [] η9 x10 η10 ∧ pQne_copies_9 [] η9 x10 η10 := h10
  have k11 : sQ wl_ne zTr zOne_copies_10 zMne_copies_10 [] η10 x11 η11 ∧ pQne_copies_10 [] η10 x11 η11 := h11
  have k12 : sQ wl_ne zTr zOne_copies_11 zMne_copies_11 [] η11 x12 η12 ∧ pQne_copies_11 [] η11 x12 η12 := h12
  have k13 : sQ wl_ne zTr zOne_copies_12 zMne_copies_12 [] η12 x13 η13 ∧ pQne_copies_12 [] η12 x13 η13 := h13
  exact trivial
set_option maxHeartbeats 8000000 in
theorem zne_keepText_o8 {ro : Nat → List Int32} (η : zE) (hp : sP wl_ne zTr zPne_keepText [] η) (hpp : pPne_keepText [] η) : ∀ x1 : Int, x1 = η 0 (Int.toNat 16) → zok 0 x1 → ∀ η1 : zE, η1 = zup η 0 (Int.toNat 12) x1 → ∀ x2 : Int, x2 = η1 0 (Int.toNat 17) → zok 0 x2 → ∀ η2 : zE, η2 = zup η1 0 (Int.toNat 13) x2 → ∀ x3 : Int, x3 = η2 0 (Int.toNat 18) → zok 0 x3 → ∀ η3 : zE, η3 = zup η2 0 (Int.toNat 14) x3 → ∀ x4 : Int, x4 = η3 0 (Int.toNat 19) → zok 0 x4 → ∀ η4 : zE, η4 = zup η3 0 (Int.toNat 15) x4 → ∀ (x5 : Int) (η5 : zE), ((gC2 wl_ne [(nat_lit 0, zPne_copies_4, zOne_copies_4, zMne_copies_4), (nat_lit 1, zPne_copies_7, zOne_copies_7, zMne_copies_7), (nat_lit 2, zPne_copies_8, zOne_copies_8, zMne_copies_8), (nat_lit 3, zPne_copies_9, zOne_copies_9, zMne_copies_9), (nat_lit 4, zPne_copies_10, zOne_copies_10, zMne_copies_10), (nat_lit 5, zPne_copies_11, zOne_copies_11, zMne_copies_11), (nat_lit 6, zPne_copies_12, zOne_copies_12, zMne_copies_12), (nat_lit 7, zPne_copies_13, zOne_copies_13, zMne_copies_13), (nat_lit 8, zPne_copies_14, zOne_copies_14, zMne_copies_14), (nat_lit 9, zPne_copies_15, zOne_copies_15, zMne_copies_15), (nat_lit 10, zPne_copies_5, zOne_copies_5, zMne_copies_5), (nat_lit 11, zPne_copies_6, zOne_copies_6, zMne_copies_6), (nat_lit 12, zPne_copies_17, zOne_copies_17, zMne_copies_17), (nat_lit 13, zPne_copies_18, zOne_copies_18, zMne_copies_18), (nat_lit 14, zPne_copies_19, zOne_copies_19, zMne_copies_19), (nat_lit 15, zPne_copies_20, zOne_copies_20, zMne_copies_20), (nat_lit 16, zPne_copies_21, zOne_copies_21, zMne_copies_21), (nat_lit 17, zPne_begin, zOne_begin, zMne_begin)] pCne_keepText qCne_keepText) 0).2 [] η4 x5 η5 → ∀ (x6 : Int) (η6 : zE), ((gC2 wl_ne [(nat_lit 0, zPne_copies_4, zOne_copies_4, zMne_copies_4), (nat_lit 1, zPne_copies_7, zOne_copies_7, zMne_copies_7), (nat_lit 2, zPne_copies_8, zOne_copies_8, zMne_copies_8), (nat_lit 3, zPne_copies_9, zOne_copies_9, zMne_copies_9), (nat_lit 4, zPne_copies_10, zOne_copies_10, zMne_copies_10), (nat_lit 5, zPne_copies_11, zOne_copies_11, zMne_copies_11), (nat_lit 6, zPne_copies_12, zOne_copies_12, zMne_copies_12), (nat_lit 7, zPne_copies_13, zOne_copies_13, zMne_copies_13), (nat_lit 8, zPne_copies_14, zOne_copies_14, zMne_copies_14), (nat_lit 9, zPne_copies_15, zOne_copies_15, zMne_copies_15), (nat_lit 10, zPne_copies_5, zOne_copies_5, zMne_copies_5), (nat_lit 11, zPne_copies_6, zOne_copies_6, zMne_copies_6), (nat_lit 12, zPne_copies_17, zOne_copies_17, zMne_copies_17), (nat_lit 13, zPne_copies_18, zOne_copies_18, zMne_copies_18), (nat_lit 14, zPne_copies_19, zOne_copies_19, zMne_copies_19), (nat_lit 15, zPne_copies_20, zOne_copies_20, zMne_copies_20), (nat_lit 16, zPne_copies_21, zOne_copies_21, zMne_copies_21), (nat_lit 17, zPne_begin, zOne_begin, zMne_begin)] pCne_keepText qCne_keepText) 10).2 [] η5 x6 η6 → ∀ (x7 : Int) (η7 : zE), ((gC2 wl_ne [(nat_lit 0, zPne_copies_4, zOne_copies_4, zMne_copies_4), (nat_lit 1, zPne_copies_7, zOne_copies_7, zMne_copies_7), (nat_lit 2, zPne_copies_8, zOne_copies_8, zMne_copies_8), (nat_lit 3, zPne_copies_9, zOne_copies_9, zMne_copies_9), (nat_lit 4, zPne_copies_10, zOne_copies_10, zMne_copies_10), (nat_lit 5, zPne_copies_11, zOne_copies_11, zMne_copies_11), (nat_lit 6, zPne_copies_12, zOne_copies_12, zMne_copies_12), (nat_lit 7, zPne_copies_13, zOne_copies_13, zMne_copies_13), (nat_lit 8, zPne_copies_14, zOne_copies_14, zMne_copies_14), (nat_lit 9, zPne_copies_15, zOne_copies_15, zMne_copies_15), (nat_lit 10, zPne_copies_5, zOne_copies_5, zMne_copies_5), (nat_lit 11, zPne_copies_6, zOne_copies_6, zMne_copies_6), (nat_lit 12, zPne_copies_17, zOne_copies_17, zMne_copies_17), (nat_lit 13, zPne_copies_18, zOne_copies_18, zMne_copies_18), (nat_lit 14, zPne_copies_19, zOne_copies_19, zMne_copies_19), (nat_lit 15, zPne_copies_20, zOne_copies_20, zMne_copies_20), (nat_lit 16, zPne_copies_21, zOne_copies_21, zMne_copies_21), (nat_lit 17, zPne_begin, zOne_begin, zMne_begin)] pCne_keepText qCne_keepText) 11).2 [] η6 x7 η7 → ∀ (x8 : Int) (η8 : zE), ((gC2 wl_ne [(nat_lit 0, zPne_copies_4, zOne_copies_4, zMne_copies_4), (nat_lit 1, zPne_copies_7, zOne_copies_7, zMne_copies_7), (nat_lit 2, zPne_copies_8, zOne_copies_8, zMne_copies_8), (nat_lit 3, zPne_copies_9, zOne_copies_9, zMne_copies_9), (nat_lit 4, zPne_copies_10, zOne_copies_10, zMne_copies_10), (nat_lit 5, zPne_copies_11, zOne_copies_11, zMne_copies_11), (nat_lit 6, zPne_copies_12, zOne_copies_12, zMne_copies_12), (nat_lit 7, zPne_copies_13, zOne_copies_13, zMne_copies_13), (nat_lit 8, zPne_copies_14, zOne_copies_14, zMne_copies_14), (nat_lit 9, zPne_copies_15, zOne_copies_15, zMne_copies_15), (nat_lit 10, zPne_copies_5, zOne_copies_5, zMne_copies_5), (nat_lit 11, zPne_copies_6, zOne_copies_6, zMne_copies_6), (nat_lit 12, zPne_copies_17, zOne_copies_17, zMne_copies_17), (nat_lit 13, zPne_copies_18, zOne_copies_18, zMne_copies_18), (nat_lit 14, zPne_copies_19, zOne_copies_19, zMne_copies_19), (nat_lit 15, zPne_copies_20, zOne_copies_20, zMne_copies_20), (nat_lit 16, zPne_copies_21, zOne_copies_21, zMne_copies_21), (nat_lit 17, zPne_begin, zOne_begin, zMne_begin)] pCne_keepText qCne_keepText) 1).2 [] η7 x8 η8 → ∀ (x9 : Int) (η9 : zE), ((gC2 wl_ne [(nat_lit 0, zPne_copies_4, zOne_copies_4, zMne_copies_4), (nat_lit 1, zPne_copies_7, zOne_copies_7, zMne_copies_7), (nat_lit 2, zPne_copies_8, zOne_copies_8, zMne_copies_8), (nat_lit 3, zPne_copies_9, zOne_copies_9, zMne_copies_9), (nat_lit 4, zPne_copies_10, zOne_copies_10, zMne_copies_10), (nat_lit 5, zPne_copies_11, zOne_copies_11, zMne_copies_11), (nat_lit 6, zPne_copies_12, zOne_copies_12, zMne_copies_12), (nat_lit 7, zPne_copies_13, zOne_copies_13, zMne_copies_13), (nat_lit 8, zPne_copies_14, zOne_copies_14, zMne_copies_14), (nat_lit 9, zPne_copies_15, zOne_copies_15, zMne_copies_15), (nat_lit 10, zPne_copies_5, zOne_copies_5, zMne_copies_5), (nat_lit 11, zPne_copies_6, zOne_copies_6, zMne_copies_6), (nat_lit 12, zPne_copies_17, zOne_copies_17, zMne_copies_17), (nat_lit 13, zPne_copies_18, zOne_copies_18, zMne_copies_18), (nat_lit 14, zPne_copies_19, zOne_copies_19, zMne_copies_19), (nat_lit 15, zPne_copies_20, zOne_copies_20, zMne_copies_20), (nat_lit 16, zPne_copies_21, zOne_copies_21, zMne_copies_21), (nat_lit 17, zPne_begin, zOne_begin, zMne_begin)] pCne_keepText qCne_keepText) 2).2 [] η8 x9 η9 → ∀ (x10 : Int) (η10 : zE), ((gC2 wl_ne [(nat_lit 0, zPne_copies_4, zOne_copies_4, zMne_copies_4), (nat_lit 1, zPne_copies_7, zOne_copies_7, zMne_copies_7), (nat_lit 2, zPne_copies_8, zOne_copies_8, zMne_copies_8), (nat_lit 3, zPne_copies_9, zOne_copies_9, zMne_copies_9), (nat_lit 4, zPne_copies_10, zOne_copies_10, zMne_copies_10), (nat_lit 5, zPne_copies_11, zOne_copies_11, zMne_copies_11), (nat_lit 6, zPne_copies_12, zOne_copies_12, zMne_copies_12), (nat_lit 7, zPne_copies_13, zOne_copies_13, zMne_copies_13), (nat_lit 8, zPne_copies_14, zOne_copies_14, zMne_copies_14), (nat_lit 9, zPne_copies_15, zOne_copies_15, zMne_copies_15), (nat_lit 10, zPne_copies_5, zOne_copies_5, zMne_copies_5), (nat_lit 11, zPne_copies_6, zOne_copies_6, zMne_copies_6), (nat_lit 12, zPne_copies_17, zOne_copies_17, zMne_copies_17), (nat_lit 13, zPne_copies_18, zOne_copies_18, zMne_copies_18), (nat_lit 14, zPne_copies_19, zOne_copies_19, zMne_copies_19), (nat_lit 15, zPne_copies_20, zOne_copies_20, zMne_copies_20), (nat_lit 16, zPne_copies_21, zOne_copies_21, zMne_copies_21), (nat_lit 17, zPne_begin, zOne_begin, zMne_begin)] pCne_keepText qCne_keepText) 3).2 [] η9 x10 η10 → ∀ (x11 : Int) (η11 : zE), ((gC2 wl_ne [(nat_lit 0, zPne_copies_4, zOne_copies_4, zMne_copies_4), (nat_lit 1, zPne_copies_7, zOne_copies_7, zMne_copies_7), (nat_lit 2, zPne_copies_8, zOne_copies_8, zMne_copies_8), (nat_lit 3, zPne_copies_9, zOne_copies_9, zMne_copies_9), (nat_lit 4, zPne_copies_10, zOne_copies_10, zMne_copies_10), (nat_lit 5, zPne_copies_11, zOne_copies_11, zMne_copies_11), (nat_lit 6, zPne_copies_12, zOne_copies_12, zMne_copies_12), (nat_lit 7, zPne_copies_13, zOne_copies_13, zMne_copies_13), (nat_lit 8, zPne_copies_14, zOne_copies_14, zMne_copies_14), (nat_lit 9, zPne_copies_15, zOne_copies_15, zMne_copies_15), (nat_lit 10, zPne_copies_5, zOne_copies_5, zMne_copies_5), (nat_lit 11, zPne_copies_6, zOne_copies_6, zMne_copies_6), (nat_lit 12, zPne_copies_17, zOne_copies_17, zMne_copies_17), (nat_lit 13, zPne_copies_18, zOne_copies_18, zMne_copies_18), (nat_lit 14, zPne_copies_19, zOne_copies_19, zMne_copies_19), (nat_lit 15, zPne_copies_20, zOne_copies_20, zMne_copies_20), (nat_lit 16, zPne_copies_21, zOne_copies_21, zMne_copies_21), (nat_lit 17, zPne_begin, zOne_begin, zMne_begin)] pCne_keepText qCne_keepText) 4).2 [] η10 x11 η11 → ∀ (x12 : Int) (η12 : zE), ((gC2 wl_ne [(nat_lit 0, zPne_copies_4, zOne_copies_4, zMne_copies_4), (nat_lit 1, zPne_copies_7, zOne_copies_7, zMne_copies_7), (nat_lit 2, zPne_copies_8, zOne_copies_8, zMne_copies_8), (nat_lit 3, zPne_copies_9, zOne_copies_9, zMne_copies_9), (nat_lit 4, zPne_copies_10, zOne_copies_10, zMne_copies_10), (nat_lit 5, zPne_copies_11, zOne_copies_11, zMne_copies_11), (nat_lit 6, zPne_copies_12, zOne_copies_12, zMne_copies_12), (nat_lit 7, zPne_copies_13, zOne_copies_13, zMne_copies_13), (nat_lit 8, zPne_copies_14, zOne_copies_14, zMne_copies_14), (nat_lit 9, zPne_copies_15, zOne_copies_15, zMne_copies_15), (nat_lit 10, zPne_copies_5, zOne_copies_5, zMne_copies_5), (nat_lit 11, zPne_copies_6, zOne_copies_6, zMne_copies_6), (nat_lit 12, zPne_copies_17, zOne_copies_17, zMne_copies_17), (nat_lit 13, zPne_copies_18, zOne_copies_18, zMne_copies_18), (nat_lit 14, zPne_copies_19, zOne_copies_19, zMne_copies_19), (nat_lit 15, zPne_copies_20, zOne_copies_20, zMne_copies_20), (nat_lit 16, zPne_copies_21, zOne_copies_21, zMne_copies_21), (nat_lit 17, zPne_begin, zOne_begin, zMne_begin)] pCne_keepText qCne_keepText) 5).2 [] η11 x12 η12 → ∀ (x13 : Int) (η13 : zE), ((gC2 wl_ne [(nat_lit 0, zPne_copies_4, zOne_copies_4, zMne_copies_4), (nat_lit 1, zPne_copies_7, zOne_copies_7, zMne_copies_7), (nat_lit 2, zPne_copies_8, zOne_copies_8, zMne_copies_8), (nat_lit 3, zPne_copies_9, zOne_copies_9, zMne_copies_9), (nat_lit 4, zPne_copies_10, zOne_copies_10, zMne_copies_10), (nat_lit 5, zPne_copies_11, zOne_copies_11, zMne_copies_11), (nat_lit 6, zPne_copies_12, zOne_copies_12, zMne_copies_12), (nat_lit 7, zPne_copies_13, zOne_copies_13, zMne_copies_13), (nat_lit 8, zPne_copies_14, zOne_copies_14, zMne_copies_14), (nat_lit 9, zPne_copies_15, zOne_copies_15, zMne_copies_15), (nat_lit 10, zPne_copies_5, zOne_copies_5, zMne_copies_5), (nat_lit 11, zPne_copies_6, zOne_copies_6, zMne_copies_6), (nat_lit 12, zPne_copies_17, zOne_copies_17, zMne_copies_17), (nat_lit 13, zPne_copies_18, zOne_copies_18, zMne_copies_18), (nat_lit 14, zPne_copies_19, zOne_copies_19, zMne_copies_19), (nat_lit 15, zPne_copies_20, zOne_copies_20, zMne_copies_20), (nat_lit 16, zPne_copies_21, zOne_copies_21, zMne_copies_21), (nat_lit 17, zPne_begin, zOne_begin, zMne_begin)] pCne_keepText qCne_keepText) 6).2 [] η12 x13 η13 → ∀ (x14 : Int) (η14 : zE), ((gC2 wl_ne [(nat_lit 0, zPne_copies_4, zOne_copies_4, zMne_copies_4), (nat_lit 1, zPne_copies_7, zOne_copies_7, zMne_copies_7), (nat_lit 2, zPne_copies_8, zOne_copies_8, zMne_copies_8), (nat_lit 3, zPne_copies_9, zOne_copies_9, zMne_copies_9), (nat_lit 4, zPne_copies_10, zOne_copies_10, zMne_copies_10), (nat_lit 5, zPne_copies_11, zOne_copies_11, zMne_copies_11), (nat_lit 6, zPne_copies_12, zOne_copies_12, zMne_copies_12), (nat_lit 7, zPne_copies_13, zOne_copies_13, zMne_copies_13), (nat_lit 8, zPne_copies_14, zOne_copies_14, zMne_copies_14), (nat_lit 9, zPne_copies_15, zOne_copies_15, zMne_copies_15), (nat_lit 10, zPne_copies_5, zOne_copies_5, zMne_copies_5), (nat_lit 11, zPne_copies_6, zOne_copies_6, zMne_copies_6), (nat_lit 12, zPne_copies_17, zOne_copies_17, zMne_copies_17), (nat_lit 13, zPne_copies_18, zOne_copies_18, zMne_copies_18), (nat_lit 14, zPne_copies_19, zOne_copies_19, zMne_copies_19), (nat_lit 15, zPne_copies_20, zOne_copies_20, zMne_copies_20), (nat_lit 16, zPne_copies_21, zOne_copies_21, zMne_copies_21), (nat_lit 17, zPne_begin, zOne_begin, zMne_begin)] pCne_keepText qCne_keepText) 7).2 [] η13 x14 η14 → ((gC2 wl_ne [(nat_lit 0, zPne_copies_4, zOne_copies_4, zMne_copies_4), (nat_lit 1, zPne_copies_7, zOne_copies_7, zMne_copies_7), (nat_lit 2, zPne_copies_8, zOne_copies_8, zMne_copies_8), (nat_lit 3, zPne_copies_9, zOne_copies_9, zMne_copies_9), (nat_lit 4, zPne_copies_10, zOne_copies_10, zMne_copies_10), (nat_lit 5, zPne_copies_11, zOne_copies_11, zMne_copies_11), (nat_lit 6, zPne_copies_12, zOne_copies_12, zMne_copies_12), (nat_lit 7, zPne_copies_13, zOne_copies_13, zMne_copies_13), (nat_lit 8, zPne_copies_14, zOne_copies_14, zMne_copies_14), (nat_lit 9, zPne_copies_15, zOne_copies_15, zMne_copies_15), (nat_lit 10, zPne_copies_5, zOne_copies_5, zMne_copies_5), (nat_lit 11, zPne_copies_6, zOne_copies_6, zMne_copies_6), (nat_lit 12, zPne_copies_17, zOne_copies_17, zMne_copies_17), (nat_lit 13, zPne_copies_18, zOne_copies_18, zMne_copies_18), (nat_lit 14, zPne_copies_19, zOne_copies_19, zMne_copies_19), (nat_lit 15, zPne_copies_20, zOne_copies_20, zMne_copies_20), (nat_lit 16, zPne_copies_21, zOne_copies_21, zMne_copies_21), (nat_lit 17, zPne_begin, zOne_begin, zMne_begin)] pCne_keepText qCne_keepText) 8).1 [] η14 := by
  intro x1 e1 r1 η1 eη1 x2 e2 r2 η2 eη2 x3 e3 r3 η3 eη3 x4 e4 r4 η4 eη4 x5 η5 h5 x6 η6 h6 x7 η7 h7 x8 η8 h8 x9 η9 h9 x10 η10 h10 x11 η11 h11 x12 η12 h12 x13 η13 h13 x14 η14 h14
  have k5 : sQ wl_ne zTr zOne_copies_4 zMne_copies_4 [] η4 x5 η5 ∧ pQne_copies_4 [] η4 x5 η5 := h5
  have k6 : sQ wl_ne zTr zOne_copies_5 zMne_copies_5 [] η5 x6 η6 ∧ pQne_copies_5 [] η5 x6 η6 := h6
  have k7 : sQ wl_ne zTr zOne_copies_6 zMne_copies_6 [] η6 x7 η7 ∧ pQne_copies_6 [] η6 x7 η7 := h7
  have k8 : sQ wl_ne zTr zOne_copies_7 zMne_copies_7 [] η7 x8 η8 ∧ pQne_copies_7 [] η7 x8 η8 := h8
  have k9 : sQ wl_ne zTr zOne_copies_8 zMne_copies_8 [] η8 x9 η9 ∧ pQne_copies_8 [] η8 x9 η9 := h9
  have k10 : sQ wl_ne zTr zOne_copies_9 zMne_copies_9 [] η9 x10 η10 ∧ pQne_copies_9 [] η9 x10 η10 := h10
  have k11 : sQ wl_ne zTr zOne_copies_10 zMne_copies_10 [] η10 x11 η11 ∧ pQne_copies_10 [] η10 x11 η11 := h11
  have k12 : sQ wl_ne zTr zOne_copies_11 zMne_copies_11 [] η11 x12 η12 ∧ pQne_copies_11 [] η11 x12 η12 := h12
  have k13 : sQ wl_ne zTr zOne_copies_12 zMne_copies_12 [] η12 x13 η13 ∧ pQne_copies_12 [] η12 x13 η13 := h13
  have k14 : sQ wl_ne zTr zOne_copies_13 zMne_copies_13 [] η13 x14 η14 ∧ pQne_copies_13 [] η13 x14 η14 := h14
  exact trivial
set_option maxHeartbeats 8000000 in
theorem zne_keepText_o9 {ro : Nat → List Int32} (η : zE) (hp : sP wl_ne zTr zPne_keepText [] η) (hpp : pPne_keepText [] η) : ∀ x1 : Int, x1 = η 0 (Int.toNat 16) → zok 0 x1 → ∀ η1 : zE, η1 = zup η 0 (Int.toNat 12) x1 → ∀ x2 : Int, x2 = η1 0 (Int.toNat 17) → zok 0 x2 → ∀ η2 : zE, η2 = zup η1 0 (Int.toNat 13) x2 → ∀ x3 : Int, x3 = η2 0 (Int.toNat 18) → zok 0 x3 → ∀ η3 : zE, η3 = zup η2 0 (Int.toNat 14) x3 → ∀ x4 : Int, x4 = η3 0 (Int.toNat 19) → zok 0 x4 → ∀ η4 : zE, η4 = zup η3 0 (Int.toNat 15) x4 → ∀ (x5 : Int) (η5 : zE), ((gC2 wl_ne [(nat_lit 0, zPne_copies_4, zOne_copies_4, zMne_copies_4), (nat_lit 1, zPne_copies_7, zOne_copies_7, zMne_copies_7), (nat_lit 2, zPne_copies_8, zOne_copies_8, zMne_copies_8), (nat_lit 3, zPne_copies_9, zOne_copies_9, zMne_copies_9), (nat_lit 4, zPne_copies_10, zOne_copies_10, zMne_copies_10), (nat_lit 5, zPne_copies_11, zOne_copies_11, zMne_copies_11), (nat_lit 6, zPne_copies_12, zOne_copies_12, zMne_copies_12), (nat_lit 7, zPne_copies_13, zOne_copies_13, zMne_copies_13), (nat_lit 8, zPne_copies_14, zOne_copies_14, zMne_copies_14), (nat_lit 9, zPne_copies_15, zOne_copies_15, zMne_copies_15), (nat_lit 10, zPne_copies_5, zOne_copies_5, zMne_copies_5), (nat_lit 11, zPne_copies_6, zOne_copies_6, zMne_copies_6), (nat_lit 12, zPne_copies_17, zOne_copies_17, zMne_copies_17), (nat_lit 13, zPne_copies_18, zOne_copies_18, zMne_copies_18), (nat_lit 14, zPne_copies_19, zOne_copies_19, zMne_copies_19), (nat_lit 15, zPne_copies_20, zOne_copies_20, zMne_copies_20), (nat_lit 16, zPne_copies_21, zOne_copies_21, zMne_copies_21), (nat_lit 17, zPne_begin, zOne_begin, zMne_begin)] pCne_keepText qCne_keepText) 0).2 [] η4 x5 η5 → ∀ (x6 : Int) (η6 : zE), ((gC2 wl_ne [(nat_lit 0, zPne_copies_4, zOne_copies_4, zMne_copies_4), (nat_lit 1, zPne_copies_7, zOne_copies_7, zMne_copies_7), (nat_lit 2, zPne_copies_8, zOne_copies_8, zMne_copies_8), (nat_lit 3, zPne_copies_9, zOne_copies_9, zMne_copies_9), (nat_lit 4, zPne_copies_10, zOne_copies_10, zMne_copies_10), (nat_lit 5, zPne_copies_11, zOne_copies_11, zMne_copies_11), (nat_lit 6, zPne_copies_12, zOne_copies_12, zMne_copies_12), (nat_lit 7, zPne_copies_13, zOne_copies_13, zMne_copies_13), (nat_lit 8, zPne_copies_14, zOne_copies_14, zMne_copies_14), (nat_lit 9, zPne_copies_15, zOne_copies_15, zMne_copies_15), (nat_lit 10, zPne_copies_5, zOne_copies_5, zMne_copies_5), (nat_lit 11, zPne_copies_6, zOne_copies_6, zMne_copies_6), (nat_lit 12, zPne_copies_17, zOne_copies_17, zMne_copies_17), (nat_lit 13, zPne_copies_18, zOne_copies_18, zMne_copies_18), (nat_lit 14, zPne_copies_19, zOne_copies_19, zMne_copies_19), (nat_lit 15, zPne_copies_20, zOne_copies_20, zMne_copies_20), (nat_lit 16, zPne_copies_21, zOne_copies_21, zMne_copies_21), (nat_lit 17, zPne_begin, zOne_begin, zMne_begin)] pCne_keepText qCne_keepText) 10).2 [] η5 x6 η6 → ∀ (x7 : Int) (η7 : zE), ((gC2 wl_ne [(nat_lit 0, zPne_copies_4, zOne_copies_4, zMne_copies_4), (nat_lit 1, zPne_copies_7, zOne_copies_7, zMne_copies_7), (nat_lit 2, zPne_copies_8, zOne_copies_8, zMne_copies_8), (nat_lit 3, zPne_copies_9, zOne_copies_9, zMne_copies_9), (nat_lit 4, zPne_copies_10, zOne_copies_10, zMne_copies_10), (nat_lit 5, zPne_copies_11, zOne_copies_11, zMne_copies_11), (nat_lit 6, zPne_copies_12, zOne_copies_12, zMne_copies_12), (nat_lit 7, zPne_copies_13, zOne_copies_13, zMne_copies_13), (nat_lit 8, zPne_copies_14, zOne_copies_14, zMne_copies_14), (nat_lit 9, zPne_copies_15, zOne_copies_15, zMne_copies_15), (nat_lit 10, zPne_copies_5, zOne_copies_5, zMne_copies_5), (nat_lit 11, zPne_copies_6, zOne_copies_6, zMne_copies_6), (nat_lit 12, zPne_copies_17, zOne_copies_17, zMne_copies_17), (nat_lit 13, zPne_copies_18, zOne_copies_18, zMne_copies_18), (nat_lit 14, zPne_copies_19, zOne_copies_19, zMne_copies_19), (nat_lit 15, zPne_copies_20, zOne_copies_20, zMne_copies_20), (nat_lit 16, zPne_copies_21, zOne_copies_21, zMne_copies_21), (nat_lit 17, zPne_begin, zOne_begin, zMne_begin)] pCne_keepText qCne_keepText) 11).2 [] η6 x7 η7 → ∀ (x8 : Int) (η8 : zE), ((gC2 wl_ne [(nat_lit 0, zPne_copies_4, zOne_copies_4, zMne_copies_4), (nat_lit 1, zPne_copies_7, zOne_copies_7, zMne_copies_7), (nat_lit 2, zPne_copies_8, zOne_copies_8, zMne_copies_8), (nat_lit 3, zPne_copies_9, zOne_copies_9, zMne_copies_9), (nat_lit 4, zPne_copies_10, zOne_copies_10, zMne_copies_10), (nat_lit 5, zPne_copies_11, zOne_copies_11, zMne_copies_11), (nat_lit 6, zPne_copies_12, zOne_copies_12, zMne_copies_12), (nat_lit 7, zPne_copies_13, zOne_copies_13, zMne_copies_13), (nat_lit 8, zPne_copies_14, zOne_copies_14, zMne_copies_14), (nat_lit 9, zPne_copies_15, zOne_copies_15, zMne_copies_15), (nat_lit 10, zPne_copies_5, zOne_copies_5, zMne_copies_5), (nat_lit 11, zPne_copies_6, zOne_copies_6, zMne_copies_6), (nat_lit 12, zPne_copies_17, zOne_copies_17, zMne_copies_17), (nat_lit 13, zPne_copies_18, zOne_copies_18, zMne_copies_18), (nat_lit 14, zPne_copies_19, zOne_copies_19, zMne_copies_19), (nat_lit 15, zPne_copies_20, zOne_copies_20, zMne_copies_20), (nat_lit 16, zPne_copies_21, zOne_copies_21, zMne_copies_21), (nat_lit 17, zPne_begin, zOne_begin, zMne_begin)] pCne_keepText qCne_keepText) 1).2 [] η7 x8 η8 → ∀ (x9 : Int) (η9 : zE), ((gC2 wl_ne [(nat_lit 0, zPne_copies_4, zOne_copies_4, zMne_copies_4), (nat_lit 1, zPne_copies_7, zOne_copies_7, zMne_copies_7), (nat_lit 2, zPne_copies_8, zOne_copies_8, zMne_copies_8), (nat_lit 3, zPne_copies_9, zOne_copies_9, zMne_copies_9), (nat_lit 4, zPne_copies_10, zOne_copies_10, zMne_copies_10), (nat_lit 5, zPne_copies_11, zOne_copies_11, zMne_copies_11), (nat_lit 6, zPne_copies_12, zOne_copies_12, zMne_copies_12), (nat_lit 7, zPne_copies_13, zOne_copies_13, zMne_copies_13), (nat_lit 8, zPne_copies_14, zOne_copies_14, zMne_copies_14), (nat_lit 9, zPne_copies_15, zOne_copies_15, zMne_copies_15), (nat_lit 10, zPne_copies_5, zOne_copies_5, zMne_copies_5), (nat_lit 11, zPne_copies_6, zOne_copies_6, zMne_copies_6), (nat_lit 12, zPne_copies_17, zOne_copies_17, zMne_copies_17), (nat_lit 13, zPne_copies_18, zOne_copies_18, zMne_copies_18), (nat_lit 14, zPne_copies_19, zOne_copies_19, zMne_copies_19), (nat_lit 15, zPne_copies_20, zOne_copies_20, zMne_copies_20), (nat_lit 16, zPne_copies_21, zOne_copies_21, zMne_copies_21), (nat_lit 17, zPne_begin, zOne_begin, zMne_begin)] pCne_keepText qCne_keepText) 2).2 [] η8 x9 η9 → ∀ (x10 : Int) (η10 : zE), ((gC2 wl_ne [(nat_lit 0, zPne_copies_4, zOne_copies_4, zMne_copies_4), (nat_lit 1, zPne_copies_7, zOne_copies_7, zMne_copies_7), (nat_lit 2, zPne_copies_8, zOne_copies_8, zMne_copies_8), (nat_lit 3, zPne_copies_9, zOne_copies_9, zMne_copies_9), (nat_lit 4, zPne_copies_10, zOne_copies_10, zMne_copies_10), (nat_lit 5, zPne_copies_11, zOne_copies_11, zMne_copies_11), (nat_lit 6, zPne_copies_12, zOne_copies_12, zMne_copies_12), (nat_lit 7, zPne_copies_13, zOne_copies_13, zMne_copies_13), (nat_lit 8, zPne_copies_14, zOne_copies_14, zMne_copies_14), (nat_lit 9, zPne_copies_15, zOne_copies_15, zMne_copies_15), (nat_lit 10, zPne_copies_5, zOne_copies_5, zMne_copies_5), (nat_lit 11, zPne_copies_6, zOne_copies_6, zMne_copies_6), (nat_lit 12, zPne_copies_17, zOne_copies_17, zMne_copies_17), (nat_lit 13, zPne_copies_18, zOne_copies_18, zMne_copies_18), (nat_lit 14, zPne_copies_19, zOne_copies_19, zMne_copies_19), (nat_lit 15, zPne_copies_20, zOne_copies_20, zMne_copies_20), (nat_lit 16, zPne_copies_21, zOne_copies_21, zMne_copies_21), (nat_lit 17, zPne_begin, zOne_begin, zMne_begin)] pCne_keepText qCne_keepText) 3).2 [] η9 x10 η10 → ∀ (x11 : Int) (η11 : zE), ((gC2 wl_ne [(nat_lit 0, zPne_copies_4, zOne_copies_4, zMne_copies_4), (nat_lit 1, zPne_copies_7, zOne_copies_7, zMne_copies_7), (nat_lit 2, zPne_copies_8, zOne_copies_8, zMne_copies_8), (nat_lit 3, zPne_copies_9, zOne_copies_9, zMne_copies_9), (nat_lit 4, zPne_copies_10, zOne_copies_10, zMne_copies_10), (nat_lit 5, zPne_copies_11, zOne_copies_11, zMne_copies_11), (nat_lit 6, zPne_copies_12, zOne_copies_12, zMne_copies_12), (nat_lit 7, zPne_copies_13, zOne_copies_13, zMne_copies_13), (nat_lit 8, zPne_copies_14, zOne_copies_14, zMne_copies_14), (nat_lit 9, zPne_copies_15, zOne_copies_15, zMne_copies_15), (nat_lit 10, zPne_copies_5, zOne_copies_5, zMne_copies_5), (nat_lit 11, zPne_copies_6, zOne_copies_6, zMne_copies_6), (nat_lit 12, zPne_copies_17, zOne_copies_17, zMne_copies_17), (nat_lit 13, zPne_copies_18, zOne_copies_18, zMne_copies_18), (nat_lit 14, zPne_copies_19, zOne_copies_19, zMne_copies_19), (nat_lit 15, zPne_copies_20, zOne_copies_20, zMne_copies_20), (nat_lit 16, zPne_copies_21, zOne_copies_21, zMne_copies_21), (nat_lit 17, zPne_begin, zOne_begin, zMne_begin)] pCne_keepText qCne_keepText) 4).2 [] η10 x11 η11 → ∀ (x12 : Int) (η12 : zE), ((gC2 wl_ne [(nat_lit 0, zPne_copies_4, zOne_copies_4, zMne_copies_4), (nat_lit 1, zPne_copies_7, zOne_copies_7, zMne_copies_7), (nat_lit 2, zPne_copies_8, zOne_copies_8, zMne_copies_8), (nat_lit 3, zPne_copies_9, zOne_copies_9, zMne_copies_9), (nat_lit 4, zPne_copies_10, zOne_copies_10, zMne_copies_10), (nat_lit 5, zPne_copies_11, zOne_copies_11, zMne_copies_11), (nat_lit 6, zPne_copies_12, zOne_copies_12, zMne_copies_12), (nat_lit 7, zPne_copies_13, zOne_copies_13, zMne_copies_13), (nat_lit 8, zPne_copies_14, zOne_copies_14, zMne_copies_14), (nat_lit 9, zPne_copies_15, zOne_copies_15, zMne_copies_15), (nat_lit 10, zPne_copies_5, zOne_copies_5, zMne_copies_5), (nat_lit 11, zPne_copies_6, zOne_copies_6, zMne_copies_6), (nat_lit 12, zPne_copies_17, zOne_copies_17, zMne_copies_17), (nat_lit 13, zPne_copies_18, zOne_copies_18, zMne_copies_18), (nat_lit 14, zPne_copies_19, zOne_copies_19, zMne_copies_19), (nat_lit 15, zPne_copies_20, zOne_copies_20, zMne_copies_20), (nat_lit 16, zPne_copies_21, zOne_copies_21, zMne_copies_21), (nat_lit 17, zPne_begin, zOne_begin, zMne_begin)] pCne_keepText qCne_keepText) 5).2 [] η11 x12 η12 → ∀ (x13 : Int) (η13 : zE), ((gC2 wl_ne [(nat_lit 0, zPne_copies_4, zOne_copies_4, zMne_copies_4), (nat_lit 1, zPne_copies_7, zOne_copies_7, zMne_copies_7), (nat_lit 2, zPne_copies_8, zOne_copies_8, zMne_copies_8), (nat_lit 3, zPne_copies_9, zOne_copies_9, zMne_copies_9), (nat_lit 4, zPne_copies_10, zOne_copies_10, zMne_copies_10), (nat_lit 5, zPne_copies_11, zOne_copies_11, zMne_copies_11), (nat_lit 6, zPne_copies_12, zOne_copies_12, zMne_copies_12), (nat_lit 7, zPne_copies_13, zOne_copies_13, zMne_copies_13), (nat_lit 8, zPne_copies_14, zOne_copies_14, zMne_copies_14), (nat_lit 9, zPne_copies_15, zOne_copies_15, zMne_copies_15), (nat_lit 10, zPne_copies_5, zOne_copies_5, zMne_copies_5), (nat_lit 11, zPne_copies_6, zOne_copies_6, zMne_copies_6), (nat_lit 12, zPne_copies_17, zOne_copies_17, zMne_copies_17), (nat_lit 13, zPne_copies_18, zOne_copies_18, zMne_copies_18), (nat_lit 14, zPne_copies_19, zOne_copies_19, zMne_copies_19), (nat_lit 15, zPne_copies_20, zOne_copies_20, zMne_copies_20), (nat_lit 16, zPne_copies_21, zOne_copies_21, zMne_copies_21), (nat_lit 17, zPne_begin, zOne_begin, zMne_begin)] pCne_keepText qCne_keepText) 6).2 [] η12 x13 η13 → ∀ (x14 : Int) (η14 : zE), ((gC2 wl_ne [(nat_lit 0, zPne_copies_4, zOne_copies_4, zMne_copies_4), (nat_lit 1, zPne_copies_7, zOne_copies_7, zMne_copies_7), (nat_lit 2, zPne_copies_8, zOne_copies_8, zMne_copies_8), (nat_lit 3, zPne_copies_9, zOne_copies_9, zMne_copies_9), (nat_lit 4, zPne_copies_10, zOne_copies_10, zMne_copies_10), (nat_lit 5, zPne_copies_11, zOne_copies_11, zMne_copies_11), (nat_lit 6, zPne_copies_12, zOne_copies_12, zMne_copies_12), (nat_lit 7, zPne_copies_13, zOne_copies_13, zMne_copies_13), (nat_lit 8, zPne_copies_14, zOne_copies_14, zMne_copies_14), (nat_lit 9, zPne_copies_15, zOne_copies_15, zMne_copies_15), (nat_lit 10, zPne_copies_5, zOne_copies_5, zMne_copies_5), (nat_lit 11, zPne_copies_6, zOne_copies_6, zMne_copies_6), (nat_lit 12, zPne_copies_17, zOne_copies_17, zMne_copies_17), (nat_lit 13, zPne_copies_18, zOne_copies_18, zMne_copies_18), (nat_lit 14, zPne_copies_19, zOne_copies_19, zMne_copies_19), (nat_lit 15, zPne_copies_20, zOne_copies_20, zMne_copies_20), (nat_lit 16, zPne_copies_21, zOne_copies_21, zMne_copies_21), (nat_lit 17, zPne_begin, zOne_begin, zMne_begin)] pCne_keepText qCne_keepText) 7).2 [] η13 x14 η14 → ∀ (x15 : Int) (η15 : zE), ((gC2 wl_ne [(nat_lit 0, zPne_copies_4, zOne_copies_4, zMne_copies_4), (nat_lit 1, zPne_copies_7, zOne_copies_7, zMne_copies_7), (nat_lit 2, zPne_copies_8, zOne_copies_8, zMne_copies_8), (nat_lit 3, zPne_copies_9, zOne_copies_9, zMne_copies_9), (nat_lit 4, zPne_copies_10, zOne_copies_10, zMne_copies_10), (nat_lit 5, zPne_copies_11, zOne_copies_11, zMne_copies_11), (nat_lit 6, zPne_copies_12, zOne_copies_12, zMne_copies_12), (nat_lit 7, zPne_copies_13, zOne_copies_13, zMne_copies_13), (nat_lit 8, zPne_copies_14, zOne_copies_14, zMne_copies_14), (nat_lit 9, zPne_copies_15, zOne_copies_15, zMne_copies_15), (nat_lit 10, zPne_copies_5, zOne_copies_5, zMne_copies_5), (nat_lit 11, zPne_copies_6, zOne_copies_6, zMne_copies_6), (nat_lit 12, zPne_copies_17, zOne_copies_17, zMne_copies_17), (nat_lit 13, zPne_copies_18, zOne_copies_18, zMne_copies_18), (nat_lit 14, zPne_copies_19, zOne_copies_19, zMne_copies_19), (nat_lit 15, zPne_copies_20, zOne_copies_20, zMne_copies_20), (nat_lit 16, zPne_copies_21, zOne_copies_21, zMne_copies_21), (nat_lit 17, zPne_begin, zOne_begin, zMne_begin)] pCne_keepText qCne_keepText) 8).2 [] η14 x15 η15 → ((gC2 wl_ne [(nat_lit 0, zPne_copies_4, zOne_copies_4, zMne_copies_4), (nat_lit 1, zPne_copies_7, zOne_copies_7, zMne_copies_7), (nat_lit 2, zPne_copies_8, zOne_copies_8, zMne_copies_8), (nat_lit 3, zPne_copies_9, zOne_copies_9, zMne_copies_9), (nat_lit 4, zPne_copies_10, zOne_copies_10, zMne_copies_10), (nat_lit 5, zPne_copies_11, zOne_copies_11, zMne_copies_11), (nat_lit 6, zPne_copies_12, zOne_copies_12, zMne_copies_12), (nat_lit 7, zPne_copies_13, zOne_copies_13, zMne_copies_13), (nat_lit 8, zPne_copies_14, zOne_copies_14, zMne_copies_14), (nat_lit 9, zPne_copies_15, zOne_copies_15, zMne_copies_15), (nat_lit 10, zPne_copies_5, zOne_copies_5, zMne_copies_5), (nat_lit 11, zPne_copies_6, zOne_copies_6, zMne_copies_6), (nat_lit 12, zPne_copies_17, zOne_copies_17, zMne_copies_17), (nat_lit 13, zPne_copies_18, zOne_copies_18, zMne_copies_18), (nat_lit 14, zPne_copies_19, zOne_copies_19, zMne_copies_19), (nat_lit 15, zPne_copies_20, zOne_copies_20, zMne_copies_20), (nat_lit 16, zPne_copies_21, zOne_copies_21, zMne_copies_21), (nat_lit 17, zPne_begin, zOne_begin, zMne_begin)] pCne_keepText qCne_keepText) 9).1 [] η15 := by
  intro x1 e1 r1 η1 eη1 x2 e2 r2 η2 eη2 x3 e3 r3 η3 eη3 x4 e4 r4 η4 eη4 x5 η5 h5 x6 η6 h6 x7 η7 h7 x8 η8 h8 x9 η9 h9 x10 η10 h10 x11 η11 h11 x12 η12 h12 x13 η13 h13 x14 η14 h14 x15 η15 h15
  have k5 : sQ wl_ne zTr zOne_copies_4 zMne_copies_4 [] η4 x5 η5 ∧ pQne_copies_4 [] η4 x5 η5 := h5
  have k6 : sQ wl_ne zTr zOne_copies_5 zMne_copies_5 [] η5 x6 η6 ∧ pQne_copies_5 [] η5 x6 η6 := h6
  have k7 : sQ wl_ne zTr zOne_copies_6 zMne_copies_6 [] η6 x7 η7 ∧ pQne_copies_6 [] η6 x7 η7 := h7
  have k8 : sQ wl_ne zTr zOne_copies_7 zMne_copies_7 [] η7 x8 η8 ∧ pQne_copies_7 [] η7 x8 η8 := h8
  have k9 : sQ wl_ne zTr zOne_copies_8 zMne_copies_8 [] η8 x9 η9 ∧ pQne_copies_8 [] η8 x9 η9 := h9
  have k10 : sQ wl_ne zTr zOne_copies_9 zMne_copies_9 [] η9 x10 η10 ∧ pQne_copies_9 [] η9 x10 η10 := h10
  have k11 : sQ wl_ne zTr zOne_copies_10 zMne_copies_10 [] η10 x11 η11 ∧ pQne_copies_10 [] η10 x11 η11 := h11
  have k12 : sQ wl_ne zTr zOne_copies_11 zMne_copies_11 [] η11 x12 η12 ∧ pQne_copies_11 [] η11 x12 η12 := h12
  have k13 : sQ wl_ne zTr zOne_copies_12 zMne_copies_12 [] η12 x13 η13 ∧ pQne_copies_12 [] η12 x13 η13 := h13
  have k14 : sQ wl_ne zTr zOne_copies_13 zMne_copies_13 [] η13 x14 η14 ∧ pQne_copies_13 [] η13 x14 η14 := h14
  have k15 : sQ wl_ne zTr zOne_copies_14 zMne_copies_14 [] η14 x15 η15 ∧ pQne_copies_14 [] η14 x15 η15 := h15
  exact trivial
set_option maxHeartbeats 8000000 in
theorem zne_keepText_o10 {ro : Nat → List Int32} (η : zE) (hp : sP wl_ne zTr zPne_keepText [] η) (hpp : pPne_keepText [] η) : ∀ x1 : Int, x1 = η 0 (Int.toNat 16) → zok 0 x1 → ∀ η1 : zE, η1 = zup η 0 (Int.toNat 12) x1 → ∀ x2 : Int, x2 = η1 0 (Int.toNat 17) → zok 0 x2 → ∀ η2 : zE, η2 = zup η1 0 (Int.toNat 13) x2 → ∀ x3 : Int, x3 = η2 0 (Int.toNat 18) → zok 0 x3 → ∀ η3 : zE, η3 = zup η2 0 (Int.toNat 14) x3 → ∀ x4 : Int, x4 = η3 0 (Int.toNat 19) → zok 0 x4 → ∀ η4 : zE, η4 = zup η3 0 (Int.toNat 15) x4 → ∀ (x5 : Int) (η5 : zE), ((gC2 wl_ne [(nat_lit 0, zPne_copies_4, zOne_copies_4, zMne_copies_4), (nat_lit 1, zPne_copies_7, zOne_copies_7, zMne_copies_7), (nat_lit 2, zPne_copies_8, zOne_copies_8, zMne_copies_8), (nat_lit 3, zPne_copies_9, zOne_copies_9, zMne_copies_9), (nat_lit 4, zPne_copies_10, zOne_copies_10, zMne_copies_10), (nat_lit 5, zPne_copies_11, zOne_copies_11, zMne_copies_11), (nat_lit 6, zPne_copies_12, zOne_copies_12, zMne_copies_12), (nat_lit 7, zPne_copies_13, zOne_copies_13, zMne_copies_13), (nat_lit 8, zPne_copies_14, zOne_copies_14, zMne_copies_14), (nat_lit 9, zPne_copies_15, zOne_copies_15, zMne_copies_15), (nat_lit 10, zPne_copies_5, zOne_copies_5, zMne_copies_5), (nat_lit 11, zPne_copies_6, zOne_copies_6, zMne_copies_6), (nat_lit 12, zPne_copies_17, zOne_copies_17, zMne_copies_17), (nat_lit 13, zPne_copies_18, zOne_copies_18, zMne_copies_18), (nat_lit 14, zPne_copies_19, zOne_copies_19, zMne_copies_19), (nat_lit 15, zPne_copies_20, zOne_copies_20, zMne_copies_20), (nat_lit 16, zPne_copies_21, zOne_copies_21, zMne_copies_21), (nat_lit 17, zPne_begin, zOne_begin, zMne_begin)] pCne_keepText qCne_keepText) 0).2 [] η4 x5 η5 → ∀ (x6 : Int) (η6 : zE), ((gC2 wl_ne [(nat_lit 0, zPne_copies_4, zOne_copies_4, zMne_copies_4), (nat_lit 1, zPne_copies_7, zOne_copies_7, zMne_copies_7), (nat_lit 2, zPne_copies_8, zOne_copies_8, zMne_copies_8), (nat_lit 3, zPne_copies_9, zOne_copies_9, zMne_copies_9), (nat_lit 4, zPne_copies_10, zOne_copies_10, zMne_copies_10), (nat_lit 5, zPne_copies_11, zOne_copies_11, zMne_copies_11), (nat_lit 6, zPne_copies_12, zOne_copies_12, zMne_copies_12), (nat_lit 7, zPne_copies_13, zOne_copies_13, zMne_copies_13), (nat_lit 8, zPne_copies_14, zOne_copies_14, zMne_copies_14), (nat_lit 9, zPne_copies_15, zOne_copies_15, zMne_copies_15), (nat_lit 10, zPne_copies_5, zOne_copies_5, zMne_copies_5), (nat_lit 11, zPne_copies_6, zOne_copies_6, zMne_copies_6), (nat_lit 12, zPne_copies_17, zOne_copies_17, zMne_copies_17), (nat_lit 13, zPne_copies_18, zOne_copies_18, zMne_copies_18), (nat_lit 14, zPne_copies_19, zOne_copies_19, zMne_copies_19), (nat_lit 15, zPne_copies_20, zOne_copies_20, zMne_copies_20), (nat_lit 16, zPne_copies_21, zOne_copies_21, zMne_copies_21), (nat_lit 17, zPne_begin, zOne_begin, zMne_begin)] pCne_keepText qCne_keepText) 10).2 [] η5 x6 η6 → ∀ (x7 : Int) (η7 : zE), ((gC2 wl_ne [(nat_lit 0, zPne_copies_4, zOne_copies_4, zMne_copies_4), (nat_lit 1, zPne_copies_7, zOne_copies_7, zMne_copies_7), (nat_lit 2, zPne_copies_8, zOne_copies_8, zMne_copies_8), (nat_lit 3, zPne_copies_9, zOne_copies_9, zMne_copies_9), (nat_lit 4, zPne_copies_10, zOne_copies_10, zMne_copies_10), (nat_lit 5, zPne_copies_11, zOne_copies_11, zMne_copies_11), (nat_lit 6, zPne_copies_12, zOne_copies_12, zMne_copies_12), (nat_lit 7, zPne_copies_13, zOne_copies_13, zMne_copies_13), (nat_lit 8, zPne_copies_14, zOne_copies_14, zMne_copies_14), (nat_lit 9, zPne_copies_15, zOne_copies_15, zMne_copies_15), (nat_lit 10, zPne_copies_5, zOne_copies_5, zMne_copies_5), (nat_lit 11, zPne_copies_6, zOne_copies_6, zMne_copies_6), (nat_lit 12, zPne_copies_17, zOne_copies_17, zMne_copies_17), (nat_lit 13, zPne_copies_18, zOne_copies_18, zMne_copies_18), (nat_lit 14, zPne_copies_19, zOne_copies_19, zMne_copies_19), (nat_lit 15, zPne_copies_20, zOne_copies_20, zMne_copies_20), (nat_lit 16, zPne_copies_21, zOne_copies_21, zMne_copies_21), (nat_lit 17, zPne_begin, zOne_begin, zMne_begin)] pCne_keepText qCne_keepText) 11).2 [] η6 x7 η7 → ∀ (x8 : Int) (η8 : zE), ((gC2 wl_ne [(nat_lit 0, zPne_copies_4, zOne_copies_4, zMne_copies_4), (nat_lit 1, zPne_copies_7, zOne_copies_7, zMne_copies_7), (nat_lit 2, zPne_copies_8, zOne_copies_8, zMne_copies_8), (nat_lit 3, zPne_copies_9, zOne_copies_9, zMne_copies_9), (nat_lit 4, zPne_copies_10, zOne_copies_10, zMne_copies_10), (nat_lit 5, zPne_copies_11, zOne_copies_11, zMne_copies_11), (nat_lit 6, zPne_copies_12, zOne_copies_12, zMne_copies_12), (nat_lit 7, zPne_copies_13, zOne_copies_13, zMne_copies_13), (nat_lit 8, zPne_copies_14, zOne_copies_14, zMne_copies_14), (nat_lit 9, zPne_copies_15, zOne_copies_15, zMne_copies_15), (nat_lit 10, zPne_copies_5, zOne_copies_5, zMne_copies_5), (nat_lit 11, zPne_copies_6, zOne_copies_6, zMne_copies_6), (nat_lit 12, zPne_copies_17, zOne_copies_17, zMne_copies_17), (nat_lit 13, zPne_copies_18, zOne_copies_18, zMne_copies_18), (nat_lit 14, zPne_copies_19, zOne_copies_19, zMne_copies_19), (nat_lit 15, zPne_copies_20, zOne_copies_20, zMne_copies_20), (nat_lit 16, zPne_copies_21, zOne_copies_21, zMne_copies_21), (nat_lit 17, zPne_begin, zOne_begin, zMne_begin)] pCne_keepText qCne_keepText) 1).2 [] η7 x8 η8 → ∀ (x9 : Int) (η9 : zE), ((gC2 wl_ne [(nat_lit 0, zPne_copies_4, zOne_copies_4, zMne_copies_4), (nat_lit 1, zPne_copies_7, zOne_copies_7, zMne_copies_7), (nat_lit 2, zPne_copies_8, zOne_copies_8, zMne_copies_8), (nat_lit 3, zPne_copies_9, zOne_copies_9, zMne_copies_9), (nat_lit 4, zPne_copies_10, zOne_copies_10, zMne_copies_10), (nat_lit 5, zPne_copies_11, zOne_copies_11, zMne_copies_11), (nat_lit 6, zPne_copies_12, zOne_copies_12, zMne_copies_12), (nat_lit 7, zPne_copies_13, zOne_copies_13, zMne_copies_13), (nat_lit 8, zPne_copies_14, zOne_copies_14, zMne_copies_14), (nat_lit 9, zPne_copies_15, zOne_copies_15, zMne_copies_15), (nat_lit 10, zPne_copies_5, zOne_copies_5, zMne_copies_5), (nat_lit 11, zPne_copies_6, zOne_copies_6, zMne_copies_6), (nat_lit 12, zPne_copies_17, zOne_copies_17, zMne_copies_17), (nat_lit 13, zPne_copies_18, zOne_copies_18, zMne_copies_18), (nat_lit 14, zPne_copies_19, zOne_copies_19, zMne_copies_19), (nat_lit 15, zPne_copies_20, zOne_copies_20, zMne_copies_20), (nat_lit 16, zPne_copies_21, zOne_copies_21, zMne_copies_21), (nat_lit 17, zPne_begin, zOne_begin, zMne_begin)] pCne_keepText qCne_keepText) 2).2 [] η8 x9 η9 → ∀ (x10 : Int) (η10 : zE), ((gC2 wl_ne [(nat_lit 0, zPne_copies_4, zOne_copies_4, zMne_copies_4), (nat_lit 1, zPne_copies_7, zOne_copies_7, zMne_copies_7), (nat_lit 2, zPne_copies_8, zOne_copies_8, zMne_copies_8), (nat_lit 3, zPne_copies_9, zOne_copies_9, zMne_copies_9), (nat_lit 4, zPne_copies_10, zOne_copies_10, zMne_copies_10), (nat_lit 5, zPne_copies_11, zOne_copies_11, zMne_copies_11), (nat_lit 6, zPne_copies_12, zOne_copies_12, zMne_copies_12), (nat_lit 7, zPne_copies_13, zOne_copies_13, zMne_copies_13), (nat_lit 8, zPne_copies_14, zOne_copies_14, zMne_copies_14), (nat_lit 9, zPne_copies_15, zOne_copies_15, zMne_copies_15), (nat_lit 10, zPne_copies_5, zOne_copies_5, zMne_copies_5), (nat_lit 11, zPne_copies_6, zOne_copies_6, zMne_copies_6), (nat_lit 12, zPne_copies_17, zOne_copies_17, zMne_copies_17), (nat_lit 13, zPne_copies_18, zOne_copies_18, zMne_copies_18), (nat_lit 14, zPne_copies_19, zOne_copies_19, zMne_copies_19), (nat_lit 15, zPne_copies_20, zOne_copies_20, zMne_copies_20), (nat_lit 16, zPne_copies_21, zOne_copies_21, zMne_copies_21), (nat_lit 17, zPne_begin, zOne_begin, zMne_begin)] pCne_keepText qCne_keepText) 3).2 [] η9 x10 η10 → ∀ (x11 : Int) (η11 : zE), ((gC2 wl_ne [(nat_lit 0, zPne_copies_4, zOne_copies_4, zMne_copies_4), (nat_lit 1, zPne_copies_7, zOne_copies_7, zMne_copies_7), (nat_lit 2, zPne_copies_8, zOne_copies_8, zMne_copies_8), (nat_lit 3, zPne_copies_9, zOne_copies_9, zMne_copies_9), (nat_lit 4, zPne_copies_10, zOne_copies_10, zMne_copies_10), (nat_lit 5, zPne_copies_11, zOne_copies_11, zMne_copies_11), (nat_lit 6, zPne_copies_12, zOne_copies_12, zMne_copies_12), (nat_lit 7, zPne_copies_13, zOne_copies_13, zMne_copies_13), (nat_lit 8, zPne_copies_14, zOne_copies_14, zMne_copies_14), (nat_lit 9, zPne_copies_15, zOne_copies_15, zMne_copies_15), (nat_lit 10, zPne_copies_5, zOne_copies_5, zMne_copies_5), (nat_lit 11, zPne_copies_6, zOne_copies_6, zMne_copies_6), (nat_lit 12, zPne_copies_17, zOne_copies_17, zMne_copies_17), (nat_lit 13, zPne_copies_18, zOne_copies_18, zMne_copies_18), (nat_lit 14, zPne_copies_19, zOne_copies_19, zMne_copies_19), (nat_lit 15, zPne_copies_20, zOne_copies_20, zMne_copies_20), (nat_lit 16, zPne_copies_21, zOne_copies_21, zMne_copies_21), (nat_lit 17, zPne_begin, zOne_begin, zMne_begin)] pCne_keepText qCne_keepText) 4).2 [] η10 x11 η11 → ∀ (x12 : Int) (η12 : zE), ((gC2 wl_ne [(nat_lit 0, zPne_copies_4, zOne_copies_4, zMne_copies_4), (nat_lit 1, zPne_copies_7, zOne_copies_7, zMne_copies_7), (nat_lit 2, zPne_copies_8, zOne_copies_8, zMne_copies_8), (nat_lit 3, zPne_copies_9, zOne_copies_9, zMne_copies_9), (nat_lit 4, zPne_copies_10, zOne_copies_10, zMne_copies_10), (nat_lit 5, zPne_copies_11, zOne_copies_11, zMne_copies_11), (nat_lit 6, zPne_copies_12, zOne_copies_12, zMne_copies_12), (nat_lit 7, zPne_copies_13, zOne_copies_13, zMne_copies_13), (nat_lit 8, zPne_copies_14, zOne_copies_14, zMne_copies_14), (nat_lit 9, zPne_copies_15, zOne_copies_15, zMne_copies_15), (nat_lit 10, zPne_copies_5, zOne_copies_5, zMne_copies_5), (nat_lit 11, zPne_copies_6, zOne_copies_6, zMne_copies_6), (nat_lit 12, zPne_copies_17, zOne_copies_17, zMne_copies_17), (nat_lit 13, zPne_copies_18, zOne_copies_18, zMne_copies_18), (nat_lit 14, zPne_copies_19, zOne_copies_19, zMne_copies_19), (nat_lit 15, zPne_copies_20, zOne_copies_20, zMne_copies_20), (nat_lit 16, zPne_copies_21, zOne_copies_21, zMne_copies_21), (nat_lit 17, zPne_begin, zOne_begin, zMne_begin)] pCne_keepText qCne_keepText) 5).2 [] η11 x12 η12 → ∀ (x13 : Int) (η13 : zE), ((gC2 wl_ne [(nat_lit 0, zPne_copies_4, zOne_copies_4, zMne_copies_4), (nat_lit 1, zPne_copies_7, zOne_copies_7, zMne_copies_7), (nat_lit 2, zPne_copies_8, zOne_copies_8, zMne_copies_8), (nat_lit 3, zPne_copies_9, zOne_copies_9, zMne_copies_9), (nat_lit 4, zPne_copies_10, zOne_copies_10, zMne_copies_10), (nat_lit 5, zPne_copies_11, zOne_copies_11, zMne_copies_11), (nat_lit 6, zPne_copies_12, zOne_copies_12, zMne_copies_12), (nat_lit 7, zPne_copies_13, zOne_copies_13, zMne_copies_13), (nat_lit 8, zPne_copies_14, zOne_copies_14, zMne_copies_14), (nat_lit 9, zPne_copies_15, zOne_copies_15, zMne_copies_15), (nat_lit 10, zPne_copies_5, zOne_copies_5, zMne_copies_5), (nat_lit 11, zPne_copies_6, zOne_copies_6, zMne_copies_6), (nat_lit 12, zPne_copies_17, zOne_copies_17, zMne_copies_17), (nat_lit 13, zPne_copies_18, zOne_copies_18, zMne_copies_18), (nat_lit 14, zPne_copies_19, zOne_copies_19, zMne_copies_19), (nat_lit 15, zPne_copies_20, zOne_copies_20, zMne_copies_20), (nat_lit 16, zPne_copies_21, zOne_copies_21, zMne_copies_21), (nat_lit 17, zPne_begin, zOne_begin, zMne_begin)] pCne_keepText qCne_keepText) 6).2 [] η12 x13 η13 → ∀ (x14 : Int) (η14 : zE), ((gC2 wl_ne [(nat_lit 0, zPne_copies_4, zOne_copies_4, zMne_copies_4), (nat_lit 1, zPne_copies_7, zOne_copies_7, zMne_copies_7), (nat_lit 2, zPne_copies_8, zOne_copies_8, zMne_copies_8), (nat_lit 3, zPne_copies_9, zOne_copies_9, zMne_copies_9), (nat_lit 4, zPne_copies_10, zOne_copies_10, zMne_copies_10), (nat_lit 5, zPne_copies_11, zOne_copies_11, zMne_copies_11), (nat_lit 6, zPne_copies_12, zOne_copies_12, zMne_copies_12), (nat_lit 7, zPne_copies_13, zOne_copies_13, zMne_copies_13), (nat_lit 8, zPne_copies_14, zOne_copies_14, zMne_copies_14), (nat_lit 9, zPne_copies_15, zOne_copies_15, zMne_copies_15), (nat_lit 10, zPne_copies_5, zOne_copies_5, zMne_copies_5), (nat_lit 11, zPne_copies_6, zOne_copies_6, zMne_copies_6), (nat_lit 12, zPne_copies_17, zOne_copies_17, zMne_copies_17), (nat_lit 13, zPne_copies_18, zOne_copies_18, zMne_copies_18), (nat_lit 14, zPne_copies_19, zOne_copies_19, zMne_copies_19), (nat_lit 15, zPne_copies_20, zOne_copies_20, zMne_copies_20), (nat_lit 16, zPne_copies_21, zOne_copies_21, zMne_copies_21), (nat_lit 17, zPne_begin, zOne_begin, zMne_begin)] pCne_keepText qCne_keepText) 7).2 [] η13 x14 η14 → ∀ (x15 : Int) (η15 : zE), ((gC2 wl_ne [(nat_lit 0, zPne_copies_4, zOne_copies_4, zMne_copies_4), (nat_lit 1, zPne_copies_7, zOne_copies_7, zMne_copies_7), (nat_lit 2, zPne_copies_8, zOne_copies_8, zMne_copies_8), (nat_lit 3, zPne_copies_9, zOne_copies_9, zMne_copies_9), (nat_lit 4, zPne_copies_10, zOne_copies_10, zMne_copies_10), (nat_lit 5, zPne_copies_11, zOne_copies_11, zMne_copies_11), (nat_lit 6, zPne_copies_12, zOne_copies_12, zMne_copies_12), (nat_lit 7, zPne_copies_13, zOne_copies_13, zMne_copies_13), (nat_lit 8, zPne_copies_14, zOne_copies_14, zMne_copies_14), (nat_lit 9, zPne_copies_15, zOne_copies_15, zMne_copies_15), (nat_lit 10, zPne_copies_5, zOne_copies_5, zMne_copies_5), (nat_lit 11, zPne_copies_6, zOne_copies_6, zMne_copies_6), (nat_lit 12, zPne_copies_17, zOne_copies_17, zMne_copies_17), (nat_lit 13, zPne_copies_18, zOne_copies_18, zMne_copies_18), (nat_lit 14, zPne_copies_19, zOne_copies_19, zMne_copies_19), (nat_lit 15, zPne_copies_20, zOne_copies_20, zMne_copies_20), (nat_lit 16, zPne_copies_21, zOne_copies_21, zMne_copies_21), (nat_lit 17, zPne_begin, zOne_begin, zMne_begin)] pCne_keepText qCne_keepText) 8).2 [] η14 x15 η15 → ∀ (x16 : Int) (η16 : zE), ((gC2 wl_ne [(nat_lit 0, zPne_copies_4, zOne_copies_4, zMne_copies_4), (nat_lit 1, zPne_copies_7, zOne_copies_7, zMne_copies_7), (nat_lit 2, zPne_copies_8, zOne_copies_8, zMne_copies_8), (nat_lit 3, zPne_copies_9, zOne_copies_9, zMne_copies_9), (nat_lit 4, zPne_copies_10, zOne_copies_10, zMne_copies_10), (nat_lit 5, zPne_copies_11, zOne_copies_11, zMne_copies_11), (nat_lit 6, zPne_copies_12, zOne_copies_12, zMne_copies_12), (nat_lit 7, zPne_copies_13, zOne_copies_13, zMne_copies_13), (nat_lit 8, zPne_copies_14, zOne_copies_14, zMne_copies_14), (nat_lit 9, zPne_copies_15, zOne_copies_15, zMne_copies_15), (nat_lit 10, zPne_copies_5, zOne_copies_5, zMne_copies_5), (nat_lit 11, zPne_copies_6, zOne_copies_6, zMne_copies_6), (nat_lit 12, zPne_copies_17, zOne_copies_17, zMne_copies_17), (nat_lit 13, zPne_copies_18, zOne_copies_18, zMne_copies_18), (nat_lit 14, zPne_copies_19, zOne_copies_19, zMne_copies_19), (nat_lit 15, zPne_copies_20, zOne_copies_20, zMne_copies_20), (nat_lit 16, zPne_copies_21, zOne_copies_21, zMne_copies_21), (nat_lit 17, zPne_begin, zOne_begin, zMne_begin)] pCne_keepText qCne_keepText) 9).2 [] η15 x16 η16 → ((0 : Int) < (3 : Int)) → ∀ x17 : Int, x17 = zd 0 1 3 0 → ∀ x18 : Int, x18 = η16 16 (Int.toNat x17) → zok 1 x18 → ∀ η17 : zE, η17 = zup η16 16 (Int.toNat 0) x18 → ∀ x19 : Int, x19 = zd 0 1 0 1 → (x19 < 3) → ∀ x20 : Int, x20 = zd 0 1 3 x19 → ∀ x21 : Int, x21 = η17 16 (Int.toNat x20) → zok 1 x21 → ∀ η18 : zE, η18 = zup η17 16 (Int.toNat x19) x21 → ∀ x22 : Int, x22 = zd 0 1 x19 1 → (x22 < 3) → ∀ x23 : Int, x23 = zd 0 1 3 x22 → ∀ x24 : Int, x24 = η18 16 (Int.toNat x23) → zok 1 x24 → ∀ η19 : zE, η19 = zup η18 16 (Int.toNat x22) x24 → ∀ x25 : Int, x25 = zd 0 1 x22 1 → (3 ≤ x25) → ((gC2 wl_ne [(nat_lit 0, zPne_copies_4, zOne_copies_4, zMne_copies_4), (nat_lit 1, zPne_copies_7, zOne_copies_7, zMne_copies_7), (nat_lit 2, zPne_copies_8, zOne_copies_8, zMne_copies_8), (nat_lit 3, zPne_copies_9, zOne_copies_9, zMne_copies_9), (nat_lit 4, zPne_copies_10, zOne_copies_10, zMne_copies_10), (nat_lit 5, zPne_copies_11, zOne_copies_11, zMne_copies_11), (nat_lit 6, zPne_copies_12, zOne_copies_12, zMne_copies_12), (nat_lit 7, zPne_copies_13, zOne_copies_13, zMne_copies_13), (nat_lit 8, zPne_copies_14, zOne_copies_14, zMne_copies_14), (nat_lit 9, zPne_copies_15, zOne_copies_15, zMne_copies_15), (nat_lit 10, zPne_copies_5, zOne_copies_5, zMne_copies_5), (nat_lit 11, zPne_copies_6, zOne_copies_6, zMne_copies_6), (nat_lit 12, zPne_copies_17, zOne_copies_17, zMne_copies_17), (nat_lit 13, zPne_copies_18, zOne_copies_18, zMne_copies_18), (nat_lit 14, zPne_copies_19, zOne_copies_19, zMne_copies_19), (nat_lit 15, zPne_copies_20, zOne_copies_20, zMne_copies_20), (nat_lit 16, zPne_copies_21, zOne_copies_21, zMne_copies_21), (nat_lit 17, zPne_begin, zOne_begin, zMne_begin)] pCne_keepText qCne_keepText) 12).1 [] η19 := by
  intro x1 e1 r1 η1 eη1 x2 e2 r2 η2 eη2 x3 e3 r3 η3 eη3 x4 e4 r4 η4 eη4 x5 η5 h5 x6 η6 h6 x7 η7 h7 x8 η8 h8 x9 η9 h9 x10 η10 h10 x11 η11 h11 x12 η12 h12 x13 η13 h13 x14 η14 h14 x15 η15 h15 x16 η16 h16 c1 x17 e17 x18 e18 r18 η17 eη17 x19 e19 c2 x20 e20 x21 e21 r21 η18 eη18 x22 e22 c3 x23 e23 x24 e24 r24 η19 eη19 x25 e25 c4
  have k5 : sQ wl_ne zTr zOne_copies_4 zMne_copies_4 [] η4 x5 η5 ∧ pQne_copies_4 [] η4 x5 η5 := h5
  have k6 : sQ wl_ne zTr zOne_copies_5 zMne_copies_5 [] η5 x6 η6 ∧ pQne_copies_5 [] η5 x6 η6 := h6
  have k7 : sQ wl_ne zTr zOne_copies_6 zMne_copies_6 [] η6 x7 η7 ∧ pQne_copies_6 [] η6 x7 η7 := h7
  have k8 : sQ wl_ne zTr zOne_copies_7 zMne_copies_7 [] η7 x8 η8 ∧ pQne_copies_7 [] η7 x8 η8 := h8
  have k9 : sQ wl_ne zTr zOne_copies_8 zMne_copies_8 [] η8 x9 η9 ∧ pQne_copies_8 [] η8 x9 η9 := h9
  have k10 : sQ wl_ne zTr zOne_copies_9 zMne_copies_9 [] η9 x10 η10 ∧ pQne_copies_9 [] η9 x10 η10 := h10
  have k11 : sQ wl_ne zTr zOne_copies_10 zMne_copies_10 [] η10 x11 η11 ∧ pQne_copies_10 [] η10 x11 η11 := h11
  have k12 : sQ wl_ne zTr zOne_copies_11 zMne_copies_11 [] η11 x12 η12 ∧ pQne_copies_11 [] η11 x12 η12 := h12
  have k13 : sQ wl_ne zTr zOne_copies_12 zMne_copies_12 [] η12 x13 η13 ∧ pQne_copies_12 [] η12 x13 η13 := h13
  have k14 : sQ wl_ne zTr zOne_copies_13 zMne_copies_13 [] η13 x14 η14 ∧ pQne_copies_13 [] η13 x14 η14 := h14
  have k15 : sQ wl_ne zTr zOne_copies_14 zMne_copies_14 [] η14 x15 η15 ∧ pQne_copies_14 [] η14 x15 η15 := h15
  have k16 : sQ wl_ne zTr zOne_copies_15 zMne_copies_15 [] η15 x16 η16 ∧ pQne_copies_15 [] η15 x16 η16 := h16
  exact trivial
set_option maxHeartbeats 8000000 in
theorem zne_keepText_o11 {ro : Nat → List Int32} (η : zE) (hp : sP wl_ne zTr zPne_keepText [] η) (hpp : pPne_keepText [] η) : ∀ x1 : Int, x1 = η 0 (Int.toNat 16) → zok 0 x1 → ∀ η1 : zE, η1 = zup η 0 (Int.toNat 12) x1 → ∀ x2 : Int, x2 = η1 0 (Int.toNat 17) → zok 0 x2 → ∀ η2 : zE, η2 = zup η1 0 (Int.toNat 13) x2 → ∀ x3 : Int, x3 = η2 0 (Int.toNat 18) → zok 0 x3 → ∀ η3 : zE, η3 = zup η2 0 (Int.toNat 14) x3 → ∀ x4 : Int, x4 = η3 0 (Int.toNat 19) → zok 0 x4 → ∀ η4 : zE, η4 = zup η3 0 (Int.toNat 15) x4 → ∀ (x5 : Int) (η5 : zE), ((gC2 wl_ne [(nat_lit 0, zPne_copies_4, zOne_copies_4, zMne_copies_4), (nat_lit 1, zPne_copies_7, zOne_copies_7, zMne_copies_7), (nat_lit 2, zPne_copies_8, zOne_copies_8, zMne_copies_8), (nat_lit 3, zPne_copies_9, zOne_copies_9, zMne_copies_9), (nat_lit 4, zPne_copies_10, zOne_copies_10, zMne_copies_10), (nat_lit 5, zPne_copies_11, zOne_copies_11, zMne_copies_11), (nat_lit 6, zPne_copies_12, zOne_copies_12, zMne_copies_12), (nat_lit 7, zPne_copies_13, zOne_copies_13, zMne_copies_13), (nat_lit 8, zPne_copies_14, zOne_copies_14, zMne_copies_14), (nat_lit 9, zPne_copies_15, zOne_copies_15, zMne_copies_15), (nat_lit 10, zPne_copies_5, zOne_copies_5, zMne_copies_5), (nat_lit 11, zPne_copies_6, zOne_copies_6, zMne_copies_6), (nat_lit 12, zPne_copies_17, zOne_copies_17, zMne_copies_17), (nat_lit 13, zPne_copies_18, zOne_copies_18, zMne_copies_18), (nat_lit 14, zPne_copies_19, zOne_copies_19, zMne_copies_19), (nat_lit 15, zPne_copies_20, zOne_copies_20, zMne_copies_20), (nat_lit 16, zPne_copies_21, zOne_copies_21, zMne_copies_21), (nat_lit 17, zPne_begin, zOne_begin, zMne_begin)] pCne_keepText qCne_keepText) 0).2 [] η4 x5 η5 → ∀ (x6 : Int) (η6 : zE), ((gC2 wl_ne [(nat_lit 0, zPne_copies_4, zOne_copies_4, zMne_copies_4), (nat_lit 1, zPne_copies_7, zOne_copies_7, zMne_copies_7), (nat_lit 2, zPne_copies_8, zOne_copies_8, zMne_copies_8), (nat_lit 3, zPne_copies_9, zOne_copies_9, zMne_copies_9), (nat_lit 4, zPne_copies_10, zOne_copies_10, zMne_copies_10), (nat_lit 5, zPne_copies_11, zOne_copies_11, zMne_copies_11), (nat_lit 6, zPne_copies_12, zOne_copies_12, zMne_copies_12), (nat_lit 7, zPne_copies_13, zOne_copies_13, zMne_copies_13), (nat_lit 8, zPne_copies_14, zOne_copies_14, zMne_copies_14), (nat_lit 9, zPne_copies_15, zOne_copies_15, zMne_copies_15), (nat_lit 10, zPne_copies_5, zOne_copies_5, zMne_copies_5), (nat_lit 11, zPne_copies_6, zOne_copies_6, zMne_copies_6), (nat_lit 12, zPne_copies_17, zOne_copies_17, zMne_copies_17), (nat_lit 13, zPne_copies_18, zOne_copies_18, zMne_copies_18), (nat_lit 14, zPne_copies_19, zOne_copies_19, zMne_copies_19), (nat_lit 15, zPne_copies_20, zOne_copies_20, zMne_copies_20), (nat_lit 16, zPne_copies_21, zOne_copies_21, zMne_copies_21), (nat_lit 17, zPne_begin, zOne_begin, zMne_begin)] pCne_keepText qCne_keepText) 10).2 [] η5 x6 η6 → ∀ (x7 : Int) (η7 : zE), ((gC2 wl_ne [(nat_lit 0, zPne_copies_4, zOne_copies_4, zMne_copies_4), (nat_lit 1, zPne_copies_7, zOne_copies_7, zMne_copies_7), (nat_lit 2, zPne_copies_8, zOne_copies_8, zMne_copies_8), (nat_lit 3, zPne_copies_9, zOne_copies_9, zMne_copies_9), (nat_lit 4, zPne_copies_10, zOne_copies_10, zMne_copies_10), (nat_lit 5, zPne_copies_11, zOne_copies_11, zMne_copies_11), (nat_lit 6, zPne_copies_12, zOne_copies_12, zMne_copies_12), (nat_lit 7, zPne_copies_13, zOne_copies_13, zMne_copies_13), (nat_lit 8, zPne_copies_14, zOne_copies_14, zMne_copies_14), (nat_lit 9, zPne_copies_15, zOne_copies_15, zMne_copies_15), (nat_lit 10, zPne_copies_5, zOne_copies_5, zMne_copies_5), (nat_lit 11, zPne_copies_6, zOne_copies_6, zMne_copies_6), (nat_lit 12, zPne_copies_17, zOne_copies_17, zMne_copies_17), (nat_lit 13, zPne_copies_18, zOne_copies_18, zMne_copies_18), (nat_lit 14, zPne_copies_19, zOne_copies_19, zMne_copies_19), (nat_lit 15, zPne_copies_20, zOne_copies_20, zMne_copies_20), (nat_lit 16, zPne_copies_21, zOne_copies_21, zMne_copies_21), (nat_lit 17, zPne_begin, zOne_begin, zMne_begin)] pCne_keepText qCne_keepText) 11).2 [] η6 x7 η7 → ∀ (x8 : Int) (η8 : zE), ((gC2 wl_ne [(nat_lit 0, zPne_copies_4, zOne_copies_4, zMne_copies_4), (nat_lit 1, zPne_copies_7, zOne_copies_7, zMne_copies_7), (nat_lit 2, zPne_copies_8, zOne_copies_8, zMne_copies_8), (nat_lit 3, zPne_copies_9, zOne_copies_9, zMne_copies_9), (nat_lit 4, zPne_copies_10, zOne_copies_10, zMne_copies_10), (nat_lit 5, zPne_copies_11, zOne_copies_11, zMne_copies_11), (nat_lit 6, zPne_copies_12, zOne_copies_12, zMne_copies_12), (nat_lit 7, zPne_copies_13, zOne_copies_13, zMne_copies_13), (nat_lit 8, zPne_copies_14, zOne_copies_14, zMne_copies_14), (nat_lit 9, zPne_copies_15, zOne_copies_15, zMne_copies_15), (nat_lit 10, zPne_copies_5, zOne_copies_5, zMne_copies_5), (nat_lit 11, zPne_copies_6, zOne_copies_6, zMne_copies_6), (nat_lit 12, zPne_copies_17, zOne_copies_17, zMne_copies_17), (nat_lit 13, zPne_copies_18, zOne_copies_18, zMne_copies_18), (nat_lit 14, zPne_copies_19, zOne_copies_19, zMne_copies_19), (nat_lit 15, zPne_copies_20, zOne_copies_20, zMne_copies_20), (nat_lit 16, zPne_copies_21, zOne_copies_21, zMne_copies_21), (nat_lit 17, zPne_begin, zOne_begin, zMne_begin)] pCne_keepText qCne_keepText) 1).2 [] η7 x8 η8 → ∀ (x9 : Int) (η9 : zE), ((gC2 wl_ne [(nat_lit 0, zPne_copies_4, zOne_copies_4, zMne_copies_4), (nat_lit 1, zPne_copies_7, zOne_copies_7, zMne_copies_7), (nat_lit 2, zPne_copies_8, zOne_copies_8, zMne_copies_8), (nat_lit 3, zPne_copies_9, zOne_copies_9, zMne_copies_9), (nat_lit 4, zPne_copies_10, zOne_copies_10, zMne_copies_10), (nat_lit 5, zPne_copies_11, zOne_copies_11, zMne_copies_11), (nat_lit 6, zPne_copies_12, zOne_copies_12, zMne_copies_12), (nat_lit 7, zPne_copies_13, zOne_copies_13, zMne_copies_13), (nat_lit 8, zPne_copies_14, zOne_copies_14, zMne_copies_14), (nat_lit 9, zPne_copies_15, zOne_copies_15, zMne_copies_15), (nat_lit 10, zPne_copies_5, zOne_copies_5, zMne_copies_5), (nat_lit 11, zPne_copies_6, zOne_copies_6, zMne_copies_6), (nat_lit 12, zPne_copies_17, zOne_copies_17, zMne_copies_17), (nat_lit 13, zPne_copies_18, zOne_copies_18, zMne_copies_18), (nat_lit 14, zPne_copies_19, zOne_copies_19, zMne_copies_19), (nat_lit 15, zPne_copies_20, zOne_copies_20, zMne_copies_20), (nat_lit 16, zPne_copies_21, zOne_copies_21, zMne_copies_21), (nat_lit 17, zPne_begin, zOne_begin, zMne_begin)] pCne_keepText qCne_keepText) 2).2 [] η8 x9 η9 → ∀ (x10 : Int) (η10 : zE), ((gC2 wl_ne [(nat_lit 0, zPne_copies_4, zOne_copies_4, zMne_copies_4), (nat_lit 1, zPne_copies_7, zOne_copies_7, zMne_copies_7), (nat_lit 2, zPne_copies_8, zOne_copies_8, zMne_copies_8), (nat_lit 3, zPne_copies_9, zOne_copies_9, zMne_copies_9), (nat_lit 4, zPne_copies_10, zOne_copies_10, zMne_copies_10), (nat_lit 5, zPne_copies_11, zOne_copies_11, zMne_copies_11), (nat_lit 6, zPne_copies_12, zOne_copies_12, zMne_copies_12), (nat_lit 7, zPne_copies_13, zOne_copies_13, zMne_copies_13), (nat_lit 8, zPne_copies_14, zOne_copies_14, zMne_copies_14), (nat_lit 9, zPne_copies_15, zOne_copies_15, zMne_copies_15), (nat_lit 10, zPne_copies_5, zOne_copies_5, zMne_copies_5), (nat_lit 11, zPne_copies_6, zOne_copies_6, zMne_copies_6), (nat_lit 12, zPne_copies_17, zOne_copies_17, zMne_copies_17), (nat_lit 13, zPne_copies_18, zOne_copies_18, zMne_copies_18), (nat_lit 14, zPne_copies_19, zOne_copies_19, zMne_copies_19), (nat_lit 15, zPne_copies_20, zOne_copies_20, zMne_copies_20), (nat_lit 16, zPne_copies_21, zOne_copies_21, zMne_copies_21), (nat_lit 17, zPne_begin, zOne_begin, zMne_begin)] pCne_keepText qCne_keepText) 3).2 [] η9 x10 η10 → ∀ (x11 : Int) (η11 : zE), ((gC2 wl_ne [(nat_lit 0, zPne_copies_4, zOne_copies_4, zMne_copies_4), (nat_lit 1, zPne_copies_7, zOne_copies_7, zMne_copies_7), (nat_lit 2, zPne_copies_8, zOne_copies_8, zMne_copies_8), (nat_lit 3, zPne_copies_9, zOne_copies_9, zMne_copies_9), (nat_lit 4, zPne_copies_10, zOne_copies_10, zMne_copies_10), (nat_lit 5, zPne_copies_11, zOne_copies_11, zMne_copies_11), (nat_lit 6, zPne_copies_12, zOne_copies_12, zMne_copies_12), (nat_lit 7, zPne_copies_13, zOne_copies_13, zMne_copies_13), (nat_lit 8, zPne_copies_14, zOne_copies_14, zMne_copies_14), (nat_lit 9, zPne_copies_15, zOne_copies_15, zMne_copies_15), (nat_lit 10, zPne_copies_5, zOne_copies_5, zMne_copies_5), (nat_lit 11, zPne_copies_6, zOne_copies_6, zMne_copies_6), (nat_lit 12, zPne_copies_17, zOne_copies_17, zMne_copies_17), (nat_lit 13, zPne_copies_18, zOne_copies_18, zMne_copies_18), (nat_lit 14, zPne_copies_19, zOne_copies_19, zMne_copies_19), (nat_lit 15, zPne_copies_20, zOne_copies_20, zMne_copies_20), (nat_lit 16, zPne_copies_21, zOne_copies_21, zMne_copies_21), (nat_lit 17, zPne_begin, zOne_begin, zMne_begin)] pCne_keepText qCne_keepText) 4).2 [] η10 x11 η11 → ∀ (x12 : Int) (η12 : zE), ((gC2 wl_ne [(nat_lit 0, zPne_copies_4, zOne_copies_4, zMne_copies_4), (nat_lit 1, zPne_copies_7, zOne_copies_7, zMne_copies_7), (nat_lit 2, zPne_copies_8, zOne_copies_8, zMne_copies_8), (nat_lit 3, zPne_copies_9, zOne_copies_9, zMne_copies_9), (nat_lit 4, zPne_copies_10, zOne_copies_10, zMne_copies_10), (nat_lit 5, zPne_copies_11, zOne_copies_11, zMne_copies_11), (nat_lit 6, zPne_copies_12, zOne_copies_12, zMne_copies_12), (nat_lit 7, zPne_copies_13, zOne_copies_13, zMne_copies_13), (nat_lit 8, zPne_copies_14, zOne_copies_14, zMne_copies_14), (nat_lit 9, zPne_copies_15, zOne_copies_15, zMne_copies_15), (nat_lit 10, zPne_copies_5, zOne_copies_5, zMne_copies_5), (nat_lit 11, zPne_copies_6, zOne_copies_6, zMne_copies_6), (nat_lit 12, zPne_copies_17, zOne_copies_17, zMne_copies_17), (nat_lit 13, zPne_copies_18, zOne_copies_18, zMne_copies_18), (nat_lit 14, zPne_copies_19, zOne_copies_19, zMne_copies_19), (nat_lit 15, zPne_copies_20, zOne_copies_20, zMne_copies_20), (nat_lit 16, zPne_copies_21, zOne_copies_21, zMne_copies_21), (nat_lit 17, zPne_begin, zOne_begin, zMne_begin)] pCne_keepText qCne_keepText) 5).2 [] η11 x12 η12 → ∀ (x13 : Int) (η13 : zE), ((gC2 wl_ne [(nat_lit 0, zPne_copies_4, zOne_copies_4, zMne_copies_4), (nat_lit 1, zPne_copies_7, zOne_copies_7, zMne_copies_7), (nat_lit 2, zPne_copies_8, zOne_copies_8, zMne_copies_8), (nat_lit 3, zPne_copies_9, zOne_copies_9, zMne_copies_9), (nat_lit 4, zPne_copies_10, zOne_copies_10, zMne_copies_10), (nat_lit 5, zPne_copies_11, zOne_copies_11, zMne_copies_11), (nat_lit 6, zPne_copies_12, zOne_copies_12, zMne_copies_12), (nat_lit 7, zPne_copies_13, zOne_copies_13, zMne_copies_13), (nat_lit 8, zPne_copies_14, zOne_copies_14, zMne_copies_14), (nat_lit 9, zPne_copies_15, zOne_copies_15, zMne_copies_15), (nat_lit 10, zPne_copies_5, zOne_copies_5, zMne_copies_5), (nat_lit 11, zPne_copies_6, zOne_copies_6, zMne_copies_6), (nat_lit 12, zPne_copies_17, zOne_copies_17, zMne_copies_17), (nat_lit 13, zPne_copies_18, zOne_copies_18, zMne_copies_18), (nat_lit 14, zPne_copies_19, zOne_copies_19, zMne_copies_19), (nat_lit 15, zPne_copies_20, zOne_copies_20, zMne_copies_20), (nat_lit 16, zPne_copies_21, zOne_copies_21, zMne_copies_21), (nat_lit 17, zPne_begin, zOne_begin, zMne_begin)] pCne_keepText qCne_keepText) 6).2 [] η12 x13 η13 → ∀ (x14 : Int) (η14 : zE), ((gC2 wl_ne [(nat_lit 0, zPne_copies_4, zOne_copies_4, zMne_copies_4), (nat_lit 1, zPne_copies_7, zOne_copies_7, zMne_copies_7), (nat_lit 2, zPne_copies_8, zOne_copies_8, zMne_copies_8), (nat_lit 3, zPne_copies_9, zOne_copies_9, zMne_copies_9), (nat_lit 4, zPne_copies_10, zOne_copies_10, zMne_copies_10), (nat_lit 5, zPne_copies_11, zOne_copies_11, zMne_copies_11), (nat_lit 6, zPne_copies_12, zOne_copies_12, zMne_copies_12), (nat_lit 7, zPne_copies_13, zOne_copies_13, zMne_copies_13), (nat_lit 8, zPne_copies_14, zOne_copies_14, zMne_copies_14), (nat_lit 9, zPne_copies_15, zOne_copies_15, zMne_copies_15), (nat_lit 10, zPne_copies_5, zOne_copies_5, zMne_copies_5), (nat_lit 11, zPne_copies_6, zOne_copies_6, zMne_copies_6), (nat_lit 12, zPne_copies_17, zOne_copies_17, zMne_copies_17), (nat_lit 13, zPne_copies_18, zOne_copies_18, zMne_copies_18), (nat_lit 14, zPne_copies_19, zOne_copies_19, zMne_copies_19), (nat_lit 15, zPne_copies_20, zOne_copies_20, zMne_copies_20), (nat_lit 16, zPne_copies_21, zOne_copies_21, zMne_copies_21), (nat_lit 17, zPne_begin, zOne_begin, zMne_begin)] pCne_keepText qCne_keepText) 7).2 [] η13 x14 η14 → ∀ (x15 : Int) (η15 : zE), ((gC2 wl_ne [(nat_lit 0, zPne_copies_4, zOne_copies_4, zMne_copies_4), (nat_lit 1, zPne_copies_7, zOne_copies_7, zMne_copies_7), (nat_lit 2, zPne_copies_8, zOne_copies_8, zMne_copies_8), (nat_lit 3, zPne_copies_9, zOne_copies_9, zMne_copies_9), (nat_lit 4, zPne_copies_10, zOne_copies_10, zMne_copies_10), (nat_lit 5, zPne_copies_11, zOne_copies_11, zMne_copies_11), (nat_lit 6, zPne_copies_12, zOne_copies_12, zMne_copies_12), (nat_lit 7, zPne_copies_13, zOne_copies_13, zMne_copies_13), (nat_lit 8, zPne_copies_14, zOne_copies_14, zMne_copies_14), (nat_lit 9, zPne_copies_15, zOne_copies_15, zMne_copies_15), (nat_lit 10, zPne_copies_5, zOne_copies_5, zMne_copies_5), (nat_lit 11, zPne_copies_6, zOne_copies_6, zMne_copies_6), (nat_lit 12, zPne_copies_17, zOne_copies_17, zMne_copies_17), (nat_lit 13, zPne_copies_18, zOne_copies_18, zMne_copies_18), (nat_lit 14, zPne_copies_19, zOne_copies_19, zMne_copies_19), (nat_lit 15, zPne_copies_20, zOne_copies_20, zMne_copies_20), (nat_lit 16, zPne_copies_21, zOne_copies_21, zMne_copies_21), (nat_lit 17, zPne_begin, zOne_begin, zMne_begin)] pCne_keepText qCne_keepText) 8).2 [] η14 x15 η15 → ∀ (x16 : Int) (η16 : zE), ((gC2 wl_ne [(nat_lit 0, zPne_copies_4, zOne_copies_4, zMne_copies_4), (nat_lit 1, zPne_copies_7, zOne_copies_7, zMne_copies_7), (nat_lit 2, zPne_copies_8, zOne_copies_8, zMne_copies_8), (nat_lit 3, zPne_copies_9, zOne_copies_9, zMne_copies_9), (nat_lit 4, zPne_copies_10, zOne_copies_10, zMne_copies_10), (nat_lit 5, zPne_copies_11, zOne_copies_11, zMne_copies_11), (nat_lit 6, zPne_copies_12, zOne_copies_12, zMne_copies_12), (nat_lit 7, zPne_copies_13, zOne_copies_13, zMne_copies_13), (nat_lit 8, zPne_copies_14, zOne_copies_14, zMne_copies_14), (nat_lit 9, zPne_copies_15, zOne_copies_15, zMne_copies_15), (nat_lit 10, zPne_copies_5, zOne_copies_5, zMne_copies_5), (nat_lit 11, zPne_copies_6, zOne_copies_6, zMne_copies_6), (nat_lit 12, zPne_copies_17, zOne_copies_17, zMne_copies_17), (nat_lit 13, zPne_copies_18, zOne_copies_18, zMne_copies_18), (nat_lit 14, zPne_copies_19, zOne_copies_19, zMne_copies_19), (nat_lit 15, zPne_copies_20, zOne_copies_20, zMne_copies_20), (nat_lit 16, zPne_copies_21, zOne_copies_21, zMne_copies_21), (nat_lit 17, zPne_begin, zOne_begin, zMne_begin)] pCne_keepText qCne_keepText) 9).2 [] η15 x16 η16 → ((0 : Int) < (3 : Int)) → ∀ x17 : Int, x17 = zd 0 1 3 0 → ∀ x18 : Int, x18 = η16 16 (Int.toNat x17) → zok 1 x18 → ∀ η17 : zE, η17 = zup η16 16 (Int.toNat 0) x18 → ∀ x19 : Int, x19 = zd 0 1 0 1 → (x19 < 3) → ∀ x20 : Int, x20 = zd 0 1 3 x19 → ∀ x21 : Int, x21 = η17 16 (Int.toNat x20) → zok 1 x21 → ∀ η18 : zE, η18 = zup η17 16 (Int.toNat x19) x21 → ∀ x22 : Int, x22 = zd 0 1 x19 1 → (x22 < 3) → ∀ x23 : Int, x23 = zd 0 1 3 x22 → ∀ x24 : Int, x24 = η18 16 (Int.toNat x23) → zok 1 x24 → ∀ η19 : zE, η19 = zup η18 16 (Int.toNat x22) x24 → ∀ x25 : Int, x25 = zd 0 1 x22 1 → (3 ≤ x25) → ∀ (x26 : Int) (η20 : zE), ((gC2 wl_ne [(nat_lit 0, zPne_copies_4, zOne_copies_4, zMne_copies_4), (nat_lit 1, zPne_copies_7, zOne_copies_7, zMne_copies_7), (nat_lit 2, zPne_copies_8, zOne_copies_8, zMne_copies_8), (nat_lit 3, zPne_copies_9, zOne_copies_9, zMne_copies_9), (nat_lit 4, zPne_copies_10, zOne_copies_10, zMne_copies_10), (nat_lit 5, zPne_copies_11, zOne_copies_11, zMne_copies_11), (nat_lit 6, zPne_copies_12, zOne_copies_12, zMne_copies_12), (nat_lit 7, zPne_copies_13, zOne_copies_13, zMne_copies_13), (nat_lit 8, zPne_copies_14, zOne_copies_14, zMne_copies_14), (nat_lit 9, zPne_copies_15, zOne_copies_15, zMne_copies_15), (nat_lit 10, zPne_copies_5, zOne_copies_5, zMne_copies_5), (nat_lit 11, zPne_copies_6, zOne_copies_6, zMne_copies_6), (nat_lit 12, zPne_copies_17, zOne_copies_17, zMne_copies_17), (nat_lit 13, zPne_copies_18, zOne_copies_18, zMne_copies_18), (nat_lit 14, zPne_copies_19, zOne_copies_19, zMne_copies_19), (nat_lit 15, zPne_copies_20, zOne_copies_20, zMne_copies_20), (nat_lit 16, zPne_copies_21, zOne_copies_21, zMne_copies_21), (nat_lit 17, zPne_begin, zOne_begin, zMne_begin)] pCne_keepText qCne_keepText) 12).2 [] η19 x26 η20 → ((gC2 wl_ne [(nat_lit 0, zPne_copies_4, zOne_copies_4, zMne_copies_4), (nat_lit 1, zPne_copies_7, zOne_copies_7, zMne_copies_7), (nat_lit 2, zPne_copies_8, zOne_copies_8, zMne_copies_8), (nat_lit 3, zPne_copies_9, zOne_copies_9, zMne_copies_9), (nat_lit 4, zPne_copies_10, zOne_copies_10, zMne_copies_10), (nat_lit 5, zPne_copies_11, zOne_copies_11, zMne_copies_11), (nat_lit 6, zPne_copies_12, zOne_copies_12, zMne_copies_12), (nat_lit 7, zPne_copies_13, zOne_copies_13, zMne_copies_13), (nat_lit 8, zPne_copies_14, zOne_copies_14, zMne_copies_14), (nat_lit 9, zPne_copies_15, zOne_copies_15, zMne_copies_15), (nat_lit 10, zPne_copies_5, zOne_copies_5, zMne_copies_5), (nat_lit 11, zPne_copies_6, zOne_copies_6, zMne_copies_6), (nat_lit 12, zPne_copies_17, zOne_copies_17, zMne_copies_17), (nat_lit 13, zPne_copies_18, zOne_copies_18, zMne_copies_18), (nat_lit 14, zPne_copies_19, zOne_copies_19, zMne_copies_19), (nat_lit 15, zPne_copies_20, zOne_copies_20, zMne_copies_20), (nat_lit 16, zPne_copies_21, zOne_copies_21, zMne_copies_21), (nat_lit 17, zPne_begin, zOne_begin, zMne_begin)] pCne_keepText qCne_keepText) 13).1 [] η20 := by
  intro x1 e1 r1 η1 eη1 x2 e2 r2 η2 eη2 x3 e3 r3 η3 eη3 x4 e4 r4 η4 eη4 x5 η5 h5 x6 η6 h6 x7 η7 h7 x8 η8 h8 x9 η9 h9 x10 η10 h10 x11 η11 h11 x12 η12 h12 x13 η13 h13 x14 η14 h14 x15 η15 h15 x16 η16 h16 c1 x17 e17 x18 e18 r18 η17 eη17 x19 e19 c2 x20 e20 x21 e21 r21 η18 eη18 x22 e22 c3 x23 e23 x24 e24 r24 η19 eη19 x25 e25 c4 x26 η20 h26
  have k5 : sQ wl_ne zTr zOne_copies_4 zMne_copies_4 [] η4 x5 η5 ∧ pQne_copies_4 [] η4 x5 η5 := h5
  have k6 : sQ wl_ne zTr zOne_copies_5 zMne_copies_5 [] η5 x6 η6 ∧ pQne_copies_5 [] η5 x6 η6 := h6
  have k7 : sQ wl_ne zTr zOne_copies_6 zMne_copies_6 [] η6 x7 η7 ∧ pQne_copies_6 [] η6 x7 η7 := h7
  have k8 : sQ wl_ne zTr zOne_copies_7 zMne_copies_7 [] η7 x8 η8 ∧ pQne_copies_7 [] η7 x8 η8 := h8
  have k9 : sQ wl_ne zTr zOne_copies_8 zMne_copies_8 [] η8 x9 η9 ∧ pQne_copies_8 [] η8 x9 η9 := h9
  have k10 : sQ wl_ne zTr zOne_copies_9 zMne_copies_9 [] η9 x10 η10 ∧ pQne_copies_9 [] η9 x10 η10 := h10
  have k11 : sQ wl_ne zTr zOne_copies_10 zMne_copies_10 [] η10 x11 η11 ∧ pQne_copies_10 [] η10 x11 η11 := h11
  have k12 : sQ wl_ne zTr zOne_copies_11 zMne_copies_11 [] η11 x12 η12 ∧ pQne_copies_11 [] η11 x12 η12 := h12
  have k13 : sQ wl_ne zTr zOne_copies_12 zMne_copies_12 [] η12 x13 η13 ∧ pQne_copies_12 [] η12 x13 η13 := h13
  have k14 : sQ wl_ne zTr zOne_copies_13 zMne_copies_13 [] η13 x14 η14 ∧ pQne_copies_13 [] η13 x14 η14 := h14
  have k15 : sQ wl_ne zTr zOne_copies_14 zMne_copies_14 [] η14 x15 η15 ∧ pQne_copies_14 [] η14 x15 η15 := h15
  have k16 : sQ wl_ne zTr zOne_copies_15 zMne_copies_15 [] η15 x16 η16 ∧ pQne_copies_15 [] η15 x16 η16 := h16
  have k26 : sQ wl_ne zTr zOne_copies_17 zMne_copies_17 [] η19 x26 η20 ∧ pQne_copies_17 [] η19 x26 η20 := h26
  exact trivial
set_option maxHeartbeats 8000000 in
theorem zne_keepText_o12 {ro : Nat → List Int32} (η : zE) (hp : sP wl_ne zTr zPne_keepText [] η) (hpp : pPne_keepText [] η) : ∀ x1 : Int, x1 = η 0 (Int.toNat 16) → zok 0 x1 → ∀ η1 : zE, η1 = zup η 0 (Int.toNat 12) x1 → ∀ x2 : Int, x2 = η1 0 (Int.toNat 17) → zok 0 x2 → ∀ η2 : zE, η2 = zup η1 0 (Int.toNat 13) x2 → ∀ x3 : Int, x3 = η2 0 (Int.toNat 18) → zok 0 x3 → ∀ η3 : zE, η3 = zup η2 0 (Int.toNat 14) x3 → ∀ x4 : Int, x4 = η3 0 (Int.toNat 19) → zok 0 x4 → ∀ η4 : zE, η4 = zup η3 0 (Int.toNat 15) x4 → ∀ (x5 : Int) (η5 : zE), ((gC2 wl_ne [(nat_lit 0, zPne_copies_4, zOne_copies_4, zMne_copies_4), (nat_lit 1, zPne_copies_7, zOne_copies_7, zMne_copies_7), (nat_lit 2, zPne_copies_8, zOne_copies_8, zMne_copies_8), (nat_lit 3, zPne_copies_9, zOne_copies_9, zMne_copies_9), (nat_lit 4, zPne_copies_10, zOne_copies_10, zMne_copies_10), (nat_lit 5, zPne_copies_11, zOne_copies_11, zMne_copies_11), (nat_lit 6, zPne_copies_12, zOne_copies_12, zMne_copies_12), (nat_lit 7, zPne_copies_13, zOne_copies_13, zMne_copies_13), (nat_lit 8, zPne_copies_14, zOne_copies_14, zMne_copies_14), (nat_lit 9, zPne_copies_15, zOne_copies_15, zMne_copies_15), (nat_lit 10, zPne_copies_5, zOne_copies_5, zMne_copies_5), (nat_lit 11, zPne_copies_6, zOne_copies_6, zMne_copies_6), (nat_lit 12, zPne_copies_17, zOne_copies_17, zMne_copies_17), (nat_lit 13, zPne_copies_18, zOne_copies_18, zMne_copies_18), (nat_lit 14, zPne_copies_19, zOne_copies_19, zMne_copies_19), (nat_lit 15, zPne_copies_20, zOne_copies_20, zMne_copies_20), (nat_lit 16, zPne_copies_21, zOne_copies_21, zMne_copies_21), (nat_lit 17, zPne_begin, zOne_begin, zMne_begin)] pCne_keepText qCne_keepText) 0).2 [] η4 x5 η5 → ∀ (x6 : Int) (η6 : zE), ((gC2 wl_ne [(nat_lit 0, zPne_copies_4, zOne_copies_4, zMne_copies_4), (nat_lit 1, zPne_copies_7, zOne_copies_7, zMne_copies_7), (nat_lit 2, zPne_copies_8, zOne_copies_8, zMne_copies_8), (nat_lit 3, zPne_copies_9, zOne_copies_9, zMne_copies_9), (nat_lit 4, zPne_copies_10, zOne_copies_10, zMne_copies_10), (nat_lit 5, zPne_copies_11, zOne_copies_11, zMne_copies_11), (nat_lit 6, zPne_copies_12, zOne_copies_12, zMne_copies_12), (nat_lit 7, zPne_copies_13, zOne_copies_13, zMne_copies_13), (nat_lit 8, zPne_copies_14, zOne_copies_14, zMne_copies_14), (nat_lit 9, zPne_copies_15, zOne_copies_15, zMne_copies_15), (nat_lit 10, zPne_copies_5, zOne_copies_5, zMne_copies_5), (nat_lit 11, zPne_copies_6, zOne_copies_6, zMne_copies_6), (nat_lit 12, zPne_copies_17, zOne_copies_17, zMne_copies_17), (nat_lit 13, zPne_copies_18, zOne_copies_18, zMne_copies_18), (nat_lit 14, zPne_copies_19, zOne_copies_19, zMne_copies_19), (nat_lit 15, zPne_copies_20, zOne_copies_20, zMne_copies_20), (nat_lit 16, zPne_copies_21, zOne_copies_21, zMne_copies_21), (nat_lit 17, zPne_begin, zOne_begin, zMne_begin)] pCne_keepText qCne_keepText) 10).2 [] η5 x6 η6 → ∀ (x7 : Int) (η7 : zE), ((gC2 wl_ne [(nat_lit 0, zPne_copies_4, zOne_copies_4, zMne_copies_4), (nat_lit 1, zPne_copies_7, zOne_copies_7, zMne_copies_7), (nat_lit 2, zPne_copies_8, zOne_copies_8, zMne_copies_8), (nat_lit 3, zPne_copies_9, zOne_copies_9, zMne_copies_9), (nat_lit 4, zPne_copies_10, zOne_copies_10, zMne_copies_10), (nat_lit 5, zPne_copies_11, zOne_copies_11, zMne_copies_11), (nat_lit 6, zPne_copies_12, zOne_copies_12, zMne_copies_12), (nat_lit 7, zPne_copies_13, zOne_copies_13, zMne_copies_13), (nat_lit 8, zPne_copies_14, zOne_copies_14, zMne_copies_14), (nat_lit 9, zPne_copies_15, zOne_copies_15, zMne_copies_15), (nat_lit 10, zPne_copies_5, zOne_copies_5, zMne_copies_5), (nat_lit 11, zPne_copies_6, zOne_copies_6, zMne_copies_6), (nat_lit 12, zPne_copies_17, zOne_copies_17, zMne_copies_17), (nat_lit 13, zPne_copies_18, zOne_copies_18, zMne_copies_18), (nat_lit 14, zPne_copies_19, zOne_copies_19, zMne_copies_19), (nat_lit 15, zPne_copies_20, zOne_copies_20, zMne_copies_20), (nat_lit 16, zPne_copies_21, zOne_copies_21, zMne_copies_21), (nat_lit 17, zPne_begin, zOne_begin, zMne_begin)] pCne_keepText qCne_keepText) 11).2 [] η6 x7 η7 → ∀ (x8 : Int) (η8 : zE), ((gC2 wl_ne [(nat_lit 0, zPne_copies_4, zOne_copies_4, zMne_copies_4), (nat_lit 1, zPne_copies_7, zOne_copies_7, zMne_copies_7), (nat_lit 2, zPne_copies_8, zOne_copies_8, zMne_copies_8), (nat_lit 3, zPne_copies_9, zOne_copies_9, zMne_copies_9), (nat_lit 4, zPne_copies_10, zOne_copies_10, zMne_copies_10), (nat_lit 5, zPne_copies_11, zOne_copies_11, zMne_copies_11), (nat_lit 6, zPne_copies_12, zOne_copies_12, zMne_copies_12), (nat_lit 7, zPne_copies_13, zOne_copies_13, zMne_copies_13), (nat_lit 8, zPne_copies_14, zOne_copies_14, zMne_copies_14), (nat_lit 9, zPne_copies_15, zOne_copies_15, zMne_copies_15), (nat_lit 10, zPne_copies_5, zOne_copies_5, zMne_copies_5), (nat_lit 11, zPne_copies_6, zOne_copies_6, zMne_copies_6), (nat_lit 12, zPne_copies_17, zOne_copies_17, zMne_copies_17), (nat_lit 13, zPne_copies_18, zOne_copies_18, zMne_copies_18), (nat_lit 14, zPne_copies_19, zOne_copies_19, zMne_copies_19), (nat_lit 15, zPne_copies_20, zOne_copies_20, zMne_copies_20), (nat_lit 16, zPne_copies_21, zOne_copies_21, zMne_copies_21), (nat_lit 17, zPne_begin, zOne_begin, zMne_begin)] pCne_keepText qCne_keepText) 1).2 [] η7 x8 η8 → ∀ (x9 : Int) (η9 : zE), ((gC2 wl_ne [(nat_lit 0, zPne_copies_4, zOne_copies_4, zMne_copies_4), (nat_lit 1, zPne_copies_7, zOne_copies_7, zMne_copies_7), (nat_lit 2, zPne_copies_8, zOne_copies_8, zMne_copies_8), (nat_lit 3, zPne_copies_9, zOne_copies_9, zMne_copies_9), (nat_lit 4, zPne_copies_10, zOne_copies_10, zMne_copies_10), (nat_lit 5, zPne_copies_11, zOne_copies_11, zMne_copies_11), (nat_lit 6, zPne_copies_12, zOne_copies_12, zMne_copies_12), (nat_lit 7, zPne_copies_13, zOne_copies_13, zMne_copies_13), (nat_lit 8, zPne_copies_14, zOne_copies_14, zMne_copies_14), (nat_lit 9, zPne_copies_15, zOne_copies_15, zMne_copies_15), (nat_lit 10, zPne_copies_5, zOne_copies_5, zMne_copies_5), (nat_lit 11, zPne_copies_6, zOne_copies_6, zMne_copies_6), (nat_lit 12, zPne_copies_17, zOne_copies_17, zMne_copies_17), (nat_lit 13, zPne_copies_18, zOne_copies_18, zMne_copies_18), (nat_lit 14, zPne_copies_19, zOne_copies_19, zMne_copies_19), (nat_lit 15, zPne_copies_20, zOne_copies_20, zMne_copies_20), (nat_lit 16, zPne_copies_21, zOne_copies_21, zMne_copies_21), (nat_lit 17, zPne_begin, zOne_begin, zMne_begin)] pCne_keepText qCne_keepText) 2).2 [] η8 x9 η9 → ∀ (x10 : Int) (η10 : zE), ((gC2 wl_ne [(nat_lit 0, zPne_copies_4, zOne_copies_4, zMne_copies_4), (nat_lit 1, zPne_copies_7, zOne_copies_7, zMne_copies_7), (nat_lit 2, zPne_copies_8, zOne_copies_8, zMne_copies_8), (nat_lit 3, zPne_copies_9, zOne_copies_9, zMne_copies_9), (nat_lit 4, zPne_copies_10, zOne_copies_10, zMne_copies_10), (nat_lit 5, zPne_copies_11, zOne_copies_11, zMne_copies_11), (nat_lit 6, zPne_copies_12, zOne_copies_12, zMne_copies_12), (nat_lit 7, zPne_copies_13, zOne_copies_13, zMne_copies_13), (nat_lit 8, zPne_copies_14, zOne_copies_14, zMne_copies_14), (nat_lit 9, zPne_copies_15, zOne_copies_15, zMne_copies_15), (nat_lit 10, zPne_copies_5, zOne_copies_5, zMne_copies_5), (nat_lit 11, zPne_copies_6, zOne_copies_6, zMne_copies_6), (nat_lit 12, zPne_copies_17, zOne_copies_17, zMne_copies_17), (nat_lit 13, zPne_copies_18, zOne_copies_18, zMne_copies_18), (nat_lit 14, zPne_copies_19, zOne_copies_19, zMne_copies_19), (nat_lit 15, zPne_copies_20, zOne_copies_20, zMne_copies_20), (nat_lit 16, zPne_copies_21, zOne_copies_21, zMne_copies_21), (nat_lit 17, zPne_begin, zOne_begin, zMne_begin)] pCne_keepText qCne_keepText) 3).2 [] η9 x10 η10 → ∀ (x11 : Int) (η11 : zE), ((gC2 wl_ne [(nat_lit 0, zPne_copies_4, zOne_copies_4, zMne_copies_4), (nat_lit 1, zPne_copies_7, zOne_copies_7, zMne_copies_7), (nat_lit 2, zPne_copies_8, zOne_copies_8, zMne_copies_8), (nat_lit 3, zPne_copies_9, zOne_copies_9, zMne_copies_9), (nat_lit 4, zPne_copies_10, zOne_copies_10, zMne_copies_10), (nat_lit 5, zPne_copies_11, zOne_copies_11, zMne_copies_11), (nat_lit 6, zPne_copies_12, zOne_copies_12, zMne_copies_12), (nat_lit 7, zPne_copies_13, zOne_copies_13, zMne_copies_13), (nat_lit 8, zPne_copies_14, zOne_copies_14, zMne_copies_14), (nat_lit 9, zPne_copies_15, zOne_copies_15, zMne_copies_15), (nat_lit 10, zPne_copies_5, zOne_copies_5, zMne_copies_5), (nat_lit 11, zPne_copies_6, zOne_copies_6, zMne_copies_6), (nat_lit 12, zPne_copies_17, zOne_copies_17, zMne_copies_17), (nat_lit 13, zPne_copies_18, zOne_copies_18, zMne_copies_18), (nat_lit 14, zPne_copies_19, zOne_copies_19, zMne_copies_19), (nat_lit 15, zPne_copies_20, zOne_copies_20, zMne_copies_20), (nat_lit 16, zPne_copies_21, zOne_copies_21, zMne_copies_21), (nat_lit 17, zPne_begin, zOne_begin, zMne_begin)] pCne_keepText qCne_keepText) 4).2 [] η10 x11 η11 → ∀ (x12 : Int) (η12 : zE), ((gC2 wl_ne [(nat_lit 0, zPne_copies_4, zOne_copies_4, zMne_copies_4), (nat_lit 1, zPne_copies_7, zOne_copies_7, zMne_copies_7), (nat_lit 2, zPne_copies_8, zOne_copies_8, zMne_copies_8), (nat_lit 3, zPne_copies_9, zOne_copies_9, zMne_copies_9), (nat_lit 4, zPne_copies_10, zOne_copies_10, zMne_copies_10), (nat_lit 5, zPne_copies_11, zOne_copies_11, zMne_copies_11), (nat_lit 6, zPne_copies_12, zOne_copies_12, zMne_copies_12), (nat_lit 7, zPne_copies_13, zOne_copies_13, zMne_copies_13), (nat_lit 8, zPne_copies_14, zOne_copies_14, zMne_copies_14), (nat_lit 9, zPne_copies_15, zOne_copies_15, zMne_copies_15), (nat_lit 10, zPne_copies_5, zOne_copies_5, zMne_copies_5), (nat_lit 11, zPne_copies_6, zOne_copies_6, zMne_copies_6), (nat_lit 12, zPne_copies_17, zOne_copies_17, zMne_copies_17), (nat_lit 13, zPne_copies_18, zOne_copies_18, zMne_copies_18), (nat_lit 14, zPne_copies_19, zOne_copies_19, zMne_copies_19), (nat_lit 15, zPne_copies_20, zOne_copies_20, zMne_copies_20), (nat_lit 16, zPne_copies_21, zOne_copies_21, zMne_copies_21), (nat_lit 17, zPne_begin, zOne_begin, zMne_begin)] pCne_keepText qCne_keepText) 5).2 [] η11 x12 η12 → ∀ (x13 : Int) (η13 : zE), ((gC2 wl_ne [(nat_lit 0, zPne_copies_4, zOne_copies_4, zMne_copies_4), (nat_lit 1, zPne_copies_7, zOne_copies_7, zMne_copies_7), (nat_lit 2, zPne_copies_8, zOne_copies_8, zMne_copies_8), (nat_lit 3, zPne_copies_9, zOne_copies_9, zMne_copies_9), (nat_lit 4, zPne_copies_10, zOne_copies_10, zMne_copies_10), (nat_lit 5, zPne_copies_11, zOne_copies_11, zMne_copies_11), (nat_lit 6, zPne_copies_12, zOne_copies_12, zMne_copies_12), (nat_lit 7, zPne_copies_13, zOne_copies_13, zMne_copies_13), (nat_lit 8, zPne_copies_14, zOne_copies_14, zMne_copies_14), (nat_lit 9, zPne_copies_15, zOne_copies_15, zMne_copies_15), (nat_lit 10, zPne_copies_5, zOne_copies_5, zMne_copies_5), (nat_lit 11, zPne_copies_6, zOne_copies_6, zMne_copies_6), (nat_lit 12, zPne_copies_17, zOne_copies_17, zMne_copies_17), (nat_lit 13, zPne_copies_18, zOne_copies_18, zMne_copies_18), (nat_lit 14, zPne_copies_19, zOne_copies_19, zMne_copies_19), (nat_lit 15, zPne_copies_20, zOne_copies_20, zMne_copies_20), (nat_lit 16, zPne_copies_21, zOne_copies_21, zMne_copies_21), (nat_lit 17, zPne_begin, zOne_begin, zMne_begin)] pCne_keepText qCne_keepText) 6).2 [] η12 x13 η13 → ∀ (x14 : Int) (η14 : zE), ((gC2 wl_ne [(nat_lit 0, zPne_copies_4, zOne_copies_4, zMne_copies_4), (nat_lit 1, zPne_copies_7, zOne_copies_7, zMne_copies_7), (nat_lit 2, zPne_copies_8, zOne_copies_8, zMne_copies_8), (nat_lit 3, zPne_copies_9, zOne_copies_9, zMne_copies_9), (nat_lit 4, zPne_copies_10, zOne_copies_10, zMne_copies_10), (nat_lit 5, zPne_copies_11, zOne_copies_11, zMne_copies_11), (nat_lit 6, zPne_copies_12, zOne_copies_12, zMne_copies_12), (nat_lit 7, zPne_copies_13, zOne_copies_13, zMne_copies_13), (nat_lit 8, zPne_copies_14, zOne_copies_14, zMne_copies_14), (nat_lit 9, zPne_copies_15, zOne_copies_15, zMne_copies_15), (nat_lit 10, zPne_copies_5, zOne_copies_5, zMne_copies_5), (nat_lit 11, zPne_copies_6, zOne_copies_6, zMne_copies_6), (nat_lit 12, zPne_copies_17, zOne_copies_17, zMne_copies_17), (nat_lit 13, zPne_copies_18, zOne_copies_18, zMne_copies_18), (nat_lit 14, zPne_copies_19, zOne_copies_19, zMne_copies_19), (nat_lit 15, zPne_copies_20, zOne_copies_20, zMne_copies_20), (nat_lit 16, zPne_copies_21, zOne_copies_21, zMne_copies_21), (nat_lit 17, zPne_begin, zOne_begin, zMne_begin)] pCne_keepText qCne_keepText) 7).2 [] η13 x14 η14 → ∀ (x15 : Int) (η15 : zE), ((gC2 wl_ne [(nat_lit 0, zPne_copies_4, zOne_copies_4, zMne_copies_4), (nat_lit 1, zPne_copies_7, zOne_copies_7, zMne_copies_7), (nat_lit 2, zPne_copies_8, zOne_copies_8, zMne_copies_8), (nat_lit 3, zPne_copies_9, zOne_copies_9, zMne_copies_9), (nat_lit 4, zPne_copies_10, zOne_copies_10, zMne_copies_10), (nat_lit 5, zPne_copies_11, zOne_copies_11, zMne_copies_11), (nat_lit 6, zPne_copies_12, zOne_copies_12, zMne_copies_12), (nat_lit 7, zPne_copies_13, zOne_copies_13, zMne_copies_13), (nat_lit 8, zPne_copies_14, zOne_copies_14, zMne_copies_14), (nat_lit 9, zPne_copies_15, zOne_copies_15, zMne_copies_15), (nat_lit 10, zPne_copies_5, zOne_copies_5, zMne_copies_5), (nat_lit 11, zPne_copies_6, zOne_copies_6, zMne_copies_6), (nat_lit 12, zPne_copies_17, zOne_copies_17, zMne_copies_17), (nat_lit 13, zPne_copies_18, zOne_copies_18, zMne_copies_18), (nat_lit 14, zPne_copies_19, zOne_copies_19, zMne_copies_19), (nat_lit 15, zPne_copies_20, zOne_copies_20, zMne_copies_20), (nat_lit 16, zPne_copies_21, zOne_copies_21, zMne_copies_21), (nat_lit 17, zPne_begin, zOne_begin, zMne_begin)] pCne_keepText qCne_keepText) 8).2 [] η14 x15 η15 → ∀ (x16 : Int) (η16 : zE), ((gC2 wl_ne [(nat_lit 0, zPne_copies_4, zOne_copies_4, zMne_copies_4), (nat_lit 1, zPne_copies_7, zOne_copies_7, zMne_copies_7), (nat_lit 2, zPne_copies_8, zOne_copies_8, zMne_copies_8), (nat_lit 3, zPne_copies_9, zOne_copies_9, zMne_copies_9), (nat_lit 4, zPne_copies_10, zOne_copies_10, zMne_copies_10), (nat_lit 5, zPne_copies_11, zOne_copies_11, zMne_copies_11), (nat_lit 6, zPne_copies_12, zOne_copies_12, zMne_copies_12), (nat_lit 7, zPne_copies_13, zOne_copies_13, zMne_copies_13), (nat_lit 8, zPne_copies_14, zOne_copies_14, zMne_copies_14), (nat_lit 9, zPne_copies_15, zOne_copies_15, zMne_copies_15), (nat_lit 10, zPne_copies_5, zOne_copies_5, zMne_copies_5), (nat_lit 11, zPne_copies_6, zOne_copies_6, zMne_copies_6), (nat_lit 12, zPne_copies_17, zOne_copies_17, zMne_copies_17), (nat_lit 13, zPne_copies_18, zOne_copies_18, zMne_copies_18), (nat_lit 14, zPne_copies_19, zOne_copies_19, zMne_copies_19), (nat_lit 15, zPne_copies_20, zOne_copies_20, zMne_copies_20), (nat_lit 16, zPne_copies_21, zOne_copies_21, zMne_copies_21), (nat_lit 17, zPne_begin, zOne_begin, zMne_begin)] pCne_keepText qCne_keepText) 9).2 [] η15 x16 η16 → ((0 : Int) < (3 : Int)) → ∀ x17 : Int, x17 = zd 0 1 3 0 → ∀ x18 : Int, x18 = η16 16 (Int.toNat x17) → zok 1 x18 → ∀ η17 : zE, η17 = zup η16 16 (Int.toNat 0) x18 → ∀ x19 : Int, x19 = zd 0 1 0 1 → (x19 < 3) → ∀ x20 : Int, x20 = zd 0 1 3 x19 → ∀ x21 : Int, x21 = η17 16 (Int.toNat x20) → zok 1 x21 → ∀ η18 : zE, η18 = zup η17 16 (Int.toNat x19) x21 → ∀ x22 : Int, x22 = zd 0 1 x19 1 → (x22 < 3) → ∀ x23 : Int, x23 = zd 0 1 3 x22 → ∀ x24 : Int, x24 = η18 16 (Int.toNat x23) → zok 1 x24 → ∀ η19 : zE, η19 = zup η18 16 (Int.toNat x22) x24 → ∀ x25 : Int, x25 = zd 0 1 x22 1 → (3 ≤ x25) → ∀ (x26 : Int) (η20 : zE), ((gC2 wl_ne [(nat_lit 0, zPne_copies_4, zOne_copies_4, zMne_copies_4), (nat_lit 1, zPne_copies_7, zOne_copies_7, zMne_copies_7), (nat_lit 2, zPne_copies_8, zOne_copies_8, zMne_copies_8), (nat_lit 3, zPne_copies_9, zOne_copies_9, zMne_copies_9), (nat_lit 4, zPne_copies_10, zOne_copies_10, zMne_copies_10), (nat_lit 5, zPne_copies_11, zOne_copies_11, zMne_copies_11), (nat_lit 6, zPne_copies_12, zOne_copies_12, zMne_copies_12), (nat_lit 7, zPne_copies_13, zOne_copies_13, zMne_copies_13), (nat_lit 8, zPne_copies_14, zOne_copies_14, zMne_copies_14), (nat_lit 9, zPne_copies_15, zOne_copies_15, zMne_copies_15), (nat_lit 10, zPne_copies_5, zOne_copies_5, zMne_copies_5), (nat_lit 11, zPne_copies_6, zOne_copies_6, zMne_copies_6), (nat_lit 12, zPne_copies_17, zOne_copies_17, zMne_copies_17), (nat_lit 13, zPne_copies_18, zOne_copies_18, zMne_copies_18), (nat_lit 14, zPne_copies_19, zOne_copies_19, zMne_copies_19), (nat_lit 15, zPne_copies_20, zOne_copies_20, zMne_copies_20), (nat_lit 16, zPne_copies_21, zOne_copies_21, zMne_copies_21), (nat_lit 17, zPne_begin, zOne_begin, zMne_begin)] pCne_keepText qCne_keepText) 12).2 [] η19 x26 η20 → ∀ (x27 : Int) (η21 : zE), ((gC2 wl_ne [(nat_lit 0, zPne_copies_4, zOne_copies_4, zMne_copies_4), (nat_lit 1, zPne_copies_7, zOne_copies_7, zMne_copies_7), (nat_lit 2, zPne_copies_8, zOne_copies_8, zMne_copies_8), (nat_lit 3, zPne_copies_9, zOne_copies_9, zMne_copies_9), (nat_lit 4, zPne_copies_10, zOne_copies_10, zMne_copies_10), (nat_lit 5, zPne_copies_11, zOne_copies_11, zMne_copies_11), (nat_lit 6, zPne_copies_12, zOne_copies_12, zMne_copies_12), (nat_lit 7, zPne_copies_13, zOne_copies_13, zMne_copies_13), (nat_lit 8, zPne_copies_14, zOne_copies_14, zMne_copies_14), (nat_lit 9, zPne_copies_15, zOne_copies_15, zMne_copies_15), (nat_lit 10, zPne_copies_5, zOne_copies_5, zMne_copies_5), (nat_lit 11, zPne_copies_6, zOne_copies_6, zMne_copies_6), (nat_lit 12, zPne_copies_17, zOne_copies_17, zMne_copies_17), (nat_lit 13, zPne_copies_18, zOne_copies_18, zMne_copies_18), (nat_lit 14, zPne_copies_19, zOne_copies_19, zMne_copies_19), (nat_lit 15, zPne_copies_20, zOne_copies_20, zMne_copies_20), (nat_lit 16, zPne_copies_21, zOne_copies_21, zMne_copies_21), (nat_lit 17, zPne_begin, zOne_begin, zMne_begin)] pCne_keepText qCne_keepText) 13).2 [] η20 x27 η21 → ((gC2 wl_ne [(nat_lit 0, zPne_copies_4, zOne_copies_4, zMne_copies_4), (nat_lit 1, zPne_copies_7, zOne_copies_7, zMne_copies_7), (nat_lit 2, zPne_copies_8, zOne_copies_8, zMne_copies_8), (nat_lit 3, zPne_copies_9, zOne_copies_9, zMne_copies_9), (nat_lit 4, zPne_copies_10, zOne_copies_10, zMne_copies_10), (nat_lit 5, zPne_copies_11, zOne_copies_11, zMne_copies_11), (nat_lit 6, zPne_copies_12, zOne_copies_12, zMne_copies_12), (nat_lit 7, zPne_copies_13, zOne_copies_13, zMne_copies_13), (nat_lit 8, zPne_copies_14, zOne_copies_14, zMne_copies_14), (nat_lit 9, zPne_copies_15, zOne_copies_15, zMne_copies_15), (nat_lit 10, zPne_copies_5, zOne_copies_5, zMne_copies_5), (nat_lit 11, zPne_copies_6, zOne_copies_6, zMne_copies_6), (nat_lit 12, zPne_copies_17, zOne_copies_17, zMne_copies_17), (nat_lit 13, zPne_copies_18, zOne_copies_18, zMne_copies_18), (nat_lit 14, zPne_copies_19, zOne_copies_19, zMne_copies_19), (nat_lit 15, zPne_copies_20, zOne_copies_20, zMne_copies_20), (nat_lit 16, zPne_copies_21, zOne_copies_21, zMne_copies_21), (nat_lit 17, zPne_begin, zOne_begin, zMne_begin)] pCne_keepText qCne_keepText) 14).1 [] η21 := by
  intro x1 e1 r1 η1 eη1 x2 e2 r2 η2 eη2 x3 e3 r3 η3 eη3 x4 e4 r4 η4 eη4 x5 η5 h5 x6 η6 h6 x7 η7 h7 x8 η8 h8 x9 η9 h9 x10 η10 h10 x11 η11 h11 x12 η12 h12 x13 η13 h13 x14 η14 h14 x15 η15 h15 x16 η16 h16 c1 x17 e17 x18 e18 r18 η17 eη17 x19 e19 c2 x20 e20 x21 e21 r21 η18 eη18 x22 e22 c3 x23 e23 x24 e24 r24 η19 eη19 x25 e25 c4 x26 η20 h26 x27 η21 h27
  have k5 : sQ wl_ne zTr zOne_copies_4 zMne_copies_4 [] η4 x5 η5 ∧ pQne_copies_4 [] η4 x5 η5 := h5
  have k6 : sQ wl_ne zTr zOne_copies_5 zMne_copies_5 [] η5 x6 η6 ∧ pQne_copies_5 [] η5 x6 η6 := h6
  have k7 : sQ wl_ne zTr zOne_copies_6 zMne_copies_6 [] η6 x7 η7 ∧ pQne_copies_6 [] η6 x7 η7 := h7
  have k8 : sQ wl_ne zTr zOne_copies_7 zMne_copies_7 [] η7 x8 η8 ∧ pQne_copies_7 [] η7 x8 η8 := h8
  have k9 : sQ wl_ne zTr zOne_copies_8 zMne_copies_8 [] η8 x9 η9 ∧ pQne_copies_8 [] η8 x9 η9 := h9
  have k10 : sQ wl_ne zTr zOne_copies_9 zMne_copies_9 [] η9 x10 η10 ∧ pQne_copies_9 [] η9 x10 η10 := h10
  have k11 : sQ wl_ne zTr zOne_copies_10 zMne_copies_10 [] η10 x11 η11 ∧ pQne_copies_10 [] η10 x11 η11 := h11
  have k12 : sQ wl_ne zTr zOne_copies_11 zMne_copies_11 [] η11 x12 η12 ∧ pQne_copies_11 [] η11 x12 η12 := h12
  have k13 : sQ wl_ne zTr zOne_copies_12 zMne_copies_12 [] η12 x13 η13 ∧ pQne_copies_12 [] η12 x13 η13 := h13
  have k14 : sQ wl_ne zTr zOne_copies_13 zMne_copies_13 [] η13 x14 η14 ∧ pQne_copies_13 [] η13 x14 η14 := h14
  have k15 : sQ wl_ne zTr zOne_copies_14 zMne_copies_14 [] η14 x15 η15 ∧ pQne_copies_14 [] η14 x15 η15 := h15
  have k16 : sQ wl_ne zTr zOne_copies_15 zMne_copies_15 [] η15 x16 η16 ∧ pQne_copies_15 [] η15 x16 η16 := h16
  have k26 : sQ wl_ne zTr zOne_copies_17 zMne_copies_17 [] η19 x26 η20 ∧ pQne_copies_17 [] η19 x26 η20 := h26
  have k27 : sQ wl_ne zTr zOne_copies_18 zMne_copies_18 [] η20 x27 η21 ∧ pQne_copies_18 [] η20 x27 η21 := h27
  exact trivial
set_option maxHeartbeats 8000000 in
theorem zne_keepText_o13 {ro : Nat → List Int32} (η : zE) (hp : sP wl_ne zTr zPne_keepText [] η) (hpp : pPne_keepText [] η) : ∀ x1 : Int, x1 = η 0 (Int.toNat 16) → zok 0 x1 → ∀ η1 : zE, η1 = zup η 0 (Int.toNat 12) x1 → ∀ x2 : Int, x2 = η1 0 (Int.toNat 17) → zok 0 x2 → ∀ η2 : zE, η2 = zup η1 0 (Int.toNat 13) x2 → ∀ x3 : Int, x3 = η2 0 (Int.toNat 18) → zok 0 x3 → ∀ η3 : zE, η3 = zup η2 0 (Int.toNat 14) x3 → ∀ x4 : Int, x4 = η3 0 (Int.toNat 19) → zok 0 x4 → ∀ η4 : zE, η4 = zup η3 0 (Int.toNat 15) x4 → ∀ (x5 : Int) (η5 : zE), ((gC2 wl_ne [(nat_lit 0, zPne_copies_4, zOne_copies_4, zMne_copies_4), (nat_lit 1, zPne_copies_7, zOne_copies_7, zMne_copies_7), (nat_lit 2, zPne_copies_8, zOne_copies_8, zMne_copies_8), (nat_lit 3, zPne_copies_9, zOne_copies_9, zMne_copies_9), (nat_lit 4, zPne_copies_10, zOne_copies_10, zMne_copies_10), (nat_lit 5, zPne_copies_11, zOne_copies_11, zMne_copies_11), (nat_lit 6, zPne_copies_12, zOne_copies_12, zMne_copies_12), (nat_lit 7, zPne_copies_13, zOne_copies_13, zMne_copies_13), (nat_lit 8, zPne_copies_14, zOne_copies_14, zMne_copies_14), (nat_lit 9, zPne_copies_15, zOne_copies_15, zMne_copies_15), (nat_lit 10, zPne_copies_5, zOne_copies_5, zMne_copies_5), (nat_lit 11, zPne_copies_6, zOne_copies_6, zMne_copies_6), (nat_lit 12, zPne_copies_17, zOne_copies_17, zMne_copies_17), (nat_lit 13, zPne_copies_18, zOne_copies_18, zMne_copies_18), (nat_lit 14, zPne_copies_19, zOne_copies_19, zMne_copies_19), (nat_lit 15, zPne_copies_20, zOne_copies_20, zMne_copies_20), (nat_lit 16, zPne_copies_21, zOne_copies_21, zMne_copies_21), (nat_lit 17, zPne_begin, zOne_begin, zMne_begin)] pCne_keepText qCne_keepText) 0).2 [] η4 x5 η5 → ∀ (x6 : Int) (η6 : zE), ((gC2 wl_ne [(nat_lit 0, zPne_copies_4, zOne_copies_4, zMne_copies_4), (nat_lit 1, zPne_copies_7, zOne_copies_7, zMne_copies_7), (nat_lit 2, zPne_copies_8, zOne_copies_8, zMne_copies_8), (nat_lit 3, zPne_copies_9, zOne_copies_9, zMne_copies_9), (nat_lit 4, zPne_copies_10, zOne_copies_10, zMne_copies_10), (nat_lit 5, zPne_copies_11, zOne_copies_11, zMne_copies_11), (nat_lit 6, zPne_copies_12, zOne_copies_12, zMne_copies_12), (nat_lit 7, zPne_copies_13, zOne_copies_13, zMne_copies_13), (nat_lit 8, zPne_copies_14, zOne_copies_14, zMne_copies_14), (nat_lit 9, zPne_copies_15, zOne_copies_15, zMne_copies_15), (nat_lit 10, zPne_copies_5, zOne_copies_5, zMne_copies_5), (nat_lit 11, zPne_copies_6, zOne_copies_6, zMne_copies_6), (nat_lit 12, zPne_copies_17, zOne_copies_17, zMne_copies_17), (nat_lit 13, zPne_copies_18, zOne_copies_18, zMne_copies_18), (nat_lit 14, zPne_copies_19, zOne_copies_19, zMne_copies_19), (nat_lit 15, zPne_copies_20, zOne_copies_20, zMne_copies_20), (nat_lit 16, zPne_copies_21, zOne_copies_21, zMne_copies_21), (nat_lit 17, zPne_begin, zOne_begin, zMne_begin)] pCne_keepText qCne_keepText) 10).2 [] η5 x6 η6 → ∀ (x7 : Int) (η7 : zE), ((gC2 wl_ne [(nat_lit 0, zPne_copies_4, zOne_copies_4, zMne_copies_4), (nat_lit 1, zPne_copies_7, zOne_copies_7, zMne_copies_7), (nat_lit 2, zPne_copies_8, zOne_copies_8, zMne_copies_8), (nat_lit 3, zPne_copies_9, zOne_copies_9, zMne_copies_9), (nat_lit 4, zPne_copies_10, zOne_copies_10, zMne_copies_10), (nat_lit 5, zPne_copies_11, zOne_copies_11, zMne_copies_11), (nat_lit 6, zPne_copies_12, zOne_copies_12, zMne_copies_12), (nat_lit 7, zPne_copies_13, zOne_copies_13, zMne_copies_13), (nat_lit 8, zPne_copies_14, zOne_copies_14, zMne_copies_14), (nat_lit 9, zPne_copies_15, zOne_copies_15, zMne_copies_15), (nat_lit 10, zPne_copies_5, zOne_copies_5, zMne_copies_5), (nat_lit 11, zPne_copies_6, zOne_copies_6, zMne_copies_6), (nat_lit 12, zPne_copies_17, zOne_copies_17, zMne_copies_17), (nat_lit 13, zPne_copies_18, zOne_copies_18, zMne_copies_18), (nat_lit 14, zPne_copies_19, zOne_copies_19, zMne_copies_19), (nat_lit 15, zPne_copies_20, zOne_copies_20, zMne_copies_20), (nat_lit 16, zPne_copies_21, zOne_copies_21, zMne_copies_21), (nat_lit 17, zPne_begin, zOne_begin, zMne_begin)] pCne_keepText qCne_keepText) 11).2 [] η6 x7 η7 → ∀ (x8 : Int) (η8 : zE), ((gC2 wl_ne [(nat_lit 0, zPne_copies_4, zOne_copies_4, zMne_copies_4), (nat_lit 1, zPne_copies_7, zOne_copies_7, zMne_copies_7), (nat_lit 2, zPne_copies_8, zOne_copies_8, zMne_copies_8), (nat_lit 3, zPne_copies_9, zOne_copies_9, zMne_copies_9), (nat_lit 4, zPne_copies_10, zOne_copies_10, zMne_copies_10), (nat_lit 5, zPne_copies_11, zOne_copies_11, zMne_copies_11), (nat_lit 6, zPne_copies_12, zOne_copies_12, zMne_copies_12), (nat_lit 7, zPne_copies_13, zOne_copies_13, zMne_copies_13), (nat_lit 8, zPne_copies_14, zOne_copies_14, zMne_copies_14), (nat_lit 9, zPne_copies_15, zOne_copies_15, zMne_copies_15), (nat_lit 10, zPne_copies_5, zOne_copies_5, zMne_copies_5), (nat_lit 11, zPne_copies_6, zOne_copies_6, zMne_copies_6), (nat_lit 12, zPne_copies_17, zOne_copies_17, zMne_copies_17), (nat_lit 13, zPne_copies_18, zOne_copies_18, zMne_copies_18), (nat_lit 14, zPne_copies_19, zOne_copies_19, zMne_copies_19), (nat_lit 15, zPne_copies_20, zOne_copies_20, zMne_copies_20), (nat_lit 16, zPne_copies_21, zOne_copies_21, zMne_copies_21), (nat_lit 17, zPne_begin, zOne_begin, zMne_begin)] pCne_keepText qCne_keepText) 1).2 [] η7 x8 η8 → ∀ (x9 : Int) (η9 : zE), ((gC2 wl_ne [(nat_lit 0, zPne_copies_4, zOne_copies_4, zMne_copies_4), (nat_lit 1, zPne_copies_7, zOne_copies_7, zMne_copies_7), (nat_lit 2, zPne_copies_8, zOne_copies_8, zMne_copies_8), (nat_lit 3, zPne_copies_9, zOne_copies_9, zMne_copies_9), (nat_lit 4, zPne_copies_10, zOne_copies_10, zMne_copies_10), (nat_lit 5, zPne_copies_11, zOne_copies_11, zMne_copies_11), (nat_lit 6, zPne_copies_12, zOne_copies_12, zMne_copies_12), (nat_lit 7, zPne_copies_13, zOne_copies_13, zMne_copies_13), (nat_lit 8, zPne_copies_14, zOne_copies_14, zMne_copies_14), (nat_lit 9, zPne_copies_15, zOne_copies_15, zMne_copies_15), (nat_lit 10, zPne_copies_5, zOne_copies_5, zMne_copies_5), (nat_lit 11, zPne_copies_6, zOne_copies_6, zMne_copies_6), (nat_lit 12, zPne_copies_17, zOne_copies_17, zMne_copies_17), (nat_lit 13, zPne_copies_18, zOne_copies_18, zMne_copies_18), (nat_lit 14, zPne_copies_19, zOne_copies_19, zMne_copies_19), (nat_lit 15, zPne_copies_20, zOne_copies_20, zMne_copies_20), (nat_lit 16, zPne_copies_21, zOne_copies_21, zMne_copies_21), (nat_lit 17, zPne_begin, zOne_begin, zMne_begin)] pCne_keepText qCne_keepText) 2).2 [] η8 x9 η9 → ∀ (x10 : Int) (η10 : zE), ((gC2 wl_ne [(nat_lit 0, zPne_copies_4, zOne_copies_4, zMne_copies_4), (nat_lit 1, zPne_copies_7, zOne_copies_7, zMne_copies_7), (nat_lit 2, zPne_copies_8, zOne_copies_8, zMne_copies_8), (nat_lit 3, zPne_copies_9, zOne_copies_9, zMne_copies_9), (nat_lit 4, zPne_copies_10, zOne_copies_10, zMne_copies_10), (nat_lit 5, zPne_copies_11, zOne_copies_11, zMne_copies_11), (nat_lit 6, zPne_copies_12, zOne_copies_12, zMne_copies_12), (nat_lit 7, zPne_copies_13, zOne_copies_13, zMne_copies_13), (nat_lit 8, zPne_copies_14, zOne_copies_14, zMne_copies_14), (nat_lit 9, zPne_copies_15, zOne_copies_15, zMne_copies_15), (nat_lit 10, zPne_copies_5, zOne_copies_5, zMne_copies_5), (nat_lit 11, zPne_copies_6, zOne_copies_6, zMne_copies_6), (nat_lit 12, zPne_copies_17, zOne_copies_17, zMne_copies_17), (nat_lit 13, zPne_copies_18, zOne_copies_18, zMne_copies_18), (nat_lit 14, zPne_copies_19, zOne_copies_19, zMne_copies_19), (nat_lit 15, zPne_copies_20, zOne_copies_20, zMne_copies_20), (nat_lit 16, zPne_copies_21, zOne_copies_21, zMne_copies_21), (nat_lit 17, zPne_begin, zOne_begin, zMne_begin)] pCne_keepText qCne_keepText) 3).2 [] η9 x10 η10 → ∀ (x11 : Int) (η11 : zE), ((gC2 wl_ne [(nat_lit 0, zPne_copies_4, zOne_copies_4, zMne_copies_4), (nat_lit 1, zPne_copies_7, zOne_copies_7, zMne_copies_7), (nat_lit 2, zPne_copies_8, zOne_copies_8, zMne_copies_8), (nat_lit 3, zPne_copies_9, zOne_copies_9, zMne_copies_9), (nat_lit 4, zPne_copies_10, zOne_copies_10, zMne_copies_10), (nat_lit 5, zPne_copies_11, zOne_copies_11, zMne_copies_11), (nat_lit 6, zPne_copies_12, zOne_copies_12, zMne_copies_12), (nat_lit 7, zPne_copies_13, zOne_copies_13, zMne_copies_13), (nat_lit 8, zPne_copies_14, zOne_copies_14, zMne_copies_14), (nat_lit 9, zPne_copies_15, zOne_copies_15, zMne_copies_15), (nat_lit 10, zPne_copies_5, zOne_copies_5, zMne_copies_5), (nat_lit 11, zPne_copies_6, zOne_copies_6, zMne_copies_6), (nat_lit 12, zPne_copies_17, zOne_copies_17, zMne_copies_17), (nat_lit 13, zPne_copies_18, zOne_copies_18, zMne_copies_18), (nat_lit 14, zPne_copies_19, zOne_copies_19, zMne_copies_19), (nat_lit 15, zPne_copies_20, zOne_copies_20, zMne_copies_20), (nat_lit 16, zPne_copies_21, zOne_copies_21, zMne_copies_21), (nat_lit 17, zPne_begin, zOne_begin, zMne_begin)] pCne_keepText qCne_keepText) 4).2 [] η10 x11 η11 → ∀ (x12 : Int) (η12 : zE), ((gC2 wl_ne [(nat_lit 0, zPne_copies_4, zOne_copies_4, zMne_copies_4), (nat_lit 1, zPne_copies_7, zOne_copies_7, zMne_copies_7), (nat_lit 2, zPne_copies_8, zOne_copies_8, zMne_copies_8), (nat_lit 3, zPne_copies_9, zOne_copies_9, zMne_copies_9), (nat_lit 4, zPne_copies_10, zOne_copies_10, zMne_copies_10), (nat_lit 5, zPne_copies_11, zOne_copies_11, zMne_copies_11), (nat_lit 6, zPne_copies_12, zOne_copies_12, zMne_copies_12), (nat_lit 7, zPne_copies_13, zOne_copies_13, zMne_copies_13), (nat_lit 8, zPne_copies_14, zOne_copies_14, zMne_copies_14), (nat_lit 9, zPne_copies_15, zOne_copies_15, zMne_copies_15), (nat_lit 10, zPne_copies_5, zOne_copies_5, zMne_copies_5), (nat_lit 11, zPne_copies_6, zOne_copies_6, zMne_copies_6), (nat_lit 12, zPne_copies_17, zOne_copies_17, zMne_copies_17), (nat_lit 13, zPne_copies_18, zOne_copies_18, zMne_copies_18), (nat_lit 14, zPne_copies_19, zOne_copies_19, zMne_copies_19), (nat_lit 15, zPne_copies_20, zOne_copies_20, zMne_copies_20), (nat_lit 16, zPne_copies_21, zOne_copies_21, zMne_copies_21), (nat_lit 17, zPne_begin, zOne_begin, zMne_begin)] pCne_keepText qCne_keepText) 5).2 [] η11 x12 η12 → ∀ (x13 : Int) (η13 : zE), ((gC2 wl_ne [(nat_lit 0, zPne_copies_4, zOne_copies_4, zMne_copies_4), (nat_lit 1, zPne_copies_7, zOne_copies_7, zMne_copies_7), (nat_lit 2, zPne_copies_8, zOne_copies_8, zMne_copies_8), (nat_lit 3, zPne_copies_9, zOne_copies_9, zMne_copies_9), (nat_lit 4, zPne_copies_10, zOne_copies_10, zMne_copies_10), (nat_lit 5, zPne_copies_11, zOne_copies_11, zMne_copies_11), (nat_lit 6, zPne_copies_12, zOne_copies_12, zMne_copies_12), (nat_lit 7, zPne_copies_13, zOne_copies_13, zMne_copies_13), (nat_lit 8, zPne_copies_14, zOne_copies_14, zMne_copies_14), (nat_lit 9, zPne_copies_15, zOne_copies_15, zMne_copies_15), (nat_lit 10, zPne_copies_5, zOne_copies_5, zMne_copies_5), (nat_lit 11, zPne_copies_6, zOne_copies_6, zMne_copies_6), (nat_lit 12, zPne_copies_17, zOne_copies_17, zMne_copies_17), (nat_lit 13, zPne_copies_18, zOne_copies_18, zMne_copies_18), (nat_lit 14, zPne_copies_19, zOne_copies_19, zMne_copies_19), (nat_lit 15, zPne_copies_20, zOne_copies_20, zMne_copies_20), (nat_lit 16, zPne_copies_21, zOne_copies_21, zMne_copies_21), (nat_lit 17, zPne_begin, zOne_begin, zMne_begin)] pCne_keepText qCne_keepText) 6).2 [] η12 x13 η13 → ∀ (x14 : Int) (η14 : zE), ((gC2 wl_ne [(nat_lit 0, zPne_copies_4, zOne_copies_4, zMne_copies_4), (nat_lit 1, zPne_copies_7, zOne_copies_7, zMne_copies_7), (nat_lit 2, zPne_copies_8, zOne_copies_8, zMne_copies_8), (nat_lit 3, zPne_copies_9, zOne_copies_9, zMne_copies_9), (nat_lit 4, zPne_copies_10, zOne_copies_10, zMne_copies_10), (nat_lit 5, zPne_copies_11, zOne_copies_11, zMne_copies_11), (nat_lit 6, zPne_copies_12, zOne_copies_12, zMne_copies_12), (nat_lit 7, zPne_copies_13, zOne_copies_13, zMne_copies_13), (nat_lit 8, zPne_copies_14, zOne_copies_14, zMne_copies_14), (nat_lit 9, zPne_copies_15, zOne_copies_15, zMne_copies_15), (nat_lit 10, zPne_copies_5, zOne_copies_5, zMne_copies_5), (nat_lit 11, zPne_copies_6, zOne_copies_6, zMne_copies_6), (nat_lit 12, zPne_copies_17, zOne_copies_17, zMne_copies_17), (nat_lit 13, zPne_copies_18, zOne_copies_18, zMne_copies_18), (nat_lit 14, zPne_copies_19, zOne_copies_19, zMne_copies_19), (nat_lit 15, zPne_copies_20, zOne_copies_20, zMne_copies_20), (nat_lit 16, zPne_copies_21, zOne_copies_21, zMne_copies_21), (nat_lit 17, zPne_begin, zOne_begin, zMne_begin)] pCne_keepText qCne_keepText) 7).2 [] η13 x14 η14 → ∀ (x15 : Int) (η15 : zE), ((gC2 wl_ne [(nat_lit 0, zPne_copies_4, zOne_copies_4, zMne_copies_4), (nat_lit 1, zPne_copies_7, zOne_copies_7, zMne_copies_7), (nat_lit 2, zPne_copies_8, zOne_copies_8, zMne_copies_8), (nat_lit 3, zPne_copies_9, zOne_copies_9, zMne_copies_9), (nat_lit 4, zPne_copies_10, zOne_copies_10, zMne_copies_10), (nat_lit 5, zPne_copies_11, zOne_copies_11, zMne_copies_11), (nat_lit 6, zPne_copies_12, zOne_copies_12, zMne_copies_12), (nat_lit 7, zPne_copies_13, zOne_copies_13, zMne_copies_13), (nat_lit 8, zPne_copies_14, zOne_copies_14, zMne_copies_14), (nat_lit 9, zPne_copies_15, zOne_copies_15, zMne_copies_15), (nat_lit 10, zPne_copies_5, zOne_copies_5, zMne_copies_5), (nat_lit 11, zPne_copies_6, zOne_copies_6, zMne_copies_6), (nat_lit 12, zPne_copies_17, zOne_copies_17, zMne_copies_17), (nat_lit 13, zPne_copies_18, zOne_copies_18, zMne_copies_18), (nat_lit 14, zPne_copies_19, zOne_copies_19, zMne_copies_19), (nat_lit 15, zPne_copies_20, zOne_copies_20, zMne_copies_20), (nat_lit 16, zPne_copies_21, zOne_copies_21, zMne_copies_21), (nat_lit 17, zPne_begin, zOne_begin, zMne_begin)] pCne_keepText qCne_keepText) 8).2 [] η14 x15 η15 → ∀ (x16 : Int) (η16 : zE), ((gC2 wl_ne [(nat_lit 0, zPne_copies_4, zOne_copies_4, zMne_copies_4), (nat_lit 1, zPne_copies_7, zOne_copies_7, zMne_copies_7), (nat_lit 2, zPne_copies_8, zOne_copies_8, zMne_copies_8), (nat_lit 3, zPne_copies_9, zOne_copies_9, zMne_copies_9), (nat_lit 4, zPne_copies_10, zOne_copies_10, zMne_copies_10), (nat_lit 5, zPne_copies_11, zOne_copies_11, zMne_copies_11), (nat_lit 6, zPne_copies_12, zOne_copies_12, zMne_copies_12), (nat_lit 7, zPne_copies_13, zOne_copies_13, zMne_copies_13), (nat_lit 8, zPne_copies_14, zOne_copies_14, zMne_copies_14), (nat_lit 9, zPne_copies_15, zOne_copies_15, zMne_copies_15), (nat_lit 10, zPne_copies_5, zOne_copies_5, zMne_copies_5), (nat_lit 11, zPne_copies_6, zOne_copies_6, zMne_copies_6), (nat_lit 12, zPne_copies_17, zOne_copies_17, zMne_copies_17), (nat_lit 13, zPne_copies_18, zOne_copies_18, zMne_copies_18), (nat_lit 14, zPne_copies_19, zOne_copies_19, zMne_copies_19), (nat_lit 15, zPne_copies_20, zOne_copies_20, zMne_copies_20), (nat_lit 16, zPne_copies_21, zOne_copies_21, zMne_copies_21), (nat_lit 17, zPne_begin, zOne_begin, zMne_begin)] pCne_keepText qCne_keepText) 9).2 [] η15 x16 η16 → ((0 : Int) < (3 : Int)) → ∀ x17 : Int, x17 = zd 0 1 3 0 → ∀ x18 : Int, x18 = η16 16 (Int.toNat x17) → zok 1 x18 → ∀ η17 : zE, η17 = zup η16 16 (Int.toNat 0) x18 → ∀ x19 : Int, x19 = zd 0 1 0 1 → (x19 < 3) → ∀ x20 : Int, x20 = zd 0 1 3 x19 → ∀ x21 : Int, x21 = η17 16 (Int.toNat x20) → zok 1 x21 → ∀ η18 : zE, η18 = zup η17 16 (Int.toNat x19) x21 → ∀ x22 : Int, x22 = zd 0 1 x19 1 → (x22 < 3) → ∀ x23 : Int, x23 = zd 0 1 3 x22 → ∀ x24 : Int, x24 = η18 16 (Int.toNat x23) → zok 1 x24 → ∀ η19 : zE, η19 = zup η18 16 (Int.toNat x22) x24 → ∀ x25 : Int, x25 = zd 0 1 x22 1 → (3 ≤ x25) → ∀ (x26 : Int) (η20 : zE), ((gC2 wl_ne [(nat_lit 0, zPne_copies_4, zOne_copies_4, zMne_copies_4), (nat_lit 1, zPne_copies_7, zOne_copies_7, zMne_copies_7), (nat_lit 2, zPne_copies_8, zOne_copies_8, zMne_copies_8), (nat_lit 3, zPne_copies_9, zOne_copies_9, zMne_copies_9), (nat_lit 4, zPne_copies_10, zOne_copies_10, zMne_copies_10), (nat_lit 5, zPne_copies_11, zOne_copies_11, zMne_copies_11), (nat_lit 6, zPne_copies_12, zOne_copies_12, zMne_copies_12), (nat_lit 7, zPne_copies_13, zOne_copies_13, zMne_copies_13), (nat_lit 8, zPne_copies_14, zOne_copies_14, zMne_copies_14), (nat_lit 9, zPne_copies_15, zOne_copies_15, zMne_copies_15), (nat_lit 10, zPne_copies_5, zOne_copies_5, zMne_copies_5), (nat_lit 11, zPne_copies_6, zOne_copies_6, zMne_copies_6), (nat_lit 12, zPne_copies_17, zOne_copies_17, zMne_copies_17), (nat_lit 13, zPne_copies_18, zOne_copies_18, zMne_copies_18), (nat_lit 14, zPne_copies_19, zOne_copies_19, zMne_copies_19), (nat_lit 15, zPne_copies_20, zOne_copies_20, zMne_copies_20), (nat_lit 16, zPne_copies_21, zOne_copies_21, zMne_copies_21), (nat_lit 17, zPne_begin, zOne_begin, zMne_begin)] pCne_keepText qCne_keepText) 12).2 [] η19 x26 η20 → ∀ (x27 : Int) (η21 : zE), ((gC2 wl_ne [(nat_lit 0, zPne_copies_4, zOne_copies_4, zMne_copies_4), (nat_lit 1, zPne_copies_7, zOne_copies_7, zMne_copies_7), (nat_lit 2, zPne_copies_8, zOne_copies_8, zMne_copies_8), (nat_lit 3, zPne_copies_9, zOne_copies_9, zMne_copies_9), (nat_lit 4, zPne_copies_10, zOne_copies_10, zMne_copies_10), (nat_lit 5, zPne_copies_11, zOne_copies_11, zMne_copies_11), (nat_lit 6, zPne_copies_12, zOne_copies_12, zMne_copies_12), (nat_lit 7, zPne_copies_13, zOne_copies_13, zMne_copies_13), (nat_lit 8, zPne_copies_14, zOne_copies_14, zMne_copies_14), (nat_lit 9, zPne_copies_15, zOne_copies_15, zMne_copies_15), (nat_lit 10, zPne_copies_5, zOne_copies_5, zMne_copies_5), (nat_lit 11, zPne_copies_6, zOne_copies_6, zMne_copies_6), (nat_lit 12, zPne_copies_17, zOne_copies_17, zMne_copies_17), (nat_lit 13, zPne_copies_18, zOne_copies_18, zMne_copies_18), (nat_lit 14, zPne_copies_19, zOne_copies_19, zMne_copies_19), (nat_lit 15, zPne_copies_20, zOne_copies_20, zMne_copies_20), (nat_lit 16, zPne_copies_21, zOne_copies_21, zMne_copies_21), (nat_lit 17, zPne_begin, zOne_begin, zMne_begin)] pCne_keepText qCne_keepText) 13).2 [] η20 x27 η21 → ∀ (x28 : Int) (η22 : zE), ((gC2 wl_ne [(nat_lit 0, zPne_copies_4, zOne_copies_4, zMne_copies_4), (nat_lit 1, zPne_copies_7, zOne_copies_7, zMne_copies_7), (nat_lit 2, zPne_copies_8, zOne_copies_8, zMne_copies_8), (nat_lit 3, zPne_copies_9, zOne_copies_9, zMne_copies_9), (nat_lit 4, zPne_copies_10, zOne_copies_10, zMne_copies_10), (nat_lit 5, zPne_copies_11, zOne_copies_11, zMne_copies_11), (nat_lit 6, zPne_copies_12, zOne_copies_12, zMne_copies_12), (nat_lit 7, zPne_copies_13, zOne_copies_13, zMne_copies_13), (nat_lit 8, zPne_copies_14, zOne_copies_14, zMne_copies_14), (nat_lit 9, zPne_copies_15, zOne_copies_15, zMne_copies_15), (nat_lit 10, zPne_copies_5, zOne_copies_5, zMne_copies_5), (nat_lit 11, zPne_copies_6, zOne_copies_6, zMne_copies_6), (nat_lit 12, zPne_copies_17, zOne_copies_17, zMne_copies_17), (nat_lit 13, zPne_copies_18, zOne_copies_18, zMne_copies_18), (nat_lit 14, zPne_copies_19, zOne_copies_19, zMne_copies_19), (nat_lit 15, zPne_copies_20, zOne_copies_20, zMne_copies_20), (nat_lit 16, zPne_copies_21, zOne_copies_21, zMne_copies_21), (nat_lit 17, zPne_begin, zOne_begin, zMne_begin)] pCne_keepText qCne_keepText) 14).2 [] η21 x28 η22 → ((gC2 wl_ne [(nat_lit 0, zPne_copies_4, zOne_copies_4, zMne_copies_4), (nat_lit 1, zPne_copies_7, zOne_copies_7, zMne_copies_7), (nat_lit 2, zPne_copies_8, zOne_copies_8, zMne_copies_8), (nat_lit 3, zPne_copies_9, zOne_copies_9, zMne_copies_9), (nat_lit 4, zPne_copies_10, zOne_copies_10, zMne_copies_10), (nat_lit 5, zPne_copies_11, zOne_copies_11, zMne_copies_11), (nat_lit 6, zPne_copies_12, zOne_copies_12, zMne_copies_12), (nat_lit 7, zPne_copies_13, zOne_copies_13, zMne_copies_13), (nat_lit 8, zPne_copies_14, zOne_copies_14, zMne_copies_14), (nat_lit 9, zPne_copies_15, zOne_copies_15, zMne_copies_15), (nat_lit 10, zPne_copies_5, zOne_copies_5, zMne_copies_5), (nat_lit 11, zPne_copies_6, zOne_copies_6, zMne_copies_6), (nat_lit 12, zPne_copies_17, zOne_copies_17, zMne_copies_17), (nat_lit 13, zPne_copies_18, zOne_copies_18, zMne_copies_18), (nat_lit 14, zPne_copies_19, zOne_copies_19, zMne_copies_19), (nat_lit 15, zPne_copies_20, zOne_copies_20, zMne_copies_20), (nat_lit 16, zPne_copies_21, zOne_copies_21, zMne_copies_21), (nat_lit 17, zPne_begin, zOne_begin, zMne_begin)] pCne_keepText qCne_keepText) 15).1 [] η22 := by
  intro x1 e1 r1 η1 eη1 x2 e2 r2 η2 eη2 x3 e3 r3 η3 eη3 x4 e4 r4 η4 eη4 x5 η5 h5 x6 η6 h6 x7 η7 h7 x8 η8 h8 x9 η9 h9 x10 η10 h10 x11 η11 h11 x12 η12 h12 x13 η13 h13 x14 η14 h14 x15 η15 h15 x16 η16 h16 c1 x17 e17 x18 e18 r18 η17 eη17 x19 e19 c2 x20 e20 x21 e21 r21 η18 eη18 x22 e22 c3 x23 e23 x24 e24 r24 η19 eη19 x25 e25 c4 x26 η20 h26 x27 η21 h27 x28 η22 h28
  have k5 : sQ wl_ne zTr zOne_copies_4 zMne_copies_4 [] η4 x5 η5 ∧ pQne_copies_4 [] η4 x5 η5 := h5
  have k6 : sQ wl_ne zTr zOne_copies_5 zMne_copies_5 [] η5 x6 η6 ∧ pQne_copies_5 [] η5 x6 η6 := h6
  have k7 : sQ wl_ne zTr zOne_copies_6 zMne_copies_6 [] η6 x7 η7 ∧ pQne_copies_6 [] η6 x7 η7 := h7
  have k8 : sQ wl_ne zTr zOne_copies_7 zMne_copies_7 [] η7 x8 η8 ∧ pQne_copies_7 [] η7 x8 η8 := h8
  have k9 : sQ wl_ne zTr zOne_copies_8 zMne_copies_8 [] η8 x9 η9 ∧ pQne_copies_8 [] η8 x9 η9 := h9
  have k10 : sQ wl_ne zTr zOne_copies_9 zMne_copies_9 [] η9 x10 η10 ∧ pQne_copies_9 [] η9 x10 η10 := h10
  have k11 : sQ wl_ne zTr zOne_copies_10 zMne_copies_10 [] η10 x11 η11 ∧ pQne_copies_10 [] η10 x11 η11 := h11
  have k12 : sQ wl_ne zTr zOne_copies_11 zMne_copies_11 [] η11 x12 η12 ∧ pQne_copies_11 [] η11 x12 η12 := h12
  have k13 : sQ wl_ne zTr zOne_copies_12 zMne_copies_12 [] η12 x13 η13 ∧ pQne_copies_12 [] η12 x13 η13 := h13
  have k14 : sQ wl_ne zTr zOne_copies_13 zMne_copies_13 [] η13 x14 η14 ∧ pQne_copies_13 [] η13 x14 η14 := h14
  have k15 : sQ wl_ne zTr zOne_copies_14 zMne_copies_14 [] η14 x15 η15 ∧ pQne_copies_14 [] η14 x15 η15 := h15
  have k16 : sQ wl_ne zTr zOne_copies_15 zMne_copies_15 [] η15 x16 η16 ∧ pQne_copies_15 [] η15 x16 η16 := h16
  have k26 : sQ wl_ne zTr zOne_copies_17 zMne_copies_17 [] η19 x26 η20 ∧ pQne_copies_17 [] η19 x26 η20 := h26
  have k27 : sQ wl_ne zTr zOne_copies_18 zMne_copies_18 [] η20 x27 η21 ∧ pQne_copies_18 [] η20 x27 η21 := h27
  have k28 : sQ wl_ne zTr zOne_copies_19 zMne_copies_19 [] η21 x28 η22 ∧ pQne_copies_19 [] η21 x28 η22 := h28
  exact trivial
set_option maxHeartbeats 8000000 in
theorem zne_keepText_o14 {ro : Nat → List Int32} (η : zE) (hp : sP wl_ne zTr zPne_keepText [] η) (hpp : pPne_keepText [] η) : ∀ x1 : Int, x1 = η 0 (Int.toNat 16) → zok 0 x1 → ∀ η1 : zE, η1 = zup η 0 (Int.toNat 12) x1 → ∀ x2 : Int, x2 = η1 0 (Int.toNat 17) → zok 0 x2 → ∀ η2 : zE, η2 = zup η1 0 (Int.toNat 13) x2 → ∀ x3 : Int, x3 = η2 0 (Int.toNat 18) → zok 0 x3 → ∀ η3 : zE, η3 = zup η2 0 (Int.toNat 14) x3 → ∀ x4 : Int, x4 = η3 0 (Int.toNat 19) → zok 0 x4 → ∀ η4 : zE, η4 = zup η3 0 (Int.toNat 15) x4 → ∀ (x5 : Int) (η5 : zE), ((gC2 wl_ne [(nat_lit 0, zPne_copies_4, zOne_copies_4, zMne_copies_4), (nat_lit 1, zPne_copies_7, zOne_copies_7, zMne_copies_7), (nat_lit 2, zPne_copies_8, zOne_copies_8, zMne_copies_8), (nat_lit 3, zPne_copies_9, zOne_copies_9, zMne_copies_9), (nat_lit 4, zPne_copies_10, zOne_copies_10, zMne_copies_10), (nat_lit 5, zPne_copies_11, zOne_copies_11, zMne_copies_11), (nat_lit 6, zPne_copies_12, zOne_copies_12, zMne_copies_12), (nat_lit 7, zPne_copies_13, zOne_copies_13, zMne_copies_13), (nat_lit 8, zPne_copies_14, zOne_copies_14, zMne_copies_14), (nat_lit 9, zPne_copies_15, zOne_copies_15, zMne_copies_15), (nat_lit 10, zPne_copies_5, zOne_copies_5, zMne_copies_5), (nat_lit 11, zPne_copies_6, zOne_copies_6, zMne_copies_6), (nat_lit 12, zPne_copies_17, zOne_copies_17, zMne_copies_17), (nat_lit 13, zPne_copies_18, zOne_copies_18, zMne_copies_18), (nat_lit 14, zPne_copies_19, zOne_copies_19, zMne_copies_19), (nat_lit 15, zPne_copies_20, zOne_copies_20, zMne_copies_20), (nat_lit 16, zPne_copies_21, zOne_copies_21, zMne_copies_21), (nat_lit 17, zPne_begin, zOne_begin, zMne_begin)] pCne_keepText qCne_keepText) 0).2 [] η4 x5 η5 → ∀ (x6 : Int) (η6 : zE), ((gC2 wl_ne [(nat_lit 0, zPne_copies_4, zOne_copies_4, zMne_copies_4), (nat_lit 1, zPne_copies_7, zOne_copies_7, zMne_copies_7), (nat_lit 2, zPne_copies_8, zOne_copies_8, zMne_copies_8), (nat_lit 3, zPne_copies_9, zOne_copies_9, zMne_copies_9), (nat_lit 4, zPne_copies_10, zOne_copies_10, zMne_copies_10), (nat_lit 5, zPne_copies_11, zOne_copies_11, zMne_copies_11), (nat_lit 6, zPne_copies_12, zOne_copies_12, zMne_copies_12), (nat_lit 7, zPne_copies_13, zOne_copies_13, zMne_copies_13), (nat_lit 8, zPne_copies_14, zOne_copies_14, zMne_copies_14), (nat_lit 9, zPne_copies_15, zOne_copies_15, zMne_copies_15), (nat_lit 10, zPne_copies_5, zOne_copies_5, zMne_copies_5), (nat_lit 11, zPne_copies_6, zOne_copies_6, zMne_copies_6), (nat_lit 12, zPne_copies_17, zOne_copies_17, zMne_copies_17), (nat_lit 13, zPne_copies_18, zOne_copies_18, zMne_copies_18), (nat_lit 14, zPne_copies_19, zOne_copies_19, zMne_copies_19), (nat_lit 15, zPne_copies_20, zOne_copies_20, zMne_copies_20), (nat_lit 16, zPne_copies_21, zOne_copies_21, zMne_copies_21), (nat_lit 17, zPne_begin, zOne_begin, zMne_begin)] pCne_keepText qCne_keepText) 10).2 [] η5 x6 η6 → ∀ (x7 : Int) (η7 : zE), ((gC2 wl_ne [(nat_lit 0, zPne_copies_4, zOne_copies_4, zMne_copies_4), (nat_lit 1, zPne_copies_7, zOne_copies_7, zMne_copies_7), (nat_lit 2, zPne_copies_8, zOne_copies_8, zMne_copies_8), (nat_lit 3, zPne_copies_9, zOne_copies_9, zMne_copies_9), (nat_lit 4, zPne_copies_10, zOne_copies_10, zMne_copies_10), (nat_lit 5, zPne_copies_11, zOne_copies_11, zMne_copies_11), (nat_lit 6, zPne_copies_12, zOne_copies_12, zMne_copies_12), (nat_lit 7, zPne_copies_13, zOne_copies_13, zMne_copies_13), (nat_lit 8, zPne_copies_14, zOne_copies_14, zMne_copies_14), (nat_lit 9, zPne_copies_15, zOne_copies_15, zMne_copies_15), (nat_lit 10, zPne_copies_5, zOne_copies_5, zMne_copies_5), (nat_lit 11, zPne_copies_6, zOne_copies_6, zMne_copies_6), (nat_lit 12, zPne_copies_17, zOne_copies_17, zMne_copies_17), (nat_lit 13, zPne_copies_18, zOne_copies_18, zMne_copies_18), (nat_lit 14, zPne_copies_19, zOne_copies_19, zMne_copies_19), (nat_lit 15, zPne_copies_20, zOne_copies_20, zMne_copies_20), (nat_lit 16, zPne_copies_21, zOne_copies_21, zMne_copies_21), (nat_lit 17, zPne_begin, zOne_begin, zMne_begin)] pCne_keepText qCne_keepText) 11).2 [] η6 x7 η7 → ∀ (x8 : Int) (η8 : zE), ((gC2 wl_ne [(nat_lit 0, zPne_copies_4, zOne_copies_4, zMne_copies_4), (nat_lit 1, zPne_copies_7, zOne_copies_7, zMne_copies_7), (nat_lit 2, zPne_copies_8, zOne_copies_8, zMne_copies_8), (nat_lit 3, zPne_copies_9, zOne_copies_9, zMne_copies_9), (nat_lit 4, zPne_copies_10, zOne_copies_10, zMne_copies_10), (nat_lit 5, zPne_copies_11, zOne_copies_11, zMne_copies_11), (nat_lit 6, zPne_copies_12, zOne_copies_12, zMne_copies_12), (nat_lit 7, zPne_copies_13, zOne_copies_13, zMne_copies_13), (nat_lit 8, zPne_copies_14, zOne_copies_14, zMne_copies_14), (nat_lit 9, zPne_copies_15, zOne_copies_15, zMne_copies_15), (nat_lit 10, zPne_copies_5, zOne_copies_5, zMne_copies_5), (nat_lit 11, zPne_copies_6, zOne_copies_6, zMne_copies_6), (nat_lit 12, zPne_copies_17, zOne_copies_17, zMne_copies_17), (nat_lit 13, zPne_copies_18, zOne_copies_18, zMne_copies_18), (nat_lit 14, zPne_copies_19, zOne_copies_19, zMne_copies_19), (nat_lit 15, zPne_copies_20, zOne_copies_20, zMne_copies_20), (nat_lit 16, zPne_copies_21, zOne_copies_21, zMne_copies_21), (nat_lit 17, zPne_begin, zOne_begin, zMne_begin)] pCne_keepText qCne_keepText) 1).2 [] η7 x8 η8 → ∀ (x9 : Int) (η9 : zE), ((gC2 wl_ne [(nat_lit 0, zPne_copies_4, zOne_copies_4, zMne_copies_4), (nat_lit 1, zPne_copies_7, zOne_copies_7, zMne_copies_7), (nat_lit 2, zPne_copies_8, zOne_copies_8, zMne_copies_8), (nat_lit 3, zPne_copies_9, zOne_copies_9, zMne_copies_9), (nat_lit 4, zPne_copies_10, zOne_copies_10, zMne_copies_10), (nat_lit 5, zPne_copies_11, zOne_copies_11, zMne_copies_11), (nat_lit 6, zPne_copies_12, zOne_copies_12, zMne_copies_12), (nat_lit 7, zPne_copies_13, zOne_copies_13, zMne_copies_13), (nat_lit 8, zPne_copies_14, zOne_copies_14, zMne_copies_14), (nat_lit 9, zPne_copies_15, zOne_copies_15, zMne_copies_15), (nat_lit 10, zPne_copies_5, zOne_copies_5, zMne_copies_5), (nat_lit 11, zPne_copies_6, zOne_copies_6, zMne_copies_6), (nat_lit 12, zPne_copies_17, zOne_copies_17, zMne_copies_17), (nat_lit 13, zPne_copies_18, zOne_copies_18, zMne_copies_18), (nat_lit 14, zPne_copies_19, zOne_copies_19, zMne_copies_19), (nat_lit 15, zPne_copies_20, zOne_copies_20, zMne_copies_20), (nat_lit 16, zPne_copies_21, zOne_copies_21, zMne_copies_21), (nat_lit 17, zPne_begin, zOne_begin, zMne_begin)] pCne_keepText qCne_keepText) 2).2 [] η8 x9 η9 → ∀ (x10 : Int) (η10 : zE), ((gC2 wl_ne [(nat_lit 0, zPne_copies_4, zOne_copies_4, zMne_copies_4), (nat_lit 1, zPne_copies_7, zOne_copies_7, zMne_copies_7), (nat_lit 2, zPne_copies_8, zOne_copies_8, zMne_copies_8), (nat_lit 3, zPne_copies_9, zOne_copies_9, zMne_copies_9), (nat_lit 4, zPne_copies_10, zOne_copies_10, zMne_copies_10), (nat_lit 5, zPne_copies_11, zOne_copies_11, zMne_copies_11), (nat_lit 6, zPne_copies_12, zOne_copies_12, zMne_copies_12), (nat_lit 7, zPne_copies_13, zOne_copies_13, zMne_copies_13), (nat_lit 8, zPne_copies_14, zOne_copies_14, zMne_copies_14), (nat_lit 9, zPne_copies_15, zOne_copies_15, zMne_copies_15), (nat_lit 10, zPne_copies_5, zOne_copies_5, zMne_copies_5), (nat_lit 11, zPne_copies_6, zOne_copies_6, zMne_copies_6), (nat_lit 12, zPne_copies_17, zOne_copies_17, zMne_copies_17), (nat_lit 13, zPne_copies_18, zOne_copies_18, zMne_copies_18), (nat_lit 14, zPne_copies_19, zOne_copies_19, zMne_copies_19), (nat_lit 15, zPne_copies_20, zOne_copies_20, zMne_copies_20), (nat_lit 16, zPne_copies_21, zOne_copies_21, zMne_copies_21), (nat_lit 17, zPne_begin, zOne_begin, zMne_begin)] pCne_keepText qCne_keepText) 3).2 [] η9 x10 η10 → ∀ (x11 : Int) (η11 : zE), ((gC2 wl_ne [(nat_lit 0, zPne_copies_4, zOne_copies_4, zMne_copies_4), (nat_lit 1, zPne_copies_7, zOne_copies_7, zMne_copies_7), (nat_lit 2, zPne_copies_8, zOne_copies_8, zMne_copies_8), (nat_lit 3, zPne_copies_9, zOne_copies_9, zMne_copies_9), (nat_lit 4, zPne_copies_10, zOne_copies_10, zMne_copies_10), (nat_lit 5, zPne_copies_11, zOne_copies_11, zMne_copies_11), (nat_lit 6, zPne_copies_12, zOne_copies_12, zMne_copies_12), (nat_lit 7, zPne_copies_13, zOne_copies_13, zMne_copies_13), (nat_lit 8, zPne_copies_14, zOne_copies_14, zMne_copies_14), (nat_lit 9, zPne_copies_15, zOne_copies_15, zMne_copies_15), (nat_lit 10, zPne_copies_5, zOne_copies_5, zMne_copies_5), (nat_lit 11, zPne_copies_6, zOne_copies_6, zMne_copies_6), (nat_lit 12, zPne_copies_17, zOne_copies_17, zMne_copies_17), (nat_lit 13, zPne_copies_18, zOne_copies_18, zMne_copies_18), (nat_lit 14, zPne_copies_19, zOne_copies_19, zMne_copies_19), (nat_lit 15, zPne_copies_20, zOne_copies_20, zMne_copies_20), (nat_lit 16, zPne_copies_21, zOne_copies_21, zMne_copies_21), (nat_lit 17, zPne_begin, zOne_begin, zMne_begin)] pCne_keepText qCne_keepText) 4).2 [] η10 x11 η11 → ∀ (x12 : Int) (η12 : zE), ((gC2 wl_ne [(nat_lit 0, zPne_copies_4, zOne_copies_4, zMne_copies_4), (nat_lit 1, zPne_copies_7, zOne_copies_7, zMne_copies_7), (nat_lit 2, zPne_copies_8, zOne_copies_8, zMne_copies_8), (nat_lit 3, zPne_copies_9, zOne_copies_9, zMne_copies_9), (nat_lit 4, zPne_copies_10, zOne_copies_10, zMne_copies_10), (nat_lit 5, zPne_copies_11, zOne_copies_11, zMne_copies_11), (nat_lit 6, zPne_copies_12, zOne_copies_12, zMne_copies_12), (nat_lit 7, zPne_copies_13, zOne_copies_13, zMne_copies_13), (nat_lit 8, zPne_copies_14, zOne_copies_14, zMne_copies_14), (nat_lit 9, zPne_copies_15, zOne_copies_15, zMne_copies_15), (nat_lit 10, zPne_copies_5, zOne_copies_5, zMne_copies_5), (nat_lit 11, zPne_copies_6, zOne_copies_6, zMne_copies_6), (nat_lit 12, zPne_copies_17, zOne_copies_17, zMne_copies_17), (nat_lit 13, zPne_copies_18, zOne_copies_18, zMne_copies_18), (nat_lit 14, zPne_copies_19, zOne_copies_19, zMne_copies_19), (nat_lit 15, zPne_copies_20, zOne_copies_20, zMne_copies_20), (nat_lit 16, zPne_copies_21, zOne_copies_21, zMne_copies_21), (nat_lit 17, zPne_begin, zOne_begin, zMne_begin)] pCne_keepText qCne_keepText) 5).2 [] η11 x12 η12 → ∀ (x13 : Int) (η13 : zE), ((gC2 wl_ne [(nat_lit 0, zPne_copies_4, zOne_copies_4, zMne_copies_4), (nat_lit 1, zPne_copies_7, zOne_copies_7, zMne_copies_7), (nat_lit 2, zPne_copies_8, zOne_copies_8, zMne_copies_8), (nat_lit 3, zPne_copies_9, zOne_copies_9, zMne_copies_9), (nat_lit 4, zPne_copies_10, zOne_copies_10, zMne_copies_10), (nat_lit 5, zPne_copies_11, zOne_copies_11, zMne_copies_11), (nat_lit 6, zPne_copies_12, zOne_copies_12, zMne_copies_12), (nat_lit 7, zPne_copies_13, zOne_copies_13, zMne_copies_13), (nat_lit 8, zPne_copies_14, zOne_copies_14, zMne_copies_14), (nat_lit 9, zPne_copies_15, zOne_copies_15, zMne_copies_15), (nat_lit 10, zPne_copies_5, zOne_copies_5, zMne_copies_5), (nat_lit 11, zPne_copies_6, zOne_copies_6, zMne_copies_6), (nat_lit 12, zPne_copies_17, zOne_copies_17, zMne_copies_17), (nat_lit 13, zPne_copies_18, zOne_copies_18, zMne_copies_18), (nat_lit 14, zPne_copies_19, zOne_copies_19, zMne_copies_19), (nat_lit 15, zPne_copies_20, zOne_copies_20, zMne_copies_20), (nat_lit 16, zPne_copies_21, zOne_copies_21, zMne_copies_21), (nat_lit 17, zPne_begin, zOne_begin, zMne_begin)] pCne_keepText qCne_keepText) 6).2 [] η12 x13 η13 → ∀ (x14 : Int) (η14 : zE), ((gC2 wl_ne [(nat_lit 0, zPne_copies_4, zOne_copies_4, zMne_copies_4), (nat_lit 1, zPne_copies_7, zOne_copies_7, zMne_copies_7), (nat_lit 2, zPne_copies_8, zOne_copies_8, zMne_copies_8), (nat_lit 3, zPne_copies_9, zOne_copies_9, zMne_copies_9), (nat_lit 4, zPne_copies_10, zOne_copies_10, zMne_copies_10), (nat_lit 5, zPne_copies_11, zOne_copies_11, zMne_copies_11), (nat_lit 6, zPne_copies_12, zOne_copies_12, zMne_copies_12), (nat_lit 7, zPne_copies_13, zOne_copies_13, zMne_copies_13), (nat_lit 8, zPne_copies_14, zOne_copies_14, zMne_copies_14), (nat_lit 9, zPne_copies_15, zOne_copies_15, zMne_copies_15), (nat_lit 10, zPne_copies_5, zOne_copies_5, zMne_copies_5), (nat_lit 11, zPne_copies_6, zOne_copies_6, zMne_copies_6), (nat_lit 12, zPne_copies_17, zOne_copies_17, zMne_copies_17), (nat_lit 13, zPne_copies_18, zOne_copies_18, zMne_copies_18), (nat_lit 14, zPne_copies_19, zOne_copies_19, zMne_copies_19), (nat_lit 15, zPne_copies_20, zOne_copies_20, zMne_copies_20), (nat_lit 16, zPne_copies_21, zOne_copies_21, zMne_copies_21), (nat_lit 17, zPne_begin, zOne_begin, zMne_begin)] pCne_keepText qCne_keepText) 7).2 [] η13 x14 η14 → ∀ (x15 : Int) (η15 : zE), ((gC2 wl_ne [(nat_lit 0, zPne_copies_4, zOne_copies_4, zMne_copies_4), (nat_lit 1, zPne_copies_7, zOne_copies_7, zMne_copies_7), (nat_lit 2, zPne_copies_8, zOne_copies_8, zMne_copies_8), (nat_lit 3, zPne_copies_9, zOne_copies_9, zMne_copies_9), (nat_lit 4, zPne_copies_10, zOne_copies_10, zMne_copies_10), (nat_lit 5, zPne_copies_11, zOne_copies_11, zMne_copies_11), (nat_lit 6, zPne_copies_12, zOne_copies_12, zMne_copies_12), (nat_lit 7, zPne_copies_13, zOne_copies_13, zMne_copies_13), (nat_lit 8, zPne_copies_14, zOne_copies_14, zMne_copies_14), (nat_lit 9, zPne_copies_15, zOne_copies_15, zMne_copies_15), (nat_lit 10, zPne_copies_5, zOne_copies_5, zMne_copies_5), (nat_lit 11, zPne_copies_6, zOne_copies_6, zMne_copies_6), (nat_lit 12, zPne_copies_17, zOne_copies_17, zMne_copies_17), (nat_lit 13, zPne_copies_18, zOne_copies_18, zMne_copies_18), (nat_lit 14, zPne_copies_19, zOne_copies_19, zMne_copies_19), (nat_lit 15, zPne_copies_20, zOne_copies_20, zMne_copies_20), (nat_lit 16, zPne_copies_21, zOne_copies_21, zMne_copies_21), (nat_lit 17, zPne_begin, zOne_begin, zMne_begin)] pCne_keepText qCne_keepText) 8).2 [] η14 x15 η15 → ∀ (x16 : Int) (η16 : zE), ((gC2 wl_ne [(nat_lit 0, zPne_copies_4, zOne_copies_4, zMne_copies_4), (nat_lit 1, zPne_copies_7, zOne_copies_7, zMne_copies_7), (nat_lit 2, zPne_copies_8, zOne_copies_8, zMne_copies_8), (nat_lit 3, zPne_copies_9, zOne_copies_9, zMne_copies_9), (nat_lit 4, zPne_copies_10, zOne_copies_10, zMne_copies_10), (nat_lit 5, zPne_copies_11, zOne_copies_11, zMne_copies_11), (nat_lit 6, zPne_copies_12, zOne_copies_12, zMne_copies_12), (nat_lit 7, zPne_copies_13, zOne_copies_13, zMne_copies_13), (nat_lit 8, zPne_copies_14, zOne_copies_14, zMne_copies_14), (nat_lit 9, zPne_copies_15, zOne_copies_15, zMne_copies_15), (nat_lit 10, zPne_copies_5, zOne_copies_5, zMne_copies_5), (nat_lit 11, zPne_copies_6, zOne_copies_6, zMne_copies_6), (nat_lit 12, zPne_copies_17, zOne_copies_17, zMne_copies_17), (nat_lit 13, zPne_copies_18, zOne_copies_18, zMne_copies_18), (nat_lit 14, zPne_copies_19, zOne_copies_19, zMne_copies_19), (nat_lit 15, zPne_copies_20, zOne_copies_20, zMne_copies_20), (nat_lit 16, zPne_copies_21, zOne_copies_21, zMne_copies_21), (nat_lit 17, zPne_begin, zOne_begin, zMne_begin)] pCne_keepText qCne_keepText) 9).2 [] η15 x16 η16 → ((0 : Int) < (3 : Int)) → ∀ x17 : Int, x17 = zd 0 1 3 0 → ∀ x18 : Int, x18 = η16 16 (Int.toNat x17) → zok 1 x18 → ∀ η17 : zE, η17 = zup η16 16 (Int.toNat 0) x18 → ∀ x19 : Int, x19 = zd 0 1 0 1 → (x19 < 3) → ∀ x20 : Int, x20 = zd 0 1 3 x19 → ∀ x21 : Int, x21 = η17 16 (Int.toNat x20) → zok 1 x21 → ∀ η18 : zE, η18 = zup η17 16 (Int.toNat x19) x21 → ∀ x22 : Int, x22 = zd 0 1 x19 1 → (x22 < 3) → ∀ x23 : Int, x23 = zd 0 1 3 x22 → ∀ x24 : Int, x24 = η18 16 (Int.toNat x23) → zok 1 x24 → ∀ η19 : zE, η19 = zup η18 16 (Int.toNat x22) x24 → ∀ x25 : Int, x25 = zd 0 1 x22 1 → (3 ≤ x25) → ∀ (x26 : Int) (η20 : zE), ((gC2 wl_ne [(nat_lit 0, zPne_copies_4, zOne_copies_4, zMne_copies_4), (nat_lit 1, zPne_copies_7, zOne_copies_7, zMne_copies_7), (nat_lit 2, zPne_copies_8, zOne_copies_8, zMne_copies_8), (nat_lit 3, zPne_copies_9, zOne_copies_9, zMne_copies_9), (nat_lit 4, zPne_copies_10, zOne_copies_10, zMne_copies_10), (nat_lit 5, zPne_copies_11, zOne_copies_11, zMne_copies_11), (nat_lit 6, zPne_copies_12, zOne_copies_12, zMne_copies_12), (nat_lit 7, zPne_copies_13, zOne_copies_13, zMne_copies_13), (nat_lit 8, zPne_copies_14, zOne_copies_14, zMne_copies_14), (nat_lit 9, zPne_copies_15, zOne_copies_15, zMne_copies_15), (nat_lit 10, zPne_copies_5, zOne_copies_5, zMne_copies_5), (nat_lit 11, zPne_copies_6, zOne_copies_6, zMne_copies_6), (nat_lit 12, zPne_copies_17, zOne_copies_17, zMne_copies_17), (nat_lit 13, zPne_copies_18, zOne_copies_18, zMne_copies_18), (nat_lit 14, zPne_copies_19, zOne_copies_19, zMne_copies_19), (nat_lit 15, zPne_copies_20, zOne_copies_20, zMne_copies_20), (nat_lit 16, zPne_copies_21, zOne_copies_21, zMne_copies_21), (nat_lit 17, zPne_begin, zOne_begin, zMne_begin)] pCne_keepText qCne_keepText) 12).2 [] η19 x26 η20 → ∀ (x27 : Int) (η21 : zE), ((gC2 wl_ne [(nat_lit 0, zPne_copies_4, zOne_copies_4, zMne_copies_4), (nat_lit 1, zPne_copies_7, zOne_copies_7, zMne_copies_7), (nat_lit 2, zPne_copies_8, zOne_copies_8, zMne_copies_8), (nat_lit 3, zPne_copies_9, zOne_copies_9, zMne_copies_9), (nat_lit 4, zPne_copies_10, zOne_copies_10, zMne_copies_10), (nat_lit 5, zPne_copies_11, zOne_copies_11, zMne_copies_11), (nat_lit 6, zPne_copies_12, zOne_copies_12, zMne_copies_12), (nat_lit 7, zPne_copies_13, zOne_copies_13, zMne_copies_13), (nat_lit 8, zPne_copies_14, zOne_copies_14, zMne_copies_14), (nat_lit 9, zPne_copies_15, zOne_copies_15, zMne_copies_15), (nat_lit 10, zPne_copies_5, zOne_copies_5, zMne_copies_5), (nat_lit 11, zPne_copies_6, zOne_copies_6, zMne_copies_6), (nat_lit 12, zPne_copies_17, zOne_copies_17, zMne_copies_17), (nat_lit 13, zPne_copies_18, zOne_copies_18, zMne_copies_18), (nat_lit 14, zPne_copies_19, zOne_copies_19, zMne_copies_19), (nat_lit 15, zPne_copies_20, zOne_copies_20, zMne_copies_20), (nat_lit 16, zPne_copies_21, zOne_copies_21, zMne_copies_21), (nat_lit 17, zPne_begin, zOne_begin, zMne_begin)] pCne_keepText qCne_keepText) 13).2 [] η20 x27 η21 → ∀ (x28 : Int) (η22 : zE), ((gC2 wl_ne [(nat_lit 0, zPne_copies_4, zOne_copies_4, zMne_copies_4), (nat_lit 1, zPne_copies_7, zOne_copies_7, zMne_copies_7), (nat_lit 2, zPne_copies_8, zOne_copies_8, zMne_copies_8), (nat_lit 3, zPne_copies_9, zOne_copies_9, zMne_copies_9), (nat_lit 4, zPne_copies_10, zOne_copies_10, zMne_copies_10), (nat_lit 5, zPne_copies_11, zOne_copies_11, zMne_copies_11), (nat_lit 6, zPne_copies_12, zOne_copies_12, zMne_copies_12), (nat_lit 7, zPne_copies_13, zOne_copies_13, zMne_copies_13), (nat_lit 8, zPne_copies_14, zOne_copies_14, zMne_copies_14), (nat_lit 9, zPne_copies_15, zOne_copies_15, zMne_copies_15), (nat_lit 10, zPne_copies_5, zOne_copies_5, zMne_copies_5), (nat_lit 11, zPne_copies_6, zOne_copies_6, zMne_copies_6), (nat_lit 12, zPne_copies_17, zOne_copies_17, zMne_copies_17), (nat_lit 13, zPne_copies_18, zOne_copies_18, zMne_copies_18), (nat_lit 14, zPne_copies_19, zOne_copies_19, zMne_copies_19), (nat_lit 15, zPne_copies_20, zOne_copies_20, zMne_copies_20), (nat_lit 16, zPne_copies_21, zOne_copies_21, zMne_copies_21), (nat_lit 17, zPne_begin, zOne_begin, zMne_begin)] pCne_keepText qCne_keepText) 14).2 [] η21 x28 η22 → ∀ (x29 : Int) (η23 : zE), ((gC2 wl_ne [(nat_lit 0, zPne_copies_4, zOne_copies_4, zMne_copies_4), (nat_lit 1, zPne_copies_7, zOne_copies_7, zMne_copies_7), (nat_lit 2, zPne_copies_8, zOne_copies_8, zMne_copies_8), (nat_lit 3, zPne_copies_9, zOne_copies_9, zMne_copies_9), (nat_lit 4, zPne_copies_10, zOne_copies_10, zMne_copies_10), (nat_lit 5, zPne_copies_11, zOne_copies_11, zMne_copies_11), (nat_lit 6, zPne_copies_12, zOne_copies_12, zMne_copies_12), (nat_lit 7, zPne_copies_13, zOne_copies_13, zMne_copies_13), (nat_lit 8, zPne_copies_14, zOne_copies_14, zMne_copies_14), (nat_lit 9, zPne_copies_15, zOne_copies_15, zMne_copies_15), (nat_lit 10, zPne_copies_5, zOne_copies_5, zMne_copies_5), (nat_lit 11, zPne_copies_6, zOne_copies_6, zMne_copies_6), (nat_lit 12, zPne_copies_17, zOne_copies_17, zMne_copies_17), (nat_lit 13, zPne_copies_18, zOne_copies_18, zMne_copies_18), (nat_lit 14, zPne_copies_19, zOne_copies_19, zMne_copies_19), (nat_lit 15, zPne_copies_20, zOne_copies_20, zMne_copies_20), (nat_lit 16, zPne_copies_21, zOne_copies_21, zMne_copies_21), (nat_lit 17, zPne_begin, zOne_begin, zMne_begin)] pCne_keepText qCne_keepText) 15).2 [] η22 x29 η23 → ((gC2 wl_ne [(nat_lit 0, zPne_copies_4, zOne_copies_4, zMne_copies_4), (nat_lit 1, zPne_copies_7, zOne_copies_7, zMne_copies_7), (nat_lit 2, zPne_copies_8, zOne_copies_8, zMne_copies_8), (nat_lit 3, zPne_copies_9, zOne_copies_9, zMne_copies_9), (nat_lit 4, zPne_copies_10, zOne_copies_10, zMne_copies_10), (nat_lit 5, zPne_copies_11, zOne_copies_11, zMne_copies_11), (nat_lit 6, zPne_copies_12, zOne_copies_12, zMne_copies_12), (nat_lit 7, zPne_copies_13, zOne_copies_13, zMne_copies_13), (nat_lit 8, zPne_copies_14, zOne_copies_14, zMne_copies_14), (nat_lit 9, zPne_copies_15, zOne_copies_15, zMne_copies_15), (nat_lit 10, zPne_copies_5, zOne_copies_5, zMne_copies_5), (nat_lit 11, zPne_copies_6, zOne_copies_6, zMne_copies_6), (nat_lit 12, zPne_copies_17, zOne_copies_17, zMne_copies_17), (nat_lit 13, zPne_copies_18, zOne_copies_18, zMne_copies_18), (nat_lit 14, zPne_copies_19, zOne_copies_19, zMne_copies_19), (nat_lit 15, zPne_copies_20, zOne_copies_20, zMne_copies_20), (nat_lit 16, zPne_copies_21, zOne_copies_21, zMne_copies_21), (nat_lit 17, zPne_begin, zOne_begin, zMne_begin)] pCne_keepText qCne_keepText) 16).1 [] η23 := by
  intro x1 e1 r1 η1 eη1 x2 e2 r2 η2 eη2 x3 e3 r3 η3 eη3 x4 e4 r4 η4 eη4 x5 η5 h5 x6 η6 h6 x7 η7 h7 x8 η8 h8 x9 η9 h9 x10 η10 h10 x11 η11 h11 x12 η12 h12 x13 η13 h13 x14 η14 h14 x15 η15 h15 x16 η16 h16 c1 x17 e17 x18 e18 r18 η17 eη17 x19 e19 c2 x20 e20 x21 e21 r21 η18 eη18 x22 e22 c3 x23 e23 x24 e24 r24 η19 eη19 x25 e25 c4 x26 η20 h26 x27 η21 h27 x28 η22 h28 x29 η23 h29
  have k5 : sQ wl_ne zTr zOne_copies_4 zMne_copies_4 [] η4 x5 η5 ∧ pQne_copies_4 [] η4 x5 η5 := h5
  have k6 : sQ wl_ne zTr zOne_copies_5 zMne_copies_5 [] η5 x6 η6 ∧ pQne_copies_5 [] η5 x6 η6 := h6
  have k7 : sQ wl_ne zTr zOne_copies_6 zMne_copies_6 [] η6 x7 η7 ∧ pQne_copies_6 [] η6 x7 η7 := h7
  have k8 : sQ wl_ne zTr zOne_copies_7 zMne_copies_7 [] η7 x8 η8 ∧ pQne_copies_7 [] η7 x8 η8 := h8
  have k9 : sQ wl_ne zTr zOne_copies_8 zMne_copies_8 [] η8 x9 η9 ∧ pQne_copies_8 [] η8 x9 η9 := h9
  have k10 : sQ wl_ne zTr zOne_copies_9 zMne_copies_9 [] η9 x10 η10 ∧ pQne_copies_9 [] η9 x10 η10 := h10
  have k11 : sQ wl_ne zTr zOne_copies_10 zMne_copies_10 [] η10 x11 η11 ∧ pQne_copies_10 [] η10 x11 η11 := h11
  have k12 : sQ wl_ne zTr zOne_copies_11 zMne_copies_11 [] η11 x12 η12 ∧ pQne_copies_11 [] η11 x12 η12 := h12
  have k13 : sQ wl_ne zTr zOne_copies_12 zMne_copies_12 [] η12 x13 η13 ∧ pQne_copies_12 [] η12 x13 η13 := h13
  have k14 : sQ wl_ne zTr zOne_copies_13 zMne_copies_13 [] η13 x14 η14 ∧ pQne_copies_13 [] η13 x14 η14 := h14
  have k15 : sQ wl_ne zTr zOne_copies_14 zMne_copies_14 [] η14 x15 η15 ∧ pQne_copies_14 [] η14 x15 η15 := h15
  have k16 : sQ wl_ne zTr zOne_copies_15 zMne_copies_15 [] η15 x16 η16 ∧ pQne_copies_15 [] η15 x16 η16 := h16
  have k26 : sQ wl_ne zTr zOne_copies_17 zMne_copies_17 [] η19 x26 η20 ∧ pQne_copies_17 [] η19 x26 η20 := h26
  have k27 : sQ wl_ne zTr zOne_copies_18 zMne_copies_18 [] η20 x27 η21 ∧ pQne_copies_18 [] η20 x27 η21 := h27
  have k28 : sQ wl_ne zTr zOne_copies_19 zMne_copies_19 [] η21 x28 η22 ∧ pQne_copies_19 [] η21 x28 η22 := h28
  have k29 : sQ wl_ne zTr zOne_copies_20 zMne_copies_20 [] η22 x29 η23 ∧ pQne_copies_20 [] η22 x29 η23 := h29
  exact trivial
set_option maxHeartbeats 8000000 in
theorem zne_keepText_o15 {ro : Nat → List Int32} (η : zE) (hp : sP wl_ne zTr zPne_keepText [] η) (hpp : pPne_keepText [] η) : ∀ x1 : Int, x1 = η 0 (Int.toNat 16) → zok 0 x1 → ∀ η1 : zE, η1 = zup η 0 (Int.toNat 12) x1 → ∀ x2 : Int, x2 = η1 0 (Int.toNat 17) → zok 0 x2 → ∀ η2 : zE, η2 = zup η1 0 (Int.toNat 13) x2 → ∀ x3 : Int, x3 = η2 0 (Int.toNat 18) → zok 0 x3 → ∀ η3 : zE, η3 = zup η2 0 (Int.toNat 14) x3 → ∀ x4 : Int, x4 = η3 0 (Int.toNat 19) → zok 0 x4 → ∀ η4 : zE, η4 = zup η3 0 (Int.toNat 15) x4 → ∀ (x5 : Int) (η5 : zE), ((gC2 wl_ne [(nat_lit 0, zPne_copies_4, zOne_copies_4, zMne_copies_4), (nat_lit 1, zPne_copies_7, zOne_copies_7, zMne_copies_7), (nat_lit 2, zPne_copies_8, zOne_copies_8, zMne_copies_8), (nat_lit 3, zPne_copies_9, zOne_copies_9, zMne_copies_9), (nat_lit 4, zPne_copies_10, zOne_copies_10, zMne_copies_10), (nat_lit 5, zPne_copies_11, zOne_copies_11, zMne_copies_11), (nat_lit 6, zPne_copies_12, zOne_copies_12, zMne_copies_12), (nat_lit 7, zPne_copies_13, zOne_copies_13, zMne_copies_13), (nat_lit 8, zPne_copies_14, zOne_copies_14, zMne_copies_14), (nat_lit 9, zPne_copies_15, zOne_copies_15, zMne_copies_15), (nat_lit 10, zPne_copies_5, zOne_copies_5, zMne_copies_5), (nat_lit 11, zPne_copies_6, zOne_copies_6, zMne_copies_6), (nat_lit 12, zPne_copies_17, zOne_copies_17, zMne_copies_17), (nat_lit 13, zPne_copies_18, zOne_copies_18, zMne_copies_18), (nat_lit 14, zPne_copies_19, zOne_copies_19, zMne_copies_19), (nat_lit 15, zPne_copies_20, zOne_copies_20, zMne_copies_20), (nat_lit 16, zPne_copies_21, zOne_copies_21, zMne_copies_21), (nat_lit 17, zPne_begin, zOne_begin, zMne_begin)] pCne_keepText qCne_keepText) 0).2 [] η4 x5 η5 → ∀ (x6 : Int) (η6 : zE), ((gC2 wl_ne [(nat_lit 0, zPne_copies_4, zOne_copies_4, zMne_copies_4), (nat_lit 1, zPne_copies_7, zOne_copies_7, zMne_copies_7), (nat_lit 2, zPne_copies_8, zOne_copies_8, zMne_copies_8), (nat_lit 3, zPne_copies_9, zOne_copies_9, zMne_copies_9), (nat_lit 4, zPne_copies_10, zOne_copies_10, zMne_copies_10), (nat_lit 5, zPne_copies_11, zOne_copies_11, zMne_copies_11), (nat_lit 6, zPne_copies_12, zOne_copies_12, zMne_copies_12), (nat_lit 7, zPne_copies_13, zOne_copies_13, zMne_copies_13), (nat_lit 8, zPne_copies_14, zOne_copies_14, zMne_copies_14), (nat_lit 9, zPne_copies_15, zOne_copies_15, zMne_copies_15), (nat_lit 10, zPne_copies_5, zOne_copies_5, zMne_copies_5), (nat_lit 11, zPne_copies_6, zOne_copies_6, zMne_copies_6), (nat_lit 12, zPne_copies_17, zOne_copies_17, zMne_copies_17), (nat_lit 13, zPne_copies_18, zOne_copies_18, zMne_copies_18), (nat_lit 14, zPne_copies_19, zOne_copies_19, zMne_copies_19), (nat_lit 15, zPne_copies_20, zOne_copies_20, zMne_copies_20), (nat_lit 16, zPne_copies_21, zOne_copies_21, zMne_copies_21), (nat_lit 17, zPne_begin, zOne_begin, zMne_begin)] pCne_keepText qCne_keepText) 10).2 [] η5 x6 η6 → ∀ (x7 : Int) (η7 : zE), ((gC2 wl_ne [(nat_lit 0, zPne_copies_4, zOne_copies_4, zMne_copies_4), (nat_lit 1, zPne_copies_7, zOne_copies_7, zMne_copies_7), (nat_lit 2, zPne_copies_8, zOne_copies_8, zMne_copies_8), (nat_lit 3, zPne_copies_9, zOne_copies_9, zMne_copies_9), (nat_lit 4, zPne_copies_10, zOne_copies_10, zMne_copies_10), (nat_lit 5, zPne_copies_11, zOne_copies_11, zMne_copies_11), (nat_lit 6, zPne_copies_12, zOne_copies_12, zMne_copies_12), (nat_lit 7, zPne_copies_13, zOne_copies_13, zMne_copies_13), (nat_lit 8, zPne_copies_14, zOne_copies_14, zMne_copies_14), (nat_lit 9, zPne_copies_15, zOne_copies_15, zMne_copies_15), (nat_lit 10, zPne_copies_5, zOne_copies_5, zMne_copies_5), (nat_lit 11, zPne_copies_6, zOne_copies_6, zMne_copies_6), (nat_lit 12, zPne_copies_17, zOne_copies_17, zMne_copies_17), (nat_lit 13, zPne_copies_18, zOne_copies_18, zMne_copies_18), (nat_lit 14, zPne_copies_19, zOne_copies_19, zMne_copies_19), (nat_lit 15, zPne_copies_20, zOne_copies_20, zMne_copies_20), (nat_lit 16, zPne_copies_21, zOne_copies_21, zMne_copies_21), (nat_lit 17, zPne_begin, zOne_begin, zMne_begin)] pCne_keepText qCne_keepText) 11).2 [] η6 x7 η7 → ∀ (x8 : Int) (η8 : zE), ((gC2 wl_ne [(nat_lit 0, zPne_copies_4, zOne_copies_4, zMne_copies_4), (nat_lit 1, zPne_copies_7, zOne_copies_7, zMne_copies_7), (nat_lit 2, zPne_copies_8, zOne_copies_8, zMne_copies_8), (nat_lit 3, zPne_copies_9, zOne_copies_9, zMne_copies_9), (nat_lit 4, zPne_copies_10, zOne_copies_10, zMne_copies_10), (nat_lit 5, zPne_copies_11, zOne_copies_11, zMne_copies_11), (nat_lit 6, zPne_copies_12, zOne_copies_12, zMne_copies_12), (nat_lit 7, zPne_copies_13, zOne_copies_13, zMne_copies_13), (nat_lit 8, zPne_copies_14, zOne_copies_14, zMne_copies_14), (nat_lit 9, zPne_copies_15, zOne_copies_15, zMne_copies_15), (nat_lit 10, zPne_copies_5, zOne_copies_5, zMne_copies_5), (nat_lit 11, zPne_copies_6, zOne_copies_6, zMne_copies_6), (nat_lit 12, zPne_copies_17, zOne_copies_17, zMne_copies_17), (nat_lit 13, zPne_copies_18, zOne_copies_18, zMne_copies_18), (nat_lit 14, zPne_copies_19, zOne_copies_19, zMne_copies_19), (nat_lit 15, zPne_copies_20, zOne_copies_20, zMne_copies_20), (nat_lit 16, zPne_copies_21, zOne_copies_21, zMne_copies_21), (nat_lit 17, zPne_begin, zOne_begin, zMne_begin)] pCne_keepText qCne_keepText) 1).2 [] η7 x8 η8 → ∀ (x9 : Int) (η9 : zE), ((gC2 wl_ne [(nat_lit 0, zPne_copies_4, zOne_copies_4, zMne_copies_4), (nat_lit 1, zPne_copies_7, zOne_copies_7, zMne_copies_7), (nat_lit 2, zPne_copies_8, zOne_copies_8, zMne_copies_8), (nat_lit 3, zPne_copies_9, zOne_copies_9, zMne_copies_9), (nat_lit 4, zPne_copies_10, zOne_copies_10, zMne_copies_10), (nat_lit 5, zPne_copies_11, zOne_copies_11, zMne_copies_11), (nat_lit 6, zPne_copies_12, zOne_copies_12, zMne_copies_12), (nat_lit 7, zPne_copies_13, zOne_copies_13, zMne_copies_13), (nat_lit 8, zPne_copies_14, zOne_copies_14, zMne_copies_14), (nat_lit 9, zPne_copies_15, zOne_copies_15, zMne_copies_15), (nat_lit 10, zPne_copies_5, zOne_copies_5, zMne_copies_5), (nat_lit 11, zPne_copies_6, zOne_copies_6, zMne_copies_6), (nat_lit 12, zPne_copies_17, zOne_copies_17, zMne_copies_17), (nat_lit 13, zPne_copies_18, zOne_copies_18, zMne_copies_18), (nat_lit 14, zPne_copies_19, zOne_copies_19, zMne_copies_19), (nat_lit 15, zPne_copies_20, zOne_copies_20, zMne_copies_20), (nat_lit 16, zPne_copies_21, zOne_copies_21, zMne_copies_21), (nat_lit 17, zPne_begin, zOne_begin, zMne_begin)] pCne_keepText qCne_keepText) 2).2 [] η8 x9 η9 → ∀ (x10 : Int) (η10 : zE), ((gC2 wl_ne [(nat_lit 0, zPne_copies_4, zOne_copies_4, zMne_copies_4), (nat_lit 1, zPne_copies_7, zOne_copies_7, zMne_copies_7), (nat_lit 2, zPne_copies_8, zOne_copies_8, zMne_copies_8), (nat_lit 3, zPne_copies_9, zOne_copies_9, zMne_copies_9), (nat_lit 4, zPne_copies_10, zOne_copies_10, zMne_copies_10), (nat_lit 5, zPne_copies_11, zOne_copies_11, zMne_copies_11), (nat_lit 6, zPne_copies_12, zOne_copies_12, zMne_copies_12), (nat_lit 7, zPne_copies_13, zOne_copies_13, zMne_copies_13), (nat_lit 8, zPne_copies_14, zOne_copies_14, zMne_copies_14), (nat_lit 9, zPne_copies_15, zOne_copies_15, zMne_copies_15), (nat_lit 10, zPne_copies_5, zOne_copies_5, zMne_copies_5), (nat_lit 11, zPne_copies_6, zOne_copies_6, zMne_copies_6), (nat_lit 12, zPne_copies_17, zOne_copies_17, zMne_copies_17), (nat_lit 13, zPne_copies_18, zOne_copies_18, zMne_copies_18), (nat_lit 14, zPne_copies_19, zOne_copies_19, zMne_copies_19), (nat_lit 15, zPne_copies_20, zOne_copies_20, zMne_copies_20), (nat_lit 16, zPne_copies_21, zOne_copies_21, zMne_copies_21), (nat_lit 17, zPne_begin, zOne_begin, zMne_begin)] pCne_keepText qCne_keepText) 3).2 [] η9 x10 η10 → ∀ (x11 : Int) (η11 : zE), ((gC2 wl_ne [(nat_lit 0, zPne_copies_4, zOne_copies_4, zMne_copies_4), (nat_lit 1, zPne_copies_7, zOne_copies_7, zMne_copies_7), (nat_lit 2, zPne_copies_8, zOne_copies_8, zMne_copies_8), (nat_lit 3, zPne_copies_9, zOne_copies_9, zMne_copies_9), (nat_lit 4, zPne_copies_10, zOne_copies_10, zMne_copies_10), (nat_lit 5, zPne_copies_11, zOne_copies_11, zMne_copies_11), (nat_lit 6, zPne_copies_12, zOne_copies_12, zMne_copies_12), (nat_lit 7, zPne_copies_13, zOne_copies_13, zMne_copies_13), (nat_lit 8, zPne_copies_14, zOne_copies_14, zMne_copies_14), (nat_lit 9, zPne_copies_15, zOne_copies_15, zMne_copies_15), (nat_lit 10, zPne_copies_5, zOne_copies_5, zMne_copies_5), (nat_lit 11, zPne_copies_6, zOne_copies_6, zMne_copies_6), (nat_lit 12, zPne_copies_17, zOne_copies_17, zMne_copies_17), (nat_lit 13, zPne_copies_18, zOne_copies_18, zMne_copies_18), (nat_lit 14, zPne_copies_19, zOne_copies_19, zMne_copies_19), (nat_lit 15, zPne_copies_20, zOne_copies_20, zMne_copies_20), (nat_lit 16, zPne_copies_21, zOne_copies_21, zMne_copies_21), (nat_lit 17, zPne_begin, zOne_begin, zMne_begin)] pCne_keepText qCne_keepText) 4).2 [] η10 x11 η11 → ∀ (x12 : Int) (η12 : zE), ((gC2 wl_ne [(nat_lit 0, zPne_copies_4, zOne_copies_4, zMne_copies_4), (nat_lit 1, zPne_copies_7, zOne_copies_7, zMne_copies_7), (nat_lit 2, zPne_copies_8, zOne_copies_8, zMne_copies_8), (nat_lit 3, zPne_copies_9, zOne_copies_9, zMne_copies_9), (nat_lit 4, zPne_copies_10, zOne_copies_10, zMne_copies_10), (nat_lit 5, zPne_copies_11, zOne_copies_11, zMne_copies_11), (nat_lit 6, zPne_copies_12, zOne_copies_12, zMne_copies_12), (nat_lit 7, zPne_copies_13, zOne_copies_13, zMne_copies_13), (nat_lit 8, zPne_copies_14, zOne_copies_14, zMne_copies_14), (nat_lit 9, zPne_copies_15, zOne_copies_15, zMne_copies_15), (nat_lit 10, zPne_copies_5, zOne_copies_5, zMne_copies_5), (nat_lit 11, zPne_copies_6, zOne_copies_6, zMne_copies_6), (nat_lit 12, zPne_copies_17, zOne_copies_17, zMne_copies_17), (nat_lit 13, zPne_copies_18, zOne_copies_18, zMne_copies_18), (nat_lit 14, zPne_copies_19, zOne_copies_19, zMne_copies_19), (nat_lit 15, zPne_copies_20, zOne_copies_20, zMne_copies_20), (nat_lit 16, zPne_copies_21, zOne_copies_21, zMne_copies_21), (nat_lit 17, zPne_begin, zOne_begin, zMne_begin)] pCne_keepText qCne_keepText) 5).2 [] η11 x12 η12 → ∀ (x13 : Int) (η13 : zE), ((gC2 wl_ne [(nat_lit 0, zPne_copies_4, zOne_copies_4, zMne_copies_4), (nat_lit 1, zPne_copies_7, zOne_copies_7, zMne_copies_7), (nat_lit 2, zPne_copies_8, zOne_copies_8, zMne_copies_8), (nat_lit 3, zPne_copies_9, zOne_copies_9, zMne_copies_9), (nat_lit 4, zPne_copies_10, zOne_copies_10, zMne_copies_10), (nat_lit 5, zPne_copies_11, zOne_copies_11, zMne_copies_11), (nat_lit 6, zPne_copies_12, zOne_copies_12, zMne_copies_12), (nat_lit 7, zPne_copies_13, zOne_copies_13, zMne_copies_13), (nat_lit 8, zPne_copies_14, zOne_copies_14, zMne_copies_14), (nat_lit 9, zPne_copies_15, zOne_copies_15, zMne_copies_15), (nat_lit 10, zPne_copies_5, zOne_copies_5, zMne_copies_5), (nat_lit 11, zPne_copies_6, zOne_copies_6, zMne_copies_6), (nat_lit 12, zPne_copies_17, zOne_copies_17, zMne_copies_17), (nat_lit 13, zPne_copies_18, zOne_copies_18, zMne_copies_18), (nat_lit 14, zPne_copies_19, zOne_copies_19, zMne_copies_19), (nat_lit 15, zPne_copies_20, zOne_copies_20, zMne_copies_20), (nat_lit 16, zPne_copies_21, zOne_copies_21, zMne_copies_21), (nat_lit 17, zPne_begin, zOne_begin, zMne_begin)] pCne_keepText qCne_keepText) 6).2 [] η12 x13 η13 → ∀ (x14 : Int) (η14 : zE), ((gC2 wl_ne [(nat_lit 0, zPne_copies_4, zOne_copies_4, zMne_copies_4), (nat_lit 1, zPne_copies_7, zOne_copies_7, zMne_copies_7), (nat_lit 2, zPne_copies_8, zOne_copies_8, zMne_copies_8), (nat_lit 3, zPne_copies_9, zOne_copies_9, zMne_copies_9), (nat_lit 4, zPne_copies_10, zOne_copies_10, zMne_copies_10), (nat_lit 5, zPne_copies_11, zOne_copies_11, zMne_copies_11), (nat_lit 6, zPne_copies_12, zOne_copies_12, zMne_copies_12), (nat_lit 7, zPne_copies_13, zOne_copies_13, zMne_copies_13), (nat_lit 8, zPne_copies_14, zOne_copies_14, zMne_copies_14), (nat_lit 9, zPne_copies_15, zOne_copies_15, zMne_copies_15), (nat_lit 10, zPne_copies_5, zOne_copies_5, zMne_copies_5), (nat_lit 11, zPne_copies_6, zOne_copies_6, zMne_copies_6), (nat_lit 12, zPne_copies_17, zOne_copies_17, zMne_copies_17), (nat_lit 13, zPne_copies_18, zOne_copies_18, zMne_copies_18), (nat_lit 14, zPne_copies_19, zOne_copies_19, zMne_copies_19), (nat_lit 15, zPne_copies_20, zOne_copies_20, zMne_copies_20), (nat_lit 16, zPne_copies_21, zOne_copies_21, zMne_copies_21), (nat_lit 17, zPne_begin, zOne_begin, zMne_begin)] pCne_keepText qCne_keepText) 7).2 [] η13 x14 η14 → ∀ (x15 : Int) (η15 : zE), ((gC2 wl_ne [(nat_lit 0, zPne_copies_4, zOne_copies_4, zMne_copies_4), (nat_lit 1, zPne_copies_7, zOne_copies_7, zMne_copies_7), (nat_lit 2, zPne_copies_8, zOne_copies_8, zMne_copies_8), (nat_lit 3, zPne_copies_9, zOne_copies_9, zMne_copies_9), (nat_lit 4, zPne_copies_10, zOne_copies_10, zMne_copies_10), (nat_lit 5, zPne_copies_11, zOne_copies_11, zMne_copies_11), (nat_lit 6, zPne_copies_12, zOne_copies_12, zMne_copies_12), (nat_lit 7, zPne_copies_13, zOne_copies_13, zMne_copies_13), (nat_lit 8, zPne_copies_14, zOne_copies_14, zMne_copies_14), (nat_lit 9, zPne_copies_15, zOne_copies_15, zMne_copies_15), (nat_lit 10, zPne_copies_5, zOne_copies_5, zMne_copies_5), (nat_lit 11, zPne_copies_6, zOne_copies_6, zMne_copies_6), (nat_lit 12, zPne_copies_17, zOne_copies_17, zMne_copies_17), (nat_lit 13, zPne_copies_18, zOne_copies_18, zMne_copies_18), (nat_lit 14, zPne_copies_19, zOne_copies_19, zMne_copies_19), (nat_lit 15, zPne_copies_20, zOne_copies_20, zMne_copies_20), (nat_lit 16, zPne_copies_21, zOne_copies_21, zMne_copies_21), (nat_lit 17, zPne_begin, zOne_begin, zMne_begin)] pCne_keepText qCne_keepText) 8).2 [] η14 x15 η15 → ∀ (x16 : Int) (η16 : zE), ((gC2 wl_ne [(nat_lit 0, zPne_copies_4, zOne_copies_4, zMne_copies_4), (nat_lit 1, zPne_copies_7, zOne_copies_7, zMne_copies_7), (nat_lit 2, zPne_copies_8, zOne_copies_8, zMne_copies_8), (nat_lit 3, zPne_copies_9, zOne_copies_9, zMne_copies_9), (nat_lit 4, zPne_copies_10, zOne_copies_10, zMne_copies_10), (nat_lit 5, zPne_copies_11, zOne_copies_11, zMne_copies_11), (nat_lit 6, zPne_copies_12, zOne_copies_12, zMne_copies_12), (nat_lit 7, zPne_copies_13, zOne_copies_13, zMne_copies_13), (nat_lit 8, zPne_copies_14, zOne_copies_14, zMne_copies_14), (nat_lit 9, zPne_copies_15, zOne_copies_15, zMne_copies_15), (nat_lit 10, zPne_copies_5, zOne_copies_5, zMne_copies_5), (nat_lit 11, zPne_copies_6, zOne_copies_6, zMne_copies_6), (nat_lit 12, zPne_copies_17, zOne_copies_17, zMne_copies_17), (nat_lit 13, zPne_copies_18, zOne_copies_18, zMne_copies_18), (nat_lit 14, zPne_copies_19, zOne_copies_19, zMne_copies_19), (nat_lit 15, zPne_copies_20, zOne_copies_20, zMne_copies_20), (nat_lit 16, zPne_copies_21, zOne_copies_21, zMne_copies_21), (nat_lit 17, zPne_begin, zOne_begin, zMne_begin)] pCne_keepText qCne_keepText) 9).2 [] η15 x16 η16 → ((0 : Int) < (3 : Int)) → ∀ x17 : Int, x17 = zd 0 1 3 0 → ∀ x18 : Int, x18 = η16 16 (Int.toNat x17) → zok 1 x18 → ∀ η17 : zE, η17 = zup η16 16 (Int.toNat 0) x18 → ∀ x19 : Int, x19 = zd 0 1 0 1 → (x19 < 3) → ∀ x20 : Int, x20 = zd 0 1 3 x19 → ∀ x21 : Int, x21 = η17 16 (Int.toNat x20) → zok 1 x21 → ∀ η18 : zE, η18 = zup η17 16 (Int.toNat x19) x21 → ∀ x22 : Int, x22 = zd 0 1 x19 1 → (x22 < 3) → ∀ x23 : Int, x23 = zd 0 1 3 x22 → ∀ x24 : Int, x24 = η18 16 (Int.toNat x23) → zok 1 x24 → ∀ η19 : zE, η19 = zup η18 16 (Int.toNat x22) x24 → ∀ x25 : Int, x25 = zd 0 1 x22 1 → (3 ≤ x25) → ∀ (x26 : Int) (η20 : zE), ((gC2 wl_ne [(nat_lit 0, zPne_copies_4, zOne_copies_4, zMne_copies_4), (nat_lit 1, zPne_copies_7, zOne_copies_7, zMne_copies_7), (nat_lit 2, zPne_copies_8, zOne_copies_8, zMne_copies_8), (nat_lit 3, zPne_copies_9, zOne_copies_9, zMne_copies_9), (nat_lit 4, zPne_copies_10, zOne_copies_10, zMne_copies_10), (nat_lit 5, zPne_copies_11, zOne_copies_11, zMne_copies_11), (nat_lit 6, zPne_copies_12, zOne_copies_12, zMne_copies_12), (nat_lit 7, zPne_copies_13, zOne_copies_13, zMne_copies_13), (nat_lit 8, zPne_copies_14, zOne_copies_14, zMne_copies_14), (nat_lit 9, zPne_copies_15, zOne_copies_15, zMne_copies_15), (nat_lit 10, zPne_copies_5, zOne_copies_5, zMne_copies_5), (nat_lit 11, zPne_copies_6, zOne_copies_6, zMne_copies_6), (nat_lit 12, zPne_copies_17, zOne_copies_17, zMne_copies_17), (nat_lit 13, zPne_copies_18, zOne_copies_18, zMne_copies_18), (nat_lit 14, zPne_copies_19, zOne_copies_19, zMne_copies_19), (nat_lit 15, zPne_copies_20, zOne_copies_20, zMne_copies_20), (nat_lit 16, zPne_copies_21, zOne_copies_21, zMne_copies_21), (nat_lit 17, zPne_begin, zOne_begin, zMne_begin)] pCne_keepText qCne_keepText) 12).2 [] η19 x26 η20 → ∀ (x27 : Int) (η21 : zE), ((gC2 wl_ne [(nat_lit 0, zPne_copies_4, zOne_copies_4, zMne_copies_4), (nat_lit 1, zPne_copies_7, zOne_copies_7, zMne_copies_7), (nat_lit 2, zPne_copies_8, zOne_copies_8, zMne_copies_8), (nat_lit 3, zPne_copies_9, zOne_copies_9, zMne_copies_9), (nat_lit 4, zPne_copies_10, zOne_copies_10, zMne_copies_10), (nat_lit 5, zPne_copies_11, zOne_copies_11, zMne_copies_11), (nat_lit 6, zPne_copies_12, zOne_copies_12, zMne_copies_12), (nat_lit 7, zPne_copies_13, zOne_copies_13, zMne_copies_13), (nat_lit 8, zPne_copies_14, zOne_copies_14, zMne_copies_14), (nat_lit 9, zPne_copies_15, zOne_copies_15, zMne_copies_15), (nat_lit 10, zPne_copies_5, zOne_copies_5, zMne_copies_5), (nat_lit 11, zPne_copies_6, zOne_copies_6, zMne_copies_6), (nat_lit 12, zPne_copies_17, zOne_copies_17, zMne_copies_17), (nat_lit 13, zPne_copies_18, zOne_copies_18, zMne_copies_18), (nat_lit 14, zPne_copies_19, zOne_copies_19, zMne_copies_19), (nat_lit 15, zPne_copies_20, zOne_copies_20, zMne_copies_20), (nat_lit 16, zPne_copies_21, zOne_copies_21, zMne_copies_21), (nat_lit 17, zPne_begin, zOne_begin, zMne_begin)] pCne_keepText qCne_keepText) 13).2 [] η20 x27 η21 → ∀ (x28 : Int) (η22 : zE), ((gC2 wl_ne [(nat_lit 0, zPne_copies_4, zOne_copies_4, zMne_copies_4), (nat_lit 1, zPne_copies_7, zOne_copies_7, zMne_copies_7), (nat_lit 2, zPne_copies_8, zOne_copies_8, zMne_copies_8), (nat_lit 3, zPne_copies_9, zOne_copies_9, zMne_copies_9), (nat_lit 4, zPne_copies_10, zOne_copies_10, zMne_copies_10), (nat_lit 5, zPne_copies_11, zOne_copies_11, zMne_copies_11), (nat_lit 6, zPne_copies_12, zOne_copies_12, zMne_copies_12), (nat_lit 7, zPne_copies_13, zOne_copies_13, zMne_copies_13), (nat_lit 8, zPne_copies_14, zOne_copies_14, zMne_copies_14), (nat_lit 9, zPne_copies_15, zOne_copies_15, zMne_copies_15), (nat_lit 10, zPne_copies_5, zOne_copies_5, zMne_copies_5), (nat_lit 11, zPne_copies_6, zOne_copies_6, zMne_copies_6), (nat_lit 12, zPne_copies_17, zOne_copies_17, zMne_copies_17), (nat_lit 13, zPne_copies_18, zOne_copies_18, zMne_copies_18), (nat_lit 14, zPne_copies_19, zOne_copies_19, zMne_copies_19), (nat_lit 15, zPne_copies_20, zOne_copies_20, zMne_copies_20), (nat_lit 16, zPne_copies_21, zOne_copies_21, zMne_copies_21), (nat_lit 17, zPne_begin, zOne_begin, zMne_begin)] pCne_keepText qCne_keepText) 14).2 [] η21 x28 η22 → ∀ (x29 : Int) (η23 : zE), ((gC2 wl_ne [(nat_lit 0, zPne_copies_4, zOne_copies_4, zMne_copies_4), (nat_lit 1, zPne_copies_7, zOne_copies_7, zMne_copies_7), (nat_lit 2, zPne_copies_8, zOne_copies_8, zMne_copies_8), (nat_lit 3, zPne_copies_9, zOne_copies_9, zMne_copies_9), (nat_lit 4, zPne_copies_10, zOne_copies_10, zMne_copies_10), (nat_lit 5, zPne_copies_11, zOne_copies_11, zMne_copies_11), (nat_lit 6, zPne_copies_12, zOne_copies_12, zMne_copies_12), (nat_lit 7, zPne_copies_13, zOne_copies_13, zMne_copies_13), (nat_lit 8, zPne_copies_14, zOne_copies_14, zMne_copies_14), (nat_lit 9, zPne_copies_15, zOne_copies_15, zMne_copies_15), (nat_lit 10, zPne_copies_5, zOne_copies_5, zMne_copies_5), (nat_lit 11, zPne_copies_6, zOne_copies_6, zMne_copies_6), (nat_lit 12, zPne_copies_17, zOne_copies_17, zMne_copies_17), (nat_lit 13, zPne_copies_18, zOne_copies_18, zMne_copies_18), (nat_lit 14, zPne_copies_19, zOne_copies_19, zMne_copies_19), (nat_lit 15, zPne_copies_20, zOne_copies_20, zMne_copies_20), (nat_lit 16, zPne_copies_21, zOne_copies_21, zMne_copies_21), (nat_lit 17, zPne_begin, zOne_begin, zMne_begin)] pCne_keepText qCne_keepText) 15).2 [] η22 x29 η23 → ∀ (x30 : Int) (η24 : zE), ((gC2 wl_ne [(nat_lit 0, zPne_copies_4, zOne_copies_4, zMne_copies_4), (nat_lit 1, zPne_copies_7, zOne_copies_7, zMne_copies_7), (nat_lit 2, zPne_copies_8, zOne_copies_8, zMne_copies_8), (nat_lit 3, zPne_copies_9, zOne_copies_9, zMne_copies_9), (nat_lit 4, zPne_copies_10, zOne_copies_10, zMne_copies_10), (nat_lit 5, zPne_copies_11, zOne_copies_11, zMne_copies_11), (nat_lit 6, zPne_copies_12, zOne_copies_12, zMne_copies_12), (nat_lit 7, zPne_copies_13, zOne_copies_13, zMne_copies_13), (nat_lit 8, zPne_copies_14, zOne_copies_14, zMne_copies_14), (nat_lit 9, zPne_copies_15, zOne_copies_15, zMne_copies_15), (nat_lit 10, zPne_copies_5, zOne_copies_5, zMne_copies_5), (nat_lit 11, zPne_copies_6, zOne_copies_6, zMne_copies_6), (nat_lit 12, zPne_copies_17, zOne_copies_17, zMne_copies_17), (nat_lit 13, zPne_copies_18, zOne_copies_18, zMne_copies_18), (nat_lit 14, zPne_copies_19, zOne_copies_19, zMne_copies_19), (nat_lit 15, zPne_copies_20, zOne_copies_20, zMne_copies_20), (nat_lit 16, zPne_copies_21, zOne_copies_21, zMne_copies_21), (nat_lit 17, zPne_begin, zOne_begin, zMne_begin)] pCne_keepText qCne_keepText) 16).2 [] η23 x30 η24 → ((gC2 wl_ne [(nat_lit 0, zPne_copies_4, zOne_copies_4, zMne_copies_4), (nat_lit 1, zPne_copies_7, zOne_copies_7, zMne_copies_7), (nat_lit 2, zPne_copies_8, zOne_copies_8, zMne_copies_8), (nat_lit 3, zPne_copies_9, zOne_copies_9, zMne_copies_9), (nat_lit 4, zPne_copies_10, zOne_copies_10, zMne_copies_10), (nat_lit 5, zPne_copies_11, zOne_copies_11, zMne_copies_11), (nat_lit 6, zPne_copies_12, zOne_copies_12, zMne_copies_12), (nat_lit 7, zPne_copies_13, zOne_copies_13, zMne_copies_13), (nat_lit 8, zPne_copies_14, zOne_copies_14, zMne_copies_14), (nat_lit 9, zPne_copies_15, zOne_copies_15, zMne_copies_15), (nat_lit 10, zPne_copies_5, zOne_copies_5, zMne_copies_5), (nat_lit 11, zPne_copies_6, zOne_copies_6, zMne_copies_6), (nat_lit 12, zPne_copies_17, zOne_copies_17, zMne_copies_17), (nat_lit 13, zPne_copies_18, zOne_copies_18, zMne_copies_18), (nat_lit 14, zPne_copies_19, zOne_copies_19, zMne_copies_19), (nat_lit 15, zPne_copies_20, zOne_copies_20, zMne_copies_20), (nat_lit 16, zPne_copies_21, zOne_copies_21, zMne_copies_21), (nat_lit 17, zPne_begin, zOne_begin, zMne_begin)] pCne_keepText qCne_keepText) 17).1 [] η24 := by
  intro x1 e1 r1 η1 eη1 x2 e2 r2 η2 eη2 x3 e3 r3 η3 eη3 x4 e4 r4 η4 eη4 x5 η5 h5 x6 η6 h6 x7 η7 h7 x8 η8 h8 x9 η9 h9 x10 η10 h10 x11 η11 h11 x12 η12 h12 x13 η13 h13 x14 η14 h14 x15 η15 h15 x16 η16 h16 c1 x17 e17 x18 e18 r18 η17 eη17 x19 e19 c2 x20 e20 x21 e21 r21 η18 eη18 x22 e22 c3 x23 e23 x24 e24 r24 η19 eη19 x25 e25 c4 x26 η20 h26 x27 η21 h27 x28 η22 h28 x29 η23 h29 x30 η24 h30
  have k5 : sQ wl_ne zTr zOne_copies_4 zMne_copies_4 [] η4 x5 η5 ∧ pQne_copies_4 [] η4 x5 η5 := h5
  have k6 : sQ wl_ne zTr zOne_copies_5 zMne_copies_5 [] η5 x6 η6 ∧ pQne_copies_5 [] η5 x6 η6 := h6
  have k7 : sQ wl_ne zTr zOne_copies_6 zMne_copies_6 [] η6 x7 η7 ∧ pQne_copies_6 [] η6 x7 η7 := h7
  have k8 : sQ wl_ne zTr zOne_copies_7 zMne_copies_7 [] η7 x8 η8 ∧ pQne_copies_7 [] η7 x8 η8 := h8
  have k9 : sQ wl_ne zTr zOne_copies_8 zMne_copies_8 [] η8 x9 η9 ∧ pQne_copies_8 [] η8 x9 η9 := h9
  have k10 : sQ wl_ne zTr zOne_copies_9 zMne_copies_9 [] η9 x10 η10 ∧ pQne_copies_9 [] η9 x10 η10 := h10
  have k11 : sQ wl_ne zTr zOne_copies_10 zMne_copies_10 [] η10 x11 η11 ∧ pQne_copies_10 [] η10 x11 η11 := h11
  have k12 : sQ wl_ne zTr zOne_copies_11 zMne_copies_11 [] η11 x12 η12 ∧ pQne_copies_11 [] η11 x12 η12 := h12
  have k13 : sQ wl_ne zTr zOne_copies_12 zMne_copies_12 [] η12 x13 η13 ∧ pQne_copies_12 [] η12 x13 η13 := h13
  have k14 : sQ wl_ne zTr zOne_copies_13 zMne_copies_13 [] η13 x14 η14 ∧ pQne_copies_13 [] η13 x14 η14 := h14
  have k15 : sQ wl_ne zTr zOne_copies_14 zMne_copies_14 [] η14 x15 η15 ∧ pQne_copies_14 [] η14 x15 η15 := h15
  have k16 : sQ wl_ne zTr zOne_copies_15 zMne_copies_15 [] η15 x16 η16 ∧ pQne_copies_15 [] η15 x16 η16 := h16
  have k26 : sQ wl_ne zTr zOne_copies_17 zMne_copies_17 [] η19 x26 η20 ∧ pQne_copies_17 [] η19 x26 η20 := h26
  have k27 : sQ wl_ne zTr zOne_copies_18 zMne_copies_18 [] η20 x27 η21 ∧ pQne_copies_18 [] η20 x27 η21 := h27
  have k28 : sQ wl_ne zTr zOne_copies_19 zMne_copies_19 [] η21 x28 η22 ∧ pQne_copies_19 [] η21 x28 η22 := h28
  have k29 : sQ wl_ne zTr zOne_copies_20 zMne_copies_20 [] η22 x29 η23 ∧ pQne_copies_20 [] η22 x29 η23 := h29
  have k30 : sQ wl_ne zTr zOne_copies_21 zMne_copies_21 [] η23 x30 η24 ∧ pQne_copies_21 [] η23 x30 η24 := h30
  exact trivial
set_option maxHeartbeats 8000000 in
theorem zne_keepText_o16 {ro : Nat → List Int32} (η : zE) (hp : sP wl_ne zTr zPne_keepText [] η) (hpp : pPne_keepText [] η) : ∀ x1 : Int, x1 = η 0 (Int.toNat 16) → zok 0 x1 → ∀ η1 : zE, η1 = zup η 0 (Int.toNat 12) x1 → ∀ x2 : Int, x2 = η1 0 (Int.toNat 17) → zok 0 x2 → ∀ η2 : zE, η2 = zup η1 0 (Int.toNat 13) x2 → ∀ x3 : Int, x3 = η2 0 (Int.toNat 18) → zok 0 x3 → ∀ η3 : zE, η3 = zup η2 0 (Int.toNat 14) x3 → ∀ x4 : Int, x4 = η3 0 (Int.toNat 19) → zok 0 x4 → ∀ η4 : zE, η4 = zup η3 0 (Int.toNat 15) x4 → ∀ (x5 : Int) (η5 : zE), ((gC2 wl_ne [(nat_lit 0, zPne_copies_4, zOne_copies_4, zMne_copies_4), (nat_lit 1, zPne_copies_7, zOne_copies_7, zMne_copies_7), (nat_lit 2, zPne_copies_8, zOne_copies_8, zMne_copies_8), (nat_lit 3, zPne_copies_9, zOne_copies_9, zMne_copies_9), (nat_lit 4, zPne_copies_10, zOne_copies_10, zMne_copies_10), (nat_lit 5, zPne_copies_11, zOne_copies_11, zMne_copies_11), (nat_lit 6, zPne_copies_12, zOne_copies_12, zMne_copies_12), (nat_lit 7, zPne_copies_13, zOne_copies_13, zMne_copies_13), (nat_lit 8, zPne_copies_14, zOne_copies_14, zMne_copies_14), (nat_lit 9, zPne_copies_15, zOne_copies_15, zMne_copies_15), (nat_lit 10, zPne_copies_5, zOne_copies_5, zMne_copies_5), (nat_lit 11, zPne_copies_6, zOne_copies_6, zMne_copies_6), (nat_lit 12, zPne_copies_17, zOne_copies_17, zMne_copies_17), (nat_lit 13, zPne_copies_18, zOne_copies_18, zMne_copies_18), (nat_lit 14, zPne_copies_19, zOne_copies_19, zMne_copies_19), (nat_lit 15, zPne_copies_20, zOne_copies_20, zMne_copies_20), (nat_lit 16, zPne_copies_21, zOne_copies_21, zMne_copies_21), (nat_lit 17, zPne_begin, zOne_begin, zMne_begin)] pCne_keepText qCne_keepText) 0).2 [] η4 x5 η5 → ∀ (x6 : Int) (η6 : zE), ((gC2 wl_ne [(nat_lit 0, zPne_copies_4, zOne_copies_4, zMne_copies_4), (nat_lit 1, zPne_copies_7, zOne_copies_7, zMne_copies_7), (nat_lit 2, zPne_copies_8, zOne_copies_8, zMne_copies_8), (nat_lit 3, zPne_copies_9, zOne_copies_9, zMne_copies_9), (nat_lit 4, zPne_copies_10, zOne_copies_10, zMne_copies_10), (nat_lit 5, zPne_copies_11, zOne_copies_11, zMne_copies_11), (nat_lit 6, zPne_copies_12, zOne_copies_12, zMne_copies_12), (nat_lit 7, zPne_copies_13, zOne_copies_13, zMne_copies_13), (nat_lit 8, zPne_copies_14, zOne_copies_14, zMne_copies_14), (nat_lit 9, zPne_copies_15, zOne_copies_15, zMne_copies_15), (nat_lit 10, zPne_copies_5, zOne_copies_5, zMne_copies_5), (nat_lit 11, zPne_copies_6, zOne_copies_6, zMne_copies_6), (nat_lit 12, zPne_copies_17, zOne_copies_17, zMne_copies_17), (nat_lit 13, zPne_copies_18, zOne_copies_18, zMne_copies_18), (nat_lit 14, zPne_copies_19, zOne_copies_19, zMne_copies_19), (nat_lit 15, zPne_copies_20, zOne_copies_20, zMne_copies_20), (nat_lit 16, zPne_copies_21, zOne_copies_21, zMne_copies_21), (nat_lit 17, zPne_begin, zOne_begin, zMne_begin)] pCne_keepText qCne_keepText) 10).2 [] η5 x6 η6 → ∀ (x7 : Int) (η7 : zE), ((gC2 wl_ne [(nat_lit 0, zPne_copies_4, zOne_copies_4, zMne_copies_4), (nat_lit 1, zPne_copies_7, zOne_copies_7, zMne_copies_7), (nat_lit 2, zPne_copies_8, zOne_copies_8, zMne_copies_8), (nat_lit 3, zPne_copies_9, zOne_copies_9, zMne_copies_9), (nat_lit 4, zPne_copies_10, zOne_copies_10, zMne_copies_10), (nat_lit 5, zPne_copies_11, zOne_copies_11, zMne_copies_11), (nat_lit 6, zPne_copies_12, zOne_copies_12, zMne_copies_12), (nat_lit 7, zPne_copies_13, zOne_copies_13, zMne_copies_13), (nat_lit 8, zPne_copies_14, zOne_copies_14, zMne_copies_14), (nat_lit 9, zPne_copies_15, zOne_copies_15, zMne_copies_15), (nat_lit 10, zPne_copies_5, zOne_copies_5, zMne_copies_5), (nat_lit 11, zPne_copies_6, zOne_copies_6, zMne_copies_6), (nat_lit 12, zPne_copies_17, zOne_copies_17, zMne_copies_17), (nat_lit 13, zPne_copies_18, zOne_copies_18, zMne_copies_18), (nat_lit 14, zPne_copies_19, zOne_copies_19, zMne_copies_19), (nat_lit 15, zPne_copies_20, zOne_copies_20, zMne_copies_20), (nat_lit 16, zPne_copies_21, zOne_copies_21, zMne_copies_21), (nat_lit 17, zPne_begin, zOne_begin, zMne_begin)] pCne_keepText qCne_keepText) 11).2 [] η6 x7 η7 → ∀ (x8 : Int) (η8 : zE), ((gC2 wl_ne [(nat_lit 0, zPne_copies_4, zOne_copies_4, zMne_copies_4), (nat_lit 1, zPne_copies_7, zOne_copies_7, zMne_copies_7), (nat_lit 2, zPne_copies_8, zOne_copies_8, zMne_copies_8), (nat_lit 3, zPne_copies_9, zOne_copies_9, zMne_copies_9), (nat_lit 4, zPne_copies_10, zOne_copies_10, zMne_copies_10), (nat_lit 5, zPne_copies_11, zOne_copies_11, zMne_copies_11), (nat_lit 6, zPne_copies_12, zOne_copies_12, zMne_copies_12), (nat_lit 7, zPne_copies_13, zOne_copies_13, zMne_copies_13), (nat_lit 8, zPne_copies_14, zOne_copies_14, zMne_copies_14), (nat_lit 9, zPne_copies_15, zOne_copies_15, zMne_copies_15), (nat_lit 10, zPne_copies_5, zOne_copies_5, zMne_copies_5), (nat_lit 11, zPne_copies_6, zOne_copies_6, zMne_copies_6), (nat_lit 12, zPne_copies_17, zOne_copies_17, zMne_copies_17), (nat_lit 13, zPne_copies_18, zOne_copies_18, zMne_copies_18), (nat_lit 14, zPne_copies_19, zOne_copies_19, zMne_copies_19), (nat_lit 15, zPne_copies_20, zOne_copies_20, zMne_copies_20), (nat_lit 16, zPne_copies_21, zOne_copies_21, zMne_copies_21), (nat_lit 17, zPne_begin, zOne_begin, zMne_begin)] pCne_keepText qCne_keepText) 1).2 [] η7 x8 η8 → ∀ (x9 : Int) (η9 : zE), ((gC2 wl_ne [(nat_lit 0, zPne_copies_4, zOne_copies_4, zMne_copies_4), (nat_lit 1, zPne_copies_7, zOne_copies_7, zMne_copies_7), (nat_lit 2, zPne_copies_8, zOne_copies_8, zMne_copies_8), (nat_lit 3, zPne_copies_9, zOne_copies_9, zMne_copies_9), (nat_lit 4, zPne_copies_10, zOne_copies_10, zMne_copies_10), (nat_lit 5, zPne_copies_11, zOne_copies_11, zMne_copies_11), (nat_lit 6, zPne_copies_12, zOne_copies_12, zMne_copies_12), (nat_lit 7, zPne_copies_13, zOne_copies_13, zMne_copies_13), (nat_lit 8, zPne_copies_14, zOne_copies_14, zMne_copies_14), (nat_lit 9, zPne_copies_15, zOne_copies_15, zMne_copies_15), (nat_lit 10, zPne_copies_5, zOne_copies_5, zMne_copies_5), (nat_lit 11, zPne_copies_6, zOne_copies_6, zMne_copies_6), (nat_lit 12, zPne_copies_17, zOne_copies_17, zMne_copies_17), (nat_lit 13, zPne_copies_18, zOne_copies_18, zMne_copies_18), (nat_lit 14, zPne_copies_19, zOne_copies_19, zMne_copies_19), (nat_lit 15, zPne_copies_20, zOne_copies_20, zMne_copies_20), (nat_lit 16, zPne_copies_21, zOne_copies_21, zMne_copies_21), (nat_lit 17, zPne_begin, zOne_begin, zMne_begin)] pCne_keepText qCne_keepText) 2).2 [] η8 x9 η9 → ∀ (x10 : Int) (η10 : zE), ((gC2 wl_ne [(nat_lit 0, zPne_copies_4, zOne_copies_4, zMne_copies_4), (nat_lit 1, zPne_copies_7, zOne_copies_7, zMne_copies_7), (nat_lit 2, zPne_copies_8, zOne_copies_8, zMne_copies_8), (nat_lit 3, zPne_copies_9, zOne_copies_9, zMne_copies_9), (nat_lit 4, zPne_copies_10, zOne_copies_10, zMne_copies_10), (nat_lit 5, zPne_copies_11, zOne_copies_11, zMne_copies_11), (nat_lit 6, zPne_copies_12, zOne_copies_12, zMne_copies_12), (nat_lit 7, zPne_copies_13, zOne_copies_13, zMne_copies_13), (nat_lit 8, zPne_copies_14, zOne_copies_14, zMne_copies_14), (nat_lit 9, zPne_copies_15, zOne_copies_15, zMne_copies_15), (nat_lit 10, zPne_copies_5, zOne_copies_5, zMne_copies_5), (nat_lit 11, zPne_copies_6, zOne_copies_6, zMne_copies_6), (nat_lit 12, zPne_copies_17, zOne_copies_17, zMne_copies_17), (nat_lit 13, zPne_copies_18, zOne_copies_18, zMne_copies_18), (nat_lit 14, zPne_copies_19, zOne_copies_19, zMne_copies_19), (nat_lit 15, zPne_copies_20, zOne_copies_20, zMne_copies_20), (nat_lit 16, zPne_copies_21, zOne_copies_21, zMne_copies_21), (nat_lit 17, zPne_begin, zOne_begin, zMne_begin)] pCne_keepText qCne_keepText) 3).2 [] η9 x10 η10 → ∀ (x11 : Int) (η11 : zE), ((gC2 wl_ne [(nat_lit 0, zPne_copies_4, zOne_copies_4, zMne_copies_4), (nat_lit 1, zPne_copies_7, zOne_copies_7, zMne_copies_7), (nat_lit 2, zPne_copies_8, zOne_copies_8, zMne_copies_8), (nat_lit 3, zPne_copies_9, zOne_copies_9, zMne_copies_9), (nat_lit 4, zPne_copies_10, zOne_copies_10, zMne_copies_10), (nat_lit 5, zPne_copies_11, zOne_copies_11, zMne_copies_11), (nat_lit 6, zPne_copies_12, zOne_copies_12, zMne_copies_12), (nat_lit 7, zPne_copies_13, zOne_copies_13, zMne_copies_13), (nat_lit 8, zPne_copies_14, zOne_copies_14, zMne_copies_14), (nat_lit 9, zPne_copies_15, zOne_copies_15, zMne_copies_15), (nat_lit 10, zPne_copies_5, zOne_copies_5, zMne_copies_5), (nat_lit 11, zPne_copies_6, zOne_copies_6, zMne_copies_6), (nat_lit 12, zPne_copies_17, zOne_copies_17, zMne_copies_17), (nat_lit 13, zPne_copies_18, zOne_copies_18, zMne_copies_18), (nat_lit 14, zPne_copies_19, zOne_copies_19, zMne_copies_19), (nat_lit 15, zPne_copies_20, zOne_copies_20, zMne_copies_20), (nat_lit 16, zPne_copies_21, zOne_copies_21, zMne_copies_21), (nat_lit 17, zPne_begin, zOne_begin, zMne_begin)] pCne_keepText qCne_keepText) 4).2 [] η10 x11 η11 → ∀ (x12 : Int) (η12 : zE), ((gC2 wl_ne [(nat_lit 0, zPne_copies_4, zOne_copies_4, zMne_copies_4), (nat_lit 1, zPne_copies_7, zOne_copies_7, zMne_copies_7), (nat_lit 2, zPne_copies_8, zOne_copies_8, zMne_copies_8), (nat_lit 3, zPne_copies_9, zOne_copies_9, zMne_copies_9), (nat_lit 4, zPne_copies_10, zOne_copies_10, zMne_copies_10), (nat_lit 5, zPne_copies_11, zOne_copies_11, zMne_copies_11), (nat_lit 6, zPne_copies_12, zOne_copies_12, zMne_copies_12), (nat_lit 7, zPne_copies_13, zOne_copies_13, zMne_copies_13), (nat_lit 8, zPne_copies_14, zOne_copies_14, zMne_copies_14), (nat_lit 9, zPne_copies_15, zOne_copies_15, zMne_copies_15), (nat_lit 10, zPne_copies_5, zOne_copies_5, zMne_copies_5), (nat_lit 11, zPne_copies_6, zOne_copies_6, zMne_copies_6), (nat_lit 12, zPne_copies_17, zOne_copies_17, zMne_copies_17), (nat_lit 13, zPne_copies_18, zOne_copies_18, zMne_copies_18), (nat_lit 14, zPne_copies_19, zOne_copies_19, zMne_copies_19), (nat_lit 15, zPne_copies_20, zOne_copies_20, zMne_copies_20), (nat_lit 16, zPne_copies_21, zOne_copies_21, zMne_copies_21), (nat_lit 17, zPne_begin, zOne_begin, zMne_begin)] pCne_keepText qCne_keepText) 5).2 [] η11 x12 η12 → ∀ (x13 : Int) (η13 : zE), ((gC2 wl_ne [(nat_lit 0, zPne_copies_4, zOne_copies_4, zMne_copies_4), (nat_lit 1, zPne_copies_7, zOne_copies_7, zMne_copies_7), (nat_lit 2, zPne_copies_8, zOne_copies_8, zMne_copies_8), (nat_lit 3, zPne_copies_9, zOne_copies_9, zMne_copies_9), (nat_lit 4, zPne_copies_10, zOne_copies_10, zMne_copies_10), (nat_lit 5, zPne_copies_11, zOne_copies_11, zMne_copies_11), (nat_lit 6, zPne_copies_12, zOne_copies_12, zMne_copies_12), (nat_lit 7, zPne_copies_13, zOne_copies_13, zMne_copies_13), (nat_lit 8, zPne_copies_14, zOne_copies_14, zMne_copies_14), (nat_lit 9, zPne_copies_15, zOne_copies_15, zMne_copies_15), (nat_lit 10, zPne_copies_5, zOne_copies_5, zMne_copies_5), (nat_lit 11, zPne_copies_6, zOne_copies_6, zMne_copies_6), (nat_lit 12, zPne_copies_17, zOne_copies_17, zMne_copies_17), (nat_lit 13, zPne_copies_18, zOne_copies_18, zMne_copies_18), (nat_lit 14, zPne_copies_19, zOne_copies_19, zMne_copies_19), (nat_lit 15, zPne_copies_20, zOne_copies_20, zMne_copies_20), (nat_lit 16, zPne_copies_21, zOne_copies_21, zMne_copies_21), (nat_lit 17, zPne_begin, zOne_begin, zMne_begin)] pCne_keepText qCne_keepText) 6).2 [] η12 x13 η13 → ∀ (x14 : Int) (η14 : zE), ((gC2 wl_ne [(nat_lit 0, zPne_copies_4, zOne_copies_4, zMne_copies_4), (nat_lit 1, zPne_copies_7, zOne_copies_7, zMne_copies_7), (nat_lit 2, zPne_copies_8, zOne_copies_8, zMne_copies_8), (nat_lit 3, zPne_copies_9, zOne_copies_9, zMne_copies_9), (nat_lit 4, zPne_copies_10, zOne_copies_10, zMne_copies_10), (nat_lit 5, zPne_copies_11, zOne_copies_11, zMne_copies_11), (nat_lit 6, zPne_copies_12, zOne_copies_12, zMne_copies_12), (nat_lit 7, zPne_copies_13, zOne_copies_13, zMne_copies_13), (nat_lit 8, zPne_copies_14, zOne_copies_14, zMne_copies_14), (nat_lit 9, zPne_copies_15, zOne_copies_15, zMne_copies_15), (nat_lit 10, zPne_copies_5, zOne_copies_5, zMne_copies_5), (nat_lit 11, zPne_copies_6, zOne_copies_6, zMne_copies_6), (nat_lit 12, zPne_copies_17, zOne_copies_17, zMne_copies_17), (nat_lit 13, zPne_copies_18, zOne_copies_18, zMne_copies_18), (nat_lit 14, zPne_copies_19, zOne_copies_19, zMne_copies_19), (nat_lit 15, zPne_copies_20, zOne_copies_20, zMne_copies_20), (nat_lit 16, zPne_copies_21, zOne_copies_21, zMne_copies_21), (nat_lit 17, zPne_begin, zOne_begin, zMne_begin)] pCne_keepText qCne_keepText) 7).2 [] η13 x14 η14 → ∀ (x15 : Int) (η15 : zE), ((gC2 wl_ne [(nat_lit 0, zPne_copies_4, zOne_copies_4, zMne_copies_4), (nat_lit 1, zPne_copies_7, zOne_copies_7, zMne_copies_7), (nat_lit 2, zPne_copies_8, zOne_copies_8, zMne_copies_8), (nat_lit 3, zPne_copies_9, zOne_copies_9, zMne_copies_9), (nat_lit 4, zPne_copies_10, zOne_copies_10, zMne_copies_10), (nat_lit 5, zPne_copies_11, zOne_copies_11, zMne_copies_11), (nat_lit 6, zPne_copies_12, zOne_copies_12, zMne_copies_12), (nat_lit 7, zPne_copies_13, zOne_copies_13, zMne_copies_13), (nat_lit 8, zPne_copies_14, zOne_copies_14, zMne_copies_14), (nat_lit 9, zPne_copies_15, zOne_copies_15, zMne_copies_15), (nat_lit 10, zPne_copies_5, zOne_copies_5, zMne_copies_5), (nat_lit 11, zPne_copies_6, zOne_copies_6, zMne_copies_6), (nat_lit 12, zPne_copies_17, zOne_copies_17, zMne_copies_17), (nat_lit 13, zPne_copies_18, zOne_copies_18, zMne_copies_18), (nat_lit 14, zPne_copies_19, zOne_copies_19, zMne_copies_19), (nat_lit 15, zPne_copies_20, zOne_copies_20, zMne_copies_20), (nat_lit 16, zPne_copies_21, zOne_copies_21, zMne_copies_21), (nat_lit 17, zPne_begin, zOne_begin, zMne_begin)] pCne_keepText qCne_keepText) 8).2 [] η14 x15 η15 → ∀ (x16 : Int) (η16 : zE), ((gC2 wl_ne [(nat_lit 0, zPne_copies_4, zOne_copies_4, zMne_copies_4), (nat_lit 1, zPne_copies_7, zOne_copies_7, zMne_copies_7), (nat_lit 2, zPne_copies_8, zOne_copies_8, zMne_copies_8), (nat_lit 3, zPne_copies_9, zOne_copies_9, zMne_copies_9), (nat_lit 4, zPne_copies_10, zOne_copies_10, zMne_copies_10), (nat_lit 5, zPne_copies_11, zOne_copies_11, zMne_copies_11), (nat_lit 6, zPne_copies_12, zOne_copies_12, zMne_copies_12), (nat_lit 7, zPne_copies_13, zOne_copies_13, zMne_copies_13), (nat_lit 8, zPne_copies_14, zOne_copies_14, zMne_copies_14), (nat_lit 9, zPne_copies_15, zOne_copies_15, zMne_copies_15), (nat_lit 10, zPne_copies_5, zOne_copies_5, zMne_copies_5), (nat_lit 11, zPne_copies_6, zOne_copies_6, zMne_copies_6), (nat_lit 12, zPne_copies_17, zOne_copies_17, zMne_copies_17), (nat_lit 13, zPne_copies_18, zOne_copies_18, zMne_copies_18), (nat_lit 14, zPne_copies_19, zOne_copies_19, zMne_copies_19), (nat_lit 15, zPne_copies_20, zOne_copies_20, zMne_copies_20), (nat_lit 16, zPne_copies_21, zOne_copies_21, zMne_copies_21), (nat_lit 17, zPne_begin, zOne_begin, zMne_begin)] pCne_keepText qCne_keepText) 9).2 [] η15 x16 η16 → ((0 : Int) < (3 : Int)) → ∀ x17 : Int, x17 = zd 0 1 3 0 → ∀ x18 : Int, x18 = η16 16 (Int.toNat x17) → zok 1 x18 → ∀ η17 : zE, η17 = zup η16 16 (Int.toNat 0) x18 → ∀ x19 : Int, x19 = zd 0 1 0 1 → (x19 < 3) → ∀ x20 : Int, x20 = zd 0 1 3 x19 → ∀ x21 : Int, x21 = η17 16 (Int.toNat x20) → zok 1 x21 → ∀ η18 : zE, η18 = zup η17 16 (Int.toNat x19) x21 → ∀ x22 : Int, x22 = zd 0 1 x19 1 → (x22 < 3) → ∀ x23 : Int, x23 = zd 0 1 3 x22 → ∀ x24 : Int, x24 = η18 16 (Int.toNat x23) → zok 1 x24 → ∀ η19 : zE, η19 = zup η18 16 (Int.toNat x22) x24 → ∀ x25 : Int, x25 = zd 0 1 x22 1 → (3 ≤ x25) → ∀ (x26 : Int) (η20 : zE), ((gC2 wl_ne [(nat_lit 0, zPne_copies_4, zOne_copies_4, zMne_copies_4), (nat_lit 1, zPne_copies_7, zOne_copies_7, zMne_copies_7), (nat_lit 2, zPne_copies_8, zOne_copies_8, zMne_copies_8), (nat_lit 3, zPne_copies_9, zOne_copies_9, zMne_copies_9), (nat_lit 4, zPne_copies_10, zOne_copies_10, zMne_copies_10), (nat_lit 5, zPne_copies_11, zOne_copies_11, zMne_copies_11), (nat_lit 6, zPne_copies_12, zOne_copies_12, zMne_copies_12), (nat_lit 7, zPne_copies_13, zOne_copies_13, zMne_copies_13), (nat_lit 8, zPne_copies_14, zOne_copies_14, zMne_copies_14), (nat_lit 9, zPne_copies_15, zOne_copies_15, zMne_copies_15), (nat_lit 10, zPne_copies_5, zOne_copies_5, zMne_copies_5), (nat_lit 11, zPne_copies_6, zOne_copies_6, zMne_copies_6), (nat_lit 12, zPne_copies_17, zOne_copies_17, zMne_copies_17), (nat_lit 13, zPne_copies_18, zOne_copies_18, zMne_copies_18), (nat_lit 14, zPne_copies_19, zOne_copies_19, zMne_copies_19), (nat_lit 15, zPne_copies_20, zOne_copies_20, zMne_copies_20), (nat_lit 16, zPne_copies_21, zOne_copies_21, zMne_copies_21), (nat_lit 17, zPne_begin, zOne_begin, zMne_begin)] pCne_keepText qCne_keepText) 12).2 [] η19 x26 η20 → ∀ (x27 : Int) (η21 : zE), ((gC2 wl_ne [(nat_lit 0, zPne_copies_4, zOne_copies_4, zMne_copies_4), (nat_lit 1, zPne_copies_7, zOne_copies_7, zMne_copies_7), (nat_lit 2, zPne_copies_8, zOne_copies_8, zMne_copies_8), (nat_lit 3, zPne_copies_9, zOne_copies_9, zMne_copies_9), (nat_lit 4, zPne_copies_10, zOne_copies_10, zMne_copies_10), (nat_lit 5, zPne_copies_11, zOne_copies_11, zMne_copies_11), (nat_lit 6, zPne_copies_12, zOne_copies_12, zMne_copies_12), (nat_lit 7, zPne_copies_13, zOne_copies_13, zMne_copies_13), (nat_lit 8, zPne_copies_14, zOne_copies_14, zMne_copies_14), (nat_lit 9, zPne_copies_15, zOne_copies_15, zMne_copies_15), (nat_lit 10, zPne_copies_5, zOne_copies_5, zMne_copies_5), (nat_lit 11, zPne_copies_6, zOne_copies_6, zMne_copies_6), (nat_lit 12, zPne_copies_17, zOne_copies_17, zMne_copies_17), (nat_lit 13, zPne_copies_18, zOne_copies_18, zMne_copies_18), (nat_lit 14, zPne_copies_19, zOne_copies_19, zMne_copies_19), (nat_lit 15, zPne_copies_20, zOne_copies_20, zMne_copies_20), (nat_lit 16, zPne_copies_21, zOne_copies_21, zMne_copies_21), (nat_lit 17, zPne_begin, zOne_begin, zMne_begin)] pCne_keepText qCne_keepText) 13).2 [] η20 x27 η21 → ∀ (x28 : Int) (η22 : zE), ((gC2 wl_ne [(nat_lit 0, zPne_copies_4, zOne_copies_4, zMne_copies_4), (nat_lit 1, zPne_copies_7, zOne_copies_7, zMne_copies_7), (nat_lit 2, zPne_copies_8, zOne_copies_8, zMne_copies_8), (nat_lit 3, zPne_copies_9, zOne_copies_9, zMne_copies_9), (nat_lit 4, zPne_copies_10, zOne_copies_10, zMne_copies_10), (nat_lit 5, zPne_copies_11, zOne_copies_11, zMne_copies_11), (nat_lit 6, zPne_copies_12, zOne_copies_12, zMne_copies_12), (nat_lit 7, zPne_copies_13, zOne_copies_13, zMne_copies_13), (nat_lit 8, zPne_copies_14, zOne_copies_14, zMne_copies_14), (nat_lit 9, zPne_copies_15, zOne_copies_15, zMne_copies_15), (nat_lit 10, zPne_copies_5, zOne_copies_5, zMne_copies_5), (nat_lit 11, zPne_copies_6, zOne_copies_6, zMne_copies_6), (nat_lit 12, zPne_copies_17, zOne_copies_17, zMne_copies_17), (nat_lit 13, zPne_copies_18, zOne_copies_18, zMne_copies_18), (nat_lit 14, zPne_copies_19, zOne_copies_19, zMne_copies_19), (nat_lit 15, zPne_copies_20, zOne_copies_20, zMne_copies_20), (nat_lit 16, zPne_copies_21, zOne_copies_21, zMne_copies_21), (nat_lit 17, zPne_begin, zOne_begin, zMne_begin)] pCne_keepText qCne_keepText) 14).2 [] η21 x28 η22 → ∀ (x29 : Int) (η23 : zE), ((gC2 wl_ne [(nat_lit 0, zPne_copies_4, zOne_copies_4, zMne_copies_4), (nat_lit 1, zPne_copies_7, zOne_copies_7, zMne_copies_7), (nat_lit 2, zPne_copies_8, zOne_copies_8, zMne_copies_8), (nat_lit 3, zPne_copies_9, zOne_copies_9, zMne_copies_9), (nat_lit 4, zPne_copies_10, zOne_copies_10, zMne_copies_10), (nat_lit 5, zPne_copies_11, zOne_copies_11, zMne_copies_11), (nat_lit 6, zPne_copies_12, zOne_copies_12, zMne_copies_12), (nat_lit 7, zPne_copies_13, zOne_copies_13, zMne_copies_13), (nat_lit 8, zPne_copies_14, zOne_copies_14, zMne_copies_14), (nat_lit 9, zPne_copies_15, zOne_copies_15, zMne_copies_15), (nat_lit 10, zPne_copies_5, zOne_copies_5, zMne_copies_5), (nat_lit 11, zPne_copies_6, zOne_copies_6, zMne_copies_6), (nat_lit 12, zPne_copies_17, zOne_copies_17, zMne_copies_17), (nat_lit 13, zPne_copies_18, zOne_copies_18, zMne_copies_18), (nat_lit 14, zPne_copies_19, zOne_copies_19, zMne_copies_19), (nat_lit 15, zPne_copies_20, zOne_copies_20, zMne_copies_20), (nat_lit 16, zPne_copies_21, zOne_copies_21, zMne_copies_21), (nat_lit 17, zPne_begin, zOne_begin, zMne_begin)] pCne_keepText qCne_keepText) 15).2 [] η22 x29 η23 → ∀ (x30 : Int) (η24 : zE), ((gC2 wl_ne [(nat_lit 0, zPne_copies_4, zOne_copies_4, zMne_copies_4), (nat_lit 1, zPne_copies_7, zOne_copies_7, zMne_copies_7), (nat_lit 2, zPne_copies_8, zOne_copies_8, zMne_copies_8), (nat_lit 3, zPne_copies_9, zOne_copies_9, zMne_copies_9), (nat_lit 4, zPne_copies_10, zOne_copies_10, zMne_copies_10), (nat_lit 5, zPne_copies_11, zOne_copies_11, zMne_copies_11), (nat_lit 6, zPne_copies_12, zOne_copies_12, zMne_copies_12), (nat_lit 7, zPne_copies_13, zOne_copies_13, zMne_copies_13), (nat_lit 8, zPne_copies_14, zOne_copies_14, zMne_copies_14), (nat_lit 9, zPne_copies_15, zOne_copies_15, zMne_copies_15), (nat_lit 10, zPne_copies_5, zOne_copies_5, zMne_copies_5), (nat_lit 11, zPne_copies_6, zOne_copies_6, zMne_copies_6), (nat_lit 12, zPne_copies_17, zOne_copies_17, zMne_copies_17), (nat_lit 13, zPne_copies_18, zOne_copies_18, zMne_copies_18), (nat_lit 14, zPne_copies_19, zOne_copies_19, zMne_copies_19), (nat_lit 15, zPne_copies_20, zOne_copies_20, zMne_copies_20), (nat_lit 16, zPne_copies_21, zOne_copies_21, zMne_copies_21), (nat_lit 17, zPne_begin, zOne_begin, zMne_begin)] pCne_keepText qCne_keepText) 16).2 [] η23 x30 η24 → ∀ (x31 : Int) (η25 : zE), ((gC2 wl_ne [(nat_lit 0, zPne_copies_4, zOne_copies_4, zMne_copies_4), (nat_lit 1, zPne_copies_7, zOne_copies_7, zMne_copies_7), (nat_lit 2, zPne_copies_8, zOne_copies_8, zMne_copies_8), (nat_lit 3, zPne_copies_9, zOne_copies_9, zMne_copies_9), (nat_lit 4, zPne_copies_10, zOne_copies_10, zMne_copies_10), (nat_lit 5, zPne_copies_11, zOne_copies_11, zMne_copies_11), (nat_lit 6, zPne_copies_12, zOne_copies_12, zMne_copies_12), (nat_lit 7, zPne_copies_13, zOne_copies_13, zMne_copies_13), (nat_lit 8, zPne_copies_14, zOne_copies_14, zMne_copies_14), (nat_lit 9, zPne_copies_15, zOne_copies_15, zMne_copies_15), (nat_lit 10, zPne_copies_5, zOne_copies_5, zMne_copies_5), (nat_lit 11, zPne_copies_6, zOne_copies_6, zMne_copies_6), (nat_lit 12, zPne_copies_17, zOne_copies_17, zMne_copies_17), (nat_lit 13, zPne_copies_18, zOne_copies_18, zMne_copies_18), (nat_lit 14, zPne_copies_19, zOne_copies_19, zMne_copies_19), (nat_lit 15, zPne_copies_20, zOne_copies_20, zMne_copies_20), (nat_lit 16, zPne_copies_21, zOne_copies_21, zMne_copies_21), (nat_lit 17, zPne_begin, zOne_begin, zMne_begin)] pCne_keepText qCne_keepText) 17).2 [] η24 x31 η25 → (fun (_ : Nat) (y : Int) (η' : zE) => pQne_keepText [] η y η') 0 0 η25 := by
  intro x1 e1 r1 η1 eη1 x2 e2 r2 η2 eη2 x3 e3 r3 η3 eη3 x4 e4 r4 η4 eη4 x5 η5 h5 x6 η6 h6 x7 η7 h7 x8 η8 h8 x9 η9 h9 x10 η10 h10 x11 η11 h11 x12 η12 h12 x13 η13 h13 x14 η14 h14 x15 η15 h15 x16 η16 h16 c1 x17 e17 x18 e18 r18 η17 eη17 x19 e19 c2 x20 e20 x21 e21 r21 η18 eη18 x22 e22 c3 x23 e23 x24 e24 r24 η19 eη19 x25 e25 c4 x26 η20 h26 x27 η21 h27 x28 η22 h28 x29 η23 h29 x30 η24 h30 x31 η25 h31
  have k5 : sQ wl_ne zTr zOne_copies_4 zMne_copies_4 [] η4 x5 η5 ∧ pQne_copies_4 [] η4 x5 η5 := h5
  have k6 : sQ wl_ne zTr zOne_copies_5 zMne_copies_5 [] η5 x6 η6 ∧ pQne_copies_5 [] η5 x6 η6 := h6
  have k7 : sQ wl_ne zTr zOne_copies_6 zMne_copies_6 [] η6 x7 η7 ∧ pQne_copies_6 [] η6 x7 η7 := h7
  have k8 : sQ wl_ne zTr zOne_copies_7 zMne_copies_7 [] η7 x8 η8 ∧ pQne_copies_7 [] η7 x8 η8 := h8
  have k9 : sQ wl_ne zTr zOne_copies_8 zMne_copies_8 [] η8 x9 η9 ∧ pQne_copies_8 [] η8 x9 η9 := h9
  have k10 : sQ wl_ne zTr zOne_copies_9 zMne_copies_9 [] η9 x10 η10 ∧ pQne_copies_9 [] η9 x10 η10 := h10
  have k11 : sQ wl_ne zTr zOne_copies_10 zMne_copies_10 [] η10 x11 η11 ∧ pQne_copies_10 [] η10 x11 η11 := h11
  have k12 : sQ wl_ne zTr zOne_copies_11 zMne_copies_11 [] η11 x12 η12 ∧ pQne_copies_11 [] η11 x12 η12 := h12
  have k13 : sQ wl_ne zTr zOne_copies_12 zMne_copies_12 [] η12 x13 η13 ∧ pQne_copies_12 [] η12 x13 η13 := h13
  have k14 : sQ wl_ne zTr zOne_copies_13 zMne_copies_13 [] η13 x14 η14 ∧ pQne_copies_13 [] η13 x14 η14 := h14
  have k15 : sQ wl_ne zTr zOne_copies_14 zMne_copies_14 [] η14 x15 η15 ∧ pQne_copies_14 [] η14 x15 η15 := h15
  have k16 : sQ wl_ne zTr zOne_copies_15 zMne_copies_15 [] η15 x16 η16 ∧ pQne_copies_15 [] η15 x16 η16 := h16
  have k26 : sQ wl_ne zTr zOne_copies_17 zMne_copies_17 [] η19 x26 η20 ∧ pQne_copies_17 [] η19 x26 η20 := h26
  have k27 : sQ wl_ne zTr zOne_copies_18 zMne_copies_18 [] η20 x27 η21 ∧ pQne_copies_18 [] η20 x27 η21 := h27
  have k28 : sQ wl_ne zTr zOne_copies_19 zMne_copies_19 [] η21 x28 η22 ∧ pQne_copies_19 [] η21 x28 η22 := h28
  have k29 : sQ wl_ne zTr zOne_copies_20 zMne_copies_20 [] η22 x29 η23 ∧ pQne_copies_20 [] η22 x29 η23 := h29
  have k30 : sQ wl_ne zTr zOne_copies_21 zMne_copies_21 [] η23 x30 η24 ∧ pQne_copies_21 [] η23 x30 η24 := h30
  have y31 : fQne_begin [] η24 x31 η25 := h31.2.2
  have k31 : sQ wl_ne zTr zOne_begin zMne_begin [] η24 x31 η25 ∧ oQne_begin [] η24 x31 η25 := ⟨h31.1, h31.2.1⟩
  refine yj_a ?_ ?_
  · replace e17 := zEq_i e17
    replace e19 := zEq_i e19
    replace e20 := zEq_i e20
    replace e22 := zEq_i e22
    replace e23 := zEq_i e23
    replace e25 := zEq_i e25
    have k5 : sQ wl_ne zTr zOne_copies_4 zMne_copies_4 [] η4 x5 η5 ∧ pQne_copies_4 [] η4 x5 η5 := h5
    have k6 : sQ wl_ne zTr zOne_copies_5 zMne_copies_5 [] η5 x6 η6 ∧ pQne_copies_5 [] η5 x6 η6 := h6
    have k7 : sQ wl_ne zTr zOne_copies_6 zMne_copies_6 [] η6 x7 η7 ∧ pQne_copies_6 [] η6 x7 η7 := h7
    have k8 : sQ wl_ne zTr zOne_copies_7 zMne_copies_7 [] η7 x8 η8 ∧ pQne_copies_7 [] η7 x8 η8 := h8
    have k9 : sQ wl_ne zTr zOne_copies_8 zMne_copies_8 [] η8 x9 η9 ∧ pQne_copies_8 [] η8 x9 η9 := h9
    have k10 : sQ wl_ne zTr zOne_copies_9 zMne_copies_9 [] η9 x10 η10 ∧ pQne_copies_9 [] η9 x10 η10 := h10
    have k11 : sQ wl_ne zTr zOne_copies_10 zMne_copies_10 [] η10 x11 η11 ∧ pQne_copies_10 [] η10 x11 η11 := h11
    have k12 : sQ wl_ne zTr zOne_copies_11 zMne_copies_11 [] η11 x12 η12 ∧ pQne_copies_11 [] η11 x12 η12 := h12
    have k13 : sQ wl_ne zTr zOne_copies_12 zMne_copies_12 [] η12 x13 η13 ∧ pQne_copies_12 [] η12 x13 η13 := h13
    have k14 : sQ wl_ne zTr zOne_copies_13 zMne_copies_13 [] η13 x14 η14 ∧ pQne_copies_13 [] η13 x14 η14 := h14
    have k15 : sQ wl_ne zTr zOne_copies_14 zMne_copies_14 [] η14 x15 η15 ∧ pQne_copies_14 [] η14 x15 η15 := h15
    have k16 : sQ wl_ne zTr zOne_copies_15 zMne_copies_15 [] η15 x16 η16 ∧ pQne_copies_15 [] η15 x16 η16 := h16
    have k26 : sQ wl_ne zTr zOne_copies_17 zMne_copies_17 [] η19 x26 η20 ∧ pQne_copies_17 [] η19 x26 η20 := h26
    have k27 : sQ wl_ne zTr zOne_copies_18 zMne_copies_18 [] η20 x27 η21 ∧ pQne_copies_18 [] η20 x27 η21 := h27
    have k28 : sQ wl_ne zTr zOne_copies_19 zMne_copies_19 [] η21 x28 η22 ∧ pQne_copies_19 [] η21 x28 η22 := h28
    have k29 : sQ wl_ne zTr zOne_copies_20 zMne_copies_20 [] η22 x29 η23 ∧ pQne_copies_20 [] η22 x29 η23 := h29
    have k30 : sQ wl_ne zTr zOne_copies_21 zMne_copies_21 [] η23 x30 η24 ∧ pQne_copies_21 [] η23 x30 η24 := h30
    have y31 : fQne_begin [] η24 x31 η25 := h31.2.2
    have k31 : sQ wl_ne zTr zOne_begin zMne_begin [] η24 x31 η25 ∧ oQne_begin [] η24 x31 η25 := ⟨h31.1, h31.2.1⟩
    have w0_0_16 : (0 : Int) ≤ η 0 16 ∧ η 0 16 ≤ 12 := wf_ok (a := 16) (b := 16) (z := (0, 12)) hp.1 (by decide +kernel) (Nat.le_refl _) (Nat.le_refl _)
    replace e1 : x1 = η 0 16 := e1
    have w0_0_12 : (0 : Int) ≤ η 0 12 ∧ η 0 12 ≤ 12 := wf_ok (a := 12) (b := 12) (z := (0, 12)) hp.1 (by decide +kernel) (Nat.le_refl _) (Nat.le_refl _)
    have c0_0_12 : η 0 12 = η 0 12 := rfl
    have w0_0_17 : (0 : Int) ≤ η 0 17 ∧ η 0 17 ≤ 4 := wf_ok (a := 17) (b := 17) (z := (0, 4)) hp.1 (by decide +kernel) (Nat.le_refl _) (Nat.le_refl _)
    have v3 : zEq (η1 0 17) (η 0 17) := by rw [eη1]; exact (zup_ne (fun _ e => absurd e (by decide))).trans rfl
    replace e2 : x2 = η 0 17 := e2.trans v3
    have w0_0_13 : (0 : Int) ≤ η 0 13 ∧ η 0 13 ≤ 4 := wf_ok (a := 13) (b := 13) (z := (0, 4)) hp.1 (by decide +kernel) (Nat.le_refl _) (Nat.le_refl _)
    have v5 : zEq (η1 0 13) (η 0 13) := by rw [eη1]; exact (zup_ne (fun _ e => absurd e (by decide))).trans rfl
    have c1_0_13 : η1 0 13 = η 0 13 := v5
    have w0_0_18 : (0 : Int) ≤ η 0 18 ∧ η 0 18 ≤ 4 := wf_ok (a := 18) (b := 18) (z := (0, 4)) hp.1 (by decide +kernel) (Nat.le_refl _) (Nat.le_refl _)
    have v7 : zEq (η1 0 18) (η 0 18) := by rw [eη1]; exact (zup_ne (fun _ e => absurd e (by decide))).trans rfl
    have v8 : zEq (η2 0 18) (η 0 18) := by rw [eη2]; exact (zup_ne (fun _ e => absurd e (by decide))).trans v7
    replace e3 : x3 = η 0 18 := e3.trans v8
    have w0_0_14 : (0 : Int) ≤ η 0 14 ∧ η 0 14 ≤ 4 := wf_ok (a := 14) (b := 14) (z := (0, 4)) hp.1 (by decide +kernel) (Nat.le_refl _) (Nat.le_refl _)
    have v10 : zEq (η1 0 14) (η 0 14) := by rw [eη1]; exact (zup_ne (fun _ e => absurd e (by decide))).trans rfl
    have v11 : zEq (η2 0 14) (η 0 14) := by rw [eη2]; exact (zup_ne (fun _ e => absurd e (by decide))).trans v10
    have c2_0_14 : η2 0 14 = η 0 14 := v11
    have w0_0_19 : (0 : Int) ≤ η 0 19 ∧ η 0 19 ≤ 64 := wf_ok (a := 19) (b := 19) (z := (0, 64)) hp.1 (by decide +kernel) (Nat.le_refl _) (Nat.le_refl _)
    have v13 : zEq (η1 0 19) (η 0 19) := by rw [eη1]; exact (zup_ne (fun _ e => absurd e (by decide))).trans rfl
    have v14 : zEq (η2 0 19) (η 0 19) := by rw [eη2]; exact (zup_ne (fun _ e => absurd e (by decide))).trans v13
    have v15 : zEq (η3 0 19) (η 0 19) := by rw [eη3]; exact (zup_ne (fun _ e => absurd e (by decide))).trans v14
    replace e4 : x4 = η 0 19 := e4.trans v15
    have w0_0_15 : (0 : Int) ≤ η 0 15 ∧ η 0 15 ≤ 64 := wf_ok (a := 15) (b := 15) (z := (0, 64)) hp.1 (by decide +kernel) (Nat.le_refl _) (Nat.le_refl _)
    have v17 : zEq (η1 0 15) (η 0 15) := by rw [eη1]; exact (zup_ne (fun _ e => absurd e (by decide))).trans rfl
    have v18 : zEq (η2 0 15) (η 0 15) := by rw [eη2]; exact (zup_ne (fun _ e => absurd e (by decide))).trans v17
    have v19 : zEq (η3 0 15) (η 0 15) := by rw [eη3]; exact (zup_ne (fun _ e => absurd e (by decide))).trans v18
    have c3_0_15 : η3 0 15 = η 0 15 := v19
    have bx5 : (0 : Int) ≤ x5 ∧ x5 ≤ 0 := k5.1.2.1
    have bx6 : (0 : Int) ≤ x6 ∧ x6 ≤ 0 := k6.1.2.1
    have bx7 : (0 : Int) ≤ x7 ∧ x7 ≤ 0 := k7.1.2.1
    have bx8 : (0 : Int) ≤ x8 ∧ x8 ≤ 0 := k8.1.2.1
    have bx9 : (0 : Int) ≤ x9 ∧ x9 ≤ 0 := k9.1.2.1
    have bx10 : (0 : Int) ≤ x10 ∧ x10 ≤ 0 := k10.1.2.1
    have bx11 : (0 : Int) ≤ x11 ∧ x11 ≤ 0 := k11.1.2.1
    have bx12 : (0 : Int) ≤ x12 ∧ x12 ≤ 0 := k12.1.2.1
    have bx13 : (0 : Int) ≤ x13 ∧ x13 ≤ 0 := k13.1.2.1
    have bx14 : (0 : Int) ≤ x14 ∧ x14 ≤ 0 := k14.1.2.1
    have bx15 : (0 : Int) ≤ x15 ∧ x15 ≤ 0 := k15.1.2.1
    have bx16 : (0 : Int) ≤ x16 ∧ x16 ≤ 0 := k16.1.2.1
    first
    | replace e17 : x17 = 3 + 0 := zd_a2 (zEq_o e17) (by clear e17; exact ⟨by omega, by omega⟩)
    | clear e17
    have z17 : x17 = 3 := by omega
    rw [z17] at e18
    have v21 : zEq (η1 16 3) (η 16 3) := by rw [eη1]; exact (zup_ne (fun e _ => absurd e (by decide))).trans rfl
    have v22 : zEq (η2 16 3) (η 16 3) := by rw [eη2]; exact (zup_ne (fun e _ => absurd e (by decide))).trans v21
    have v23 : zEq (η3 16 3) (η 16 3) := by rw [eη3]; exact (zup_ne (fun e _ => absurd e (by decide))).trans v22
    have v24 : zEq (η4 16 3) (η 16 3) := by rw [eη4]; exact (zup_ne (fun e _ => absurd e (by decide))).trans v23
    have v25 : zEq (η5 16 3) (η 16 3) := (k5.1.2.2.2.1 16 3 (by decide +kernel)).trans v24
    have v26 : zEq (η6 16 3) (η 16 3) := (k6.1.2.2.2.1 16 3 (by decide +kernel)).trans v25
    have v27 : zEq (η7 16 3) (η 16 3) := (k7.1.2.2.2.1 16 3 (by decide +kernel)).trans v26
    have v28 : zEq (η8 16 3) (η 16 3) := (k8.1.2.2.2.1 16 3 (by decide +kernel)).trans v27
    have v29 : zEq (η9 16 3) (η 16 3) := (k9.1.2.2.2.1 16 3 (by decide +kernel)).trans v28
    have v30 : zEq (η10 16 3) (η 16 3) := (k10.1.2.2.2.1 16 3 (by decide +kernel)).trans v29
    have v31 : zEq (η11 16 3) (η 16 3) := (k11.1.2.2.2.1 16 3 (by decide +kernel)).trans v30
    have v32 : zEq (η12 16 3) (η 16 3) := (k12.1.2.2.2.1 16 3 (by decide +kernel)).trans v31
    have v33 : zEq (η13 16 3) (η 16 3) := (k13.1.2.2.2.1 16 3 (by decide +kernel)).trans v32
    have v34 : zEq (η14 16 3) (η 16 3) := (k14.1.2.2.2.1 16 3 (by decide +kernel)).trans v33
    have v35 : zEq (η15 16 3) (η 16 3) := (k15.1.2.2.2.1 16 3 (by decide +kernel)).trans v34
    have v36 : zEq (η16 16 3) (η 16 3) := (k16.1.2.2.2.1 16 3 (by decide +kernel)).trans v35
    replace e18 : x18 = η 16 3 := e18.trans v36
    replace r18 : 0 ≤ x18 ∧ x18 ≤ 1 := r18
    have v38 : zEq (η1 16 0) (η 16 0) := by rw [eη1]; exact (zup_ne (fun e _ => absurd e (by decide))).trans rfl
    have v39 : zEq (η2 16 0) (η 16 0) := by rw [eη2]; exact (zup_ne (fun e _ => absurd e (by decide))).trans v38
    have v40 : zEq (η3 16 0) (η 16 0) := by rw [eη3]; exact (zup_ne (fun e _ => absurd e (by decide))).trans v39
    have v41 : zEq (η4 16 0) (η 16 0) := by rw [eη4]; exact (zup_ne (fun e _ => absurd e (by decide))).trans v40
    have v42 : zEq (η5 16 0) (η 16 0) := (k5.1.2.2.2.1 16 0 (by decide +kernel)).trans v41
    have v43 : zEq (η6 16 0) (η 16 0) := (k6.1.2.2.2.1 16 0 (by decide +kernel)).trans v42
    have v44 : zEq (η7 16 0) (η 16 0) := (k7.1.2.2.2.1 16 0 (by decide +kernel)).trans v43
    have v45 : zEq (η8 16 0) (η 16 0) := (k8.1.2.2.2.1 16 0 (by decide +kernel)).trans v44
    have v46 : zEq (η9 16 0) (η 16 0) := (k9.1.2.2.2.1 16 0 (by decide +kernel)).trans v45
    have v47 : zEq (η10 16 0) (η 16 0) := (k10.1.2.2.2.1 16 0 (by decide +kernel)).trans v46
    have v48 : zEq (η11 16 0) (η 16 0) := (k11.1.2.2.2.1 16 0 (by decide +kernel)).trans v47
    have v49 : zEq (η12 16 0) (η 16 0) := (k12.1.2.2.2.1 16 0 (by decide +kernel)).trans v48
    have v50 : zEq (η13 16 0) (η 16 0) := (k13.1.2.2.2.1 16 0 (by decide +kernel)).trans v49
    have v51 : zEq (η14 16 0) (η 16 0) := (k14.1.2.2.2.1 16 0 (by decide +kernel)).trans v50
    have v52 : zEq (η15 16 0) (η 16 0) := (k15.1.2.2.2.1 16 0 (by decide +kernel)).trans v51
    have v53 : zEq (η16 16 0) (η 16 0) := (k16.1.2.2.2.1 16 0 (by decide +kernel)).trans v52
    have c16_16_0 : η16 16 0 = η 16 0 := v53
    first
    | replace e19 : x19 = 0 + 1 := zd_a2 (zEq_o e19) (by clear e19; exact ⟨by omega, by omega⟩)
    | clear e19
    have z19 : x19 = 1 := by omega
    first
    | replace e20 : x20 = 3 + x19 := zd_a2 (zEq_o e20) (by clear e20; exact ⟨by omega, by omega⟩)
    | clear e20
    have z20 : x20 = 4 := by omega
    rw [z20] at e21
    have v55 : zEq (η1 16 4) (η 16 4) := by rw [eη1]; exact (zup_ne (fun e _ => absurd e (by decide))).trans rfl
    have v56 : zEq (η2 16 4) (η 16 4) := by rw [eη2]; exact (zup_ne (fun e _ => absurd e (by decide))).trans v55
    have v57 : zEq (η3 16 4) (η 16 4) := by rw [eη3]; exact (zup_ne (fun e _ => absurd e (by decide))).trans v56
    have v58 : zEq (η4 16 4) (η 16 4) := by rw [eη4]; exact (zup_ne (fun e _ => absurd e (by decide))).trans v57
    have v59 : zEq (η5 16 4) (η 16 4) := (k5.1.2.2.2.1 16 4 (by decide +kernel)).trans v58
    have v60 : zEq (η6 16 4) (η 16 4) := (k6.1.2.2.2.1 16 4 (by decide +kernel)).trans v59
    have v61 : zEq (η7 16 4) (η 16 4) := (k7.1.2.2.2.1 16 4 (by decide +kernel)).trans v60
    have v62 : zEq (η8 16 4) (η 16 4) := (k8.1.2.2.2.1 16 4 (by decide +kernel)).trans v61
    have v63 : zEq (η9 16 4) (η 16 4) := (k9.1.2.2.2.1 16 4 (by decide +kernel)).trans v62
    have v64 : zEq (η10 16 4) (η 16 4) := (k10.1.2.2.2.1 16 4 (by decide +kernel)).trans v63
    have v65 : zEq (η11 16 4) (η 16 4) := (k11.1.2.2.2.1 16 4 (by decide +kernel)).trans v64
    have v66 : zEq (η12 16 4) (η 16 4) := (k12.1.2.2.2.1 16 4 (by decide +kernel)).trans v65
    have v67 : zEq (η13 16 4) (η 16 4) := (k13.1.2.2.2.1 16 4 (by decide +kernel)).trans v66
    have v68 : zEq (η14 16 4) (η 16 4) := (k14.1.2.2.2.1 16 4 (by decide +kernel)).trans v67
    have v69 : zEq (η15 16 4) (η 16 4) := (k15.1.2.2.2.1 16 4 (by decide +kernel)).trans v68
    have v70 : zEq (η16 16 4) (η 16 4) := (k16.1.2.2.2.1 16 4 (by decide +kernel)).trans v69
    have v71 : zEq (η17 16 4) (η 16 4) := by rw [eη17]; exact (zup_ne (fun _ e => absurd e (by decide))).trans v70
    replace e21 : x21 = η 16 4 := e21.trans v71
    replace r21 : 0 ≤ x21 ∧ x21 ≤ 1 := r21
    rw [z19] at eη18
    have v73 : zEq (η1 16 1) (η 16 1) := by rw [eη1]; exact (zup_ne (fun e _ => absurd e (by decide))).trans rfl
    have v74 : zEq (η2 16 1) (η 16 1) := by rw [eη2]; exact (zup_ne (fun e _ => absurd e (by decide))).trans v73
    have v75 : zEq (η3 16 1) (η 16 1) := by rw [eη3]; exact (zup_ne (fun e _ => absurd e (by decide))).trans v74
    have v76 : zEq (η4 16 1) (η 16 1) := by rw [eη4]; exact (zup_ne (fun e _ => absurd e (by decide))).trans v75
    have v77 : zEq (η5 16 1) (η 16 1) := (k5.1.2.2.2.1 16 1 (by decide +kernel)).trans v76
    have v78 : zEq (η6 16 1) (η 16 1) := (k6.1.2.2.2.1 16 1 (by decide +kernel)).trans v77
    have v79 : zEq (η7 16 1) (η 16 1) := (k7.1.2.2.2.1 16 1 (by decide +kernel)).trans v78
    have v80 : zEq (η8 16 1) (η 16 1) := (k8.1.2.2.2.1 16 1 (by decide +kernel)).trans v79
    have v81 : zEq (η9 16 1) (η 16 1) := (k9.1.2.2.2.1 16 1 (by decide +kernel)).trans v80
    have v82 : zEq (η10 16 1) (η 16 1) := (k10.1.2.2.2.1 16 1 (by decide +kernel)).trans v81
    have v83 : zEq (η11 16 1) (η 16 1) := (k11.1.2.2.2.1 16 1 (by decide +kernel)).trans v82
    have v84 : zEq (η12 16 1) (η 16 1) := (k12.1.2.2.2.1 16 1 (by decide +kernel)).trans v83
    have v85 : zEq (η13 16 1) (η 16 1) := (k13.1.2.2.2.1 16 1 (by decide +kernel)).trans v84
    have v86 : zEq (η14 16 1) (η 16 1) := (k14.1.2.2.2.1 16 1 (by decide +kernel)).trans v85
    have v87 : zEq (η15 16 1) (η 16 1) := (k15.1.2.2.2.1 16 1 (by decide +kernel)).trans v86
    have v88 : zEq (η16 16 1) (η 16 1) := (k16.1.2.2.2.1 16 1 (by decide +kernel)).trans v87
    have v89 : zEq (η17 16 1) (η 16 1) := by rw [eη17]; exact (zup_ne (fun _ e => absurd e (by decide))).trans v88
    have c17_16_1 : η17 16 1 = η 16 1 := v89
    first
    | replace e22 : x22 = x19 + 1 := zd_a2 (zEq_o e22) (by clear e22; exact ⟨by omega, by omega⟩)
    | clear e22
    have z22 : x22 = 2 := by omega
    first
    | replace e23 : x23 = 3 + x22 := zd_a2 (zEq_o e23) (by clear e23; exact ⟨by omega, by omega⟩)
    | clear e23
    have z23 : x23 = 5 := by omega
    rw [z23] at e24
    have v91 : zEq (η1 16 5) (η 16 5) := by rw [eη1]; exact (zup_ne (fun e _ => absurd e (by decide))).trans rfl
    have v92 : zEq (η2 16 5) (η 16 5) := by rw [eη2]; exact (zup_ne (fun e _ => absurd e (by decide))).trans v91
    have v93 : zEq (η3 16 5) (η 16 5) := by rw [eη3]; exact (zup_ne (fun e _ => absurd e (by decide))).trans v92
    have v94 : zEq (η4 16 5) (η 16 5) := by rw [eη4]; exact (zup_ne (fun e _ => absurd e (by decide))).trans v93
    have v95 : zEq (η5 16 5) (η 16 5) := (k5.1.2.2.2.1 16 5 (by decide +kernel)).trans v94
    have v96 : zEq (η6 16 5) (η 16 5) := (k6.1.2.2.2.1 16 5 (by decide +kernel)).trans v95
    have v97 : zEq (η7 16 5) (η 16 5) := (k7.1.2.2.2.1 16 5 (by decide +kernel)).trans v96
    have v98 : zEq (η8 16 5) (η 16 5) := (k8.1.2.2.2.1 16 5 (by decide +kernel)).trans v97
    have v99 : zEq (η9 16 5) (η 16 5) := (k9.1.2.2.2.1 16 5 (by decide +kernel)).trans v98
    have v100 : zEq (η10 16 5) (η 16 5) := (k10.1.2.2.2.1 16 5 (by decide +kernel)).trans v99
    have v101 : zEq (η11 16 5) (η 16 5) := (k11.1.2.2.2.1 16 5 (by decide +kernel)).trans v100
    have v102 : zEq (η12 16 5) (η 16 5) := (k12.1.2.2.2.1 16 5 (by decide +kernel)).trans v101
    have v103 : zEq (η13 16 5) (η 16 5) := (k13.1.2.2.2.1 16 5 (by decide +kernel)).trans v102
    have v104 : zEq (η14 16 5) (η 16 5) := (k14.1.2.2.2.1 16 5 (by decide +kernel)).trans v103
    have v105 : zEq (η15 16 5) (η 16 5) := (k15.1.2.2.2.1 16 5 (by decide +kernel)).trans v104
    have v106 : zEq (η16 16 5) (η 16 5) := (k16.1.2.2.2.1 16 5 (by decide +kernel)).trans v105
    have v107 : zEq (η17 16 5) (η 16 5) := by rw [eη17]; exact (zup_ne (fun _ e => absurd e (by decide))).trans v106
    have v108 : zEq (η18 16 5) (η 16 5) := by rw [eη18]; exact (zup_ne (fun _ e => absurd e (by decide))).trans v107
    replace e24 : x24 = η 16 5 := e24.trans v108
    replace r24 : 0 ≤ x24 ∧ x24 ≤ 1 := r24
    rw [z22] at eη19
    have v110 : zEq (η1 16 2) (η 16 2) := by rw [eη1]; exact (zup_ne (fun e _ => absurd e (by decide))).trans rfl
    have v111 : zEq (η2 16 2) (η 16 2) := by rw [eη2]; exact (zup_ne (fun e _ => absurd e (by decide))).trans v110
    have v112 : zEq (η3 16 2) (η 16 2) := by rw [eη3]; exact (zup_ne (fun e _ => absurd e (by decide))).trans v111
    have v113 : zEq (η4 16 2) (η 16 2) := by rw [eη4]; exact (zup_ne (fun e _ => absurd e (by decide))).trans v112
    have v114 : zEq (η5 16 2) (η 16 2) := (k5.1.2.2.2.1 16 2 (by decide +kernel)).trans v113
    have v115 : zEq (η6 16 2) (η 16 2) := (k6.1.2.2.2.1 16 2 (by decide +kernel)).trans v114
    have v116 : zEq (η7 16 2) (η 16 2) := (k7.1.2.2.2.1 16 2 (by decide +kernel)).trans v115
    have v117 : zEq (η8 16 2) (η 16 2) := (k8.1.2.2.2.1 16 2 (by decide +kernel)).trans v116
    have v118 : zEq (η9 16 2) (η 16 2) := (k9.1.2.2.2.1 16 2 (by decide +kernel)).trans v117
    have v119 : zEq (η10 16 2) (η 16 2) := (k10.1.2.2.2.1 16 2 (by decide +kernel)).trans v118
    have v120 : zEq (η11 16 2) (η 16 2) := (k11.1.2.2.2.1 16 2 (by decide +kernel)).trans v119
    have v121 : zEq (η12 16 2) (η 16 2) := (k12.1.2.2.2.1 16 2 (by decide +kernel)).trans v120
    have v122 : zEq (η13 16 2) (η 16 2) := (k13.1.2.2.2.1 16 2 (by decide +kernel)).trans v121
    have v123 : zEq (η14 16 2) (η 16 2) := (k14.1.2.2.2.1 16 2 (by decide +kernel)).trans v122
    have v124 : zEq (η15 16 2) (η 16 2) := (k15.1.2.2.2.1 16 2 (by decide +kernel)).trans v123
    have v125 : zEq (η16 16 2) (η 16 2) := (k16.1.2.2.2.1 16 2 (by decide +kernel)).trans v124
    have v126 : zEq (η17 16 2) (η 16 2) := by rw [eη17]; exact (zup_ne (fun _ e => absurd e (by decide))).trans v125
    have v127 : zEq (η18 16 2) (η 16 2) := by rw [eη18]; exact (zup_ne (fun _ e => absurd e (by decide))).trans v126
    have c18_16_2 : η18 16 2 = η 16 2 := v127
    first
    | replace e25 : x25 = x22 + 1 := zd_a2 (zEq_o e25) (by clear e25; exact ⟨by omega, by omega⟩)
    | clear e25
    have z25 : x25 = 3 := by omega
    have bx26 : (0 : Int) ≤ x26 ∧ x26 ≤ 0 := k26.1.2.1
    have bx27 : (0 : Int) ≤ x27 ∧ x27 ≤ 0 := k27.1.2.1
    have bx28 : (0 : Int) ≤ x28 ∧ x28 ≤ 0 := k28.1.2.1
    have bx29 : (0 : Int) ≤ x29 ∧ x29 ≤ 0 := k29.1.2.1
    have bx30 : (0 : Int) ≤ x30 ∧ x30 ≤ 0 := k30.1.2.1
    have bx31 : (0 : Int) ≤ x31 ∧ x31 ≤ 0 := k31.1.2.1
    have fm1 : zFm zMne_keepText η η1 := by rw [eη1]; exact zFm_up zFm_rf rfl
    have fm2 : zFm zMne_keepText η η2 := by rw [eη2]; exact zFm_up fm1 rfl
    have fm3 : zFm zMne_keepText η η3 := by rw [eη3]; exact zFm_up fm2 rfl
    have fm4 : zFm zMne_keepText η η4 := by rw [eη4]; exact zFm_up fm3 rfl
    have fm5 : zFm zMne_keepText η η5 := zFm_tr2 fm4 k5.1.2.2.2.1 (by decide +kernel)
    have fm6 : zFm zMne_keepText η η6 := zFm_tr2 fm5 k6.1.2.2.2.1 (by decide +kernel)
    have fm7 : zFm zMne_keepText η η7 := zFm_tr2 fm6 k7.1.2.2.2.1 (by decide +kernel)
    have fm8 : zFm zMne_keepText η η8 := zFm_tr2 fm7 k8.1.2.2.2.1 (by decide +kernel)
    have fm9 : zFm zMne_keepText η η9 := zFm_tr2 fm8 k9.1.2.2.2.1 (by decide +kernel)
    have fm10 : zFm zMne_keepText η η10 := zFm_tr2 fm9 k10.1.2.2.2.1 (by decide +kernel)
    have fm11 : zFm zMne_keepText η η11 := zFm_tr2 fm10 k11.1.2.2.2.1 (by decide +kernel)
    have fm12 : zFm zMne_keepText η η12 := zFm_tr2 fm11 k12.1.2.2.2.1 (by decide +kernel)
    have fm13 : zFm zMne_keepText η η13 := zFm_tr2 fm12 k13.1.2.2.2.1 (by decide +kernel)
    have fm14 : zFm zMne_keepText η η14 := zFm_tr2 fm13 k14.1.2.2.2.1 (by decide +kernel)
    have fm15 : zFm zMne_keepText η η15 := zFm_tr2 fm14 k15.1.2.2.2.1 (by decide +kernel)
    have fm16 : zFm zMne_keepText η η16 := zFm_tr2 fm15 k16.1.2.2.2.1 (by decide +kernel)
    have fm17 : zFm zMne_keepText η η17 := by rw [eη17]; exact zFm_up fm16 rfl
    have fm18 : zFm zMne_keepText η η18 := by rw [eη18]; exact zFm_up fm17 rfl
    have fm19 : zFm zMne_keepText η η19 := by rw [eη19]; exact zFm_up fm18 rfl
    have fm20 : zFm zMne_keepText η η20 := zFm_tr2 fm19 k26.1.2.2.2.1 (by decide +kernel)
    have fm21 : zFm zMne_keepText η η21 := zFm_tr2 fm20 k27.1.2.2.2.1 (by decide +kernel)
    have fm22 : zFm zMne_keepText η η22 := zFm_tr2 fm21 k28.1.2.2.2.1 (by decide +kernel)
    have fm23 : zFm zMne_keepText η η23 := zFm_tr2 fm22 k29.1.2.2.2.1 (by decide +kernel)
    have fm24 : zFm zMne_keepText η η24 := zFm_tr2 fm23 k30.1.2.2.2.1 (by decide +kernel)
    have fm25 : zFm zMne_keepText η η25 := zFm_tr2 fm24 k31.1.2.2.2.1 (by decide +kernel)
    have fmE : zFm zMne_keepText η η25 := fm25
    have fr4_0 : ∀ j, η 4 j = η 4 j := fun _ => rfl
    have v128 : ∀ j, η1 4 j = η 4 j := fun j => by rw [eη1]; exact zup_ne (fun e _ => absurd e (by decide))
    have fr4_1 : ∀ j, η1 4 j = η 4 j := v128
    have v129 : ∀ j, η2 4 j = η 4 j := fun j => by rw [eη2]; exact (zup_ne (fun e _ => absurd e (by decide))).trans (v128 j)
    have fr4_2 : ∀ j, η2 4 j = η 4 j := v129
    have v130 : ∀ j, η3 4 j = η 4 j := fun j => by rw [eη3]; exact (zup_ne (fun e _ => absurd e (by decide))).trans (v129 j)
    have fr4_3 : ∀ j, η3 4 j = η 4 j := v130
    have v131 : ∀ j, η4 4 j = η 4 j := fun j => by rw [eη4]; exact (zup_ne (fun e _ => absurd e (by decide))).trans (v130 j)
    have fr4_4 : ∀ j, η4 4 j = η 4 j := v131
    have fr4_5 : ∀ j, η5 4 j = η5 4 j := fun _ => rfl
    have v133 : ∀ j, η6 4 j = η5 4 j := fun j => k6.1.2.2.2.1 4 _ (zinr_not (by decide +kernel))
    have fr4_6 : ∀ j, η6 4 j = η5 4 j := v133
    have v134 : ∀ j, η7 4 j = η5 4 j := fun j => (k7.1.2.2.2.1 4 _ (zinr_not (by decide +kernel))).trans (v133 j)
    have fr4_7 : ∀ j, η7 4 j = η5 4 j := v134
    have v135 : ∀ j, η8 4 j = η5 4 j := fun j => (k8.1.2.2.2.1 4 _ (zinr_not (by decide +kernel))).trans (v134 j)
    have fr4_8 : ∀ j, η8 4 j = η5 4 j := v135
    have v136 : ∀ j, η9 4 j = η5 4 j := fun j => (k9.1.2.2.2.1 4 _ (zinr_not (by decide +kernel))).trans (v135 j)
    have fr4_9 : ∀ j, η9 4 j = η5 4 j := v136
    have v137 : ∀ j, η10 4 j = η5 4 j := fun j => (k10.1.2.2.2.1 4 _ (zinr_not (by decide +kernel))).trans (v136 j)
    have fr4_10 : ∀ j, η10 4 j = η5 4 j := v137
    have v138 : ∀ j, η11 4 j = η5 4 j := fun j => (k11.1.2.2.2.1 4 _ (zinr_not (by decide +kernel))).trans (v137 j)
    have fr4_11 : ∀ j, η11 4 j = η5 4 j := v138
    have v139 : ∀ j, η12 4 j = η5 4 j := fun j => (k12.1.2.2.2.1 4 _ (zinr_not (by decide +kernel))).trans (v138 j)
    have fr4_12 : ∀ j, η12 4 j = η5 4 j := v139
    have v140 : ∀ j, η13 4 j = η5 4 j := fun j => (k13.1.2.2.2.1 4 _ (zinr_not (by decide +kernel))).trans (v139 j)
    have fr4_13 : ∀ j, η13 4 j = η5 4 j := v140
    have v141 : ∀ j, η14 4 j = η5 4 j := fun j => (k14.1.2.2.2.1 4 _ (zinr_not (by decide +kernel))).trans (v140 j)
    have fr4_14 : ∀ j, η14 4 j = η5 4 j := v141
    have v142 : ∀ j, η15 4 j = η5 4 j := fun j => (k15.1.2.2.2.1 4 _ (zinr_not (by decide +kernel))).trans (v141 j)
    have fr4_15 : ∀ j, η15 4 j = η5 4 j := v142
    have v143 : ∀ j, η16 4 j = η5 4 j := fun j => (k16.1.2.2.2.1 4 _ (zinr_not (by decide +kernel))).trans (v142 j)
    have fr4_16 : ∀ j, η16 4 j = η5 4 j := v143
    have v144 : ∀ j, η17 4 j = η5 4 j := fun j => by rw [eη17]; exact (zup_ne (fun e _ => absurd e (by decide))).trans (v143 j)
    have fr4_17 : ∀ j, η17 4 j = η5 4 j := v144
    have v145 : ∀ j, η18 4 j = η5 4 j := fun j => by rw [eη18]; exact (zup_ne (fun e _ => absurd e (by decide))).trans (v144 j)
    have fr4_18 : ∀ j, η18 4 j = η5 4 j := v145
    have v146 : ∀ j, η19 4 j = η5 4 j := fun j => by rw [eη19]; exact (zup_ne (fun e _ => absurd e (by decide))).trans (v145 j)
    have fr4_19 : ∀ j, η19 4 j = η5 4 j := v146
    have v147 : ∀ j, η20 4 j = η5 4 j := fun j => (k26.1.2.2.2.1 4 _ (zinr_not (by decide +kernel))).trans (v146 j)
    have fr4_20 : ∀ j, η20 4 j = η5 4 j := v147
    have v148 : ∀ j, η21 4 j = η5 4 j := fun j => (k27.1.2.2.2.1 4 _ (zinr_not (by decide +kernel))).trans (v147 j)
    have fr4_21 : ∀ j, η21 4 j = η5 4 j := v148
    have v149 : ∀ j, η22 4 j = η5 4 j := fun j => (k28.1.2.2.2.1 4 _ (zinr_not (by decide +kernel))).trans (v148 j)
    have fr4_22 : ∀ j, η22 4 j = η5 4 j := v149
    have v150 : ∀ j, η23 4 j = η5 4 j := fun j => (k29.1.2.2.2.1 4 _ (zinr_not (by decide +kernel))).trans (v149 j)
    have fr4_23 : ∀ j, η23 4 j = η5 4 j := v150
    have v151 : ∀ j, η24 4 j = η5 4 j := fun j => (k30.1.2.2.2.1 4 _ (zinr_not (by decide +kernel))).trans (v150 j)
    have fr4_24 : ∀ j, η24 4 j = η5 4 j := v151
    have v152 : ∀ j, η25 4 j = η5 4 j := fun j => (k31.1.2.2.2.1 4 _ (zinr_not (by decide +kernel))).trans (v151 j)
    have fr4_25 : ∀ j, η25 4 j = η5 4 j := v152
    have fr5_0 : ∀ j, η 5 j = η 5 j := fun _ => rfl
    have v153 : ∀ j, η1 5 j = η 5 j := fun j => by rw [eη1]; exact zup_ne (fun e _ => absurd e (by decide))
    have fr5_1 : ∀ j, η1 5 j = η 5 j := v153
    have v154 : ∀ j, η2 5 j = η 5 j := fun j => by rw [eη2]; exact (zup_ne (fun e _ => absurd e (by decide))).trans (v153 j)
    have fr5_2 : ∀ j, η2 5 j = η 5 j := v154
    have v155 : ∀ j, η3 5 j = η 5 j := fun j => by rw [eη3]; exact (zup_ne (fun e _ => absurd e (by decide))).trans (v154 j)
    have fr5_3 : ∀ j, η3 5 j = η 5 j := v155
    have v156 : ∀ j, η4 5 j = η 5 j := fun j => by rw [eη4]; exact (zup_ne (fun e _ => absurd e (by decide))).trans (v155 j)
    have fr5_4 : ∀ j, η4 5 j = η 5 j := v156
    have v157 : ∀ j, η5 5 j = η 5 j := fun j => (k5.1.2.2.2.1 5 _ (zinr_not (by decide +kernel))).trans (v156 j)
    have fr5_5 : ∀ j, η5 5 j = η 5 j := v157
    have fr5_6 : ∀ j, η6 5 j = η6 5 j := fun _ => rfl
    have v159 : ∀ j, η7 5 j = η6 5 j := fun j => k7.1.2.2.2.1 5 _ (zinr_not (by decide +kernel))
    have fr5_7 : ∀ j, η7 5 j = η6 5 j := v159
    have v160 : ∀ j, η8 5 j = η6 5 j := fun j => (k8.1.2.2.2.1 5 _ (zinr_not (by decide +kernel))).trans (v159 j)
    have fr5_8 : ∀ j, η8 5 j = η6 5 j := v160
    have v161 : ∀ j, η9 5 j = η6 5 j := fun j => (k9.1.2.2.2.1 5 _ (zinr_not (by decide +kernel))).trans (v160 j)
    have fr5_9 : ∀ j, η9 5 j = η6 5 j := v161
    have v162 : ∀ j, η10 5 j = η6 5 j := fun j => (k10.1.2.2.2.1 5 _ (zinr_not (by decide +kernel))).trans (v161 j)
    have fr5_10 : ∀ j, η10 5 j = η6 5 j := v162
    have v163 : ∀ j, η11 5 j = η6 5 j := fun j => (k11.1.2.2.2.1 5 _ (zinr_not (by decide +kernel))).trans (v162 j)
    have fr5_11 : ∀ j, η11 5 j = η6 5 j := v163
    have v164 : ∀ j, η12 5 j = η6 5 j := fun j => (k12.1.2.2.2.1 5 _ (zinr_not (by decide +kernel))).trans (v163 j)
    have fr5_12 : ∀ j, η12 5 j = η6 5 j := v164
    have v165 : ∀ j, η13 5 j = η6 5 j := fun j => (k13.1.2.2.2.1 5 _ (zinr_not (by decide +kernel))).trans (v164 j)
    have fr5_13 : ∀ j, η13 5 j = η6 5 j := v165
    have v166 : ∀ j, η14 5 j = η6 5 j := fun j => (k14.1.2.2.2.1 5 _ (zinr_not (by decide +kernel))).trans (v165 j)
    have fr5_14 : ∀ j, η14 5 j = η6 5 j := v166
    have v167 : ∀ j, η15 5 j = η6 5 j := fun j => (k15.1.2.2.2.1 5 _ (zinr_not (by decide +kernel))).trans (v166 j)
    have fr5_15 : ∀ j, η15 5 j = η6 5 j := v167
    have v168 : ∀ j, η16 5 j = η6 5 j := fun j => (k16.1.2.2.2.1 5 _ (zinr_not (by decide +kernel))).trans (v167 j)
    have fr5_16 : ∀ j, η16 5 j = η6 5 j := v168
    have v169 : ∀ j, η17 5 j = η6 5 j := fun j => by rw [eη17]; exact (zup_ne (fun e _ => absurd e (by decide))).trans (v168 j)
    have fr5_17 : ∀ j, η17 5 j = η6 5 j := v169
    have v170 : ∀ j, η18 5 j = η6 5 j := fun j => by rw [eη18]; exact (zup_ne (fun e _ => absurd e (by decide))).trans (v169 j)
    have fr5_18 : ∀ j, η18 5 j = η6 5 j := v170
    have v171 : ∀ j, η19 5 j = η6 5 j := fun j => by rw [eη19]; exact (zup_ne (fun e _ => absurd e (by decide))).trans (v170 j)
    have fr5_19 : ∀ j, η19 5 j = η6 5 j := v171
    have v172 : ∀ j, η20 5 j = η6 5 j := fun j => (k26.1.2.2.2.1 5 _ (zinr_not (by decide +kernel))).trans (v171 j)
    have fr5_20 : ∀ j, η20 5 j = η6 5 j := v172
    have v173 : ∀ j, η21 5 j = η6 5 j := fun j => (k27.1.2.2.2.1 5 _ (zinr_not (by decide +kernel))).trans (v172 j)
    have fr5_21 : ∀ j, η21 5 j = η6 5 j := v173
    have v174 : ∀ j, η22 5 j = η6 5 j := fun j => (k28.1.2.2.2.1 5 _ (zinr_not (by decide +kernel))).trans (v173 j)
    have fr5_22 : ∀ j, η22 5 j = η6 5 j := v174
    have v175 : ∀ j, η23 5 j = η6 5 j := fun j => (k29.1.2.2.2.1 5 _ (zinr_not (by decide +kernel))).trans (v174 j)
    have fr5_23 : ∀ j, η23 5 j = η6 5 j := v175
    have v176 : ∀ j, η24 5 j = η6 5 j := fun j => (k30.1.2.2.2.1 5 _ (zinr_not (by decide +kernel))).trans (v175 j)
    have fr5_24 : ∀ j, η24 5 j = η6 5 j := v176
    have v177 : ∀ j, η25 5 j = η6 5 j := fun j => (k31.1.2.2.2.1 5 _ (zinr_not (by decide +kernel))).trans (v176 j)
    have fr5_25 : ∀ j, η25 5 j = η6 5 j := v177
    have fr6_0 : ∀ j, η 6 j = η 6 j := fun _ => rfl
    have v178 : ∀ j, η1 6 j = η 6 j := fun j => by rw [eη1]; exact zup_ne (fun e _ => absurd e (by decide))
    have fr6_1 : ∀ j, η1 6 j = η 6 j := v178
    have v179 : ∀ j, η2 6 j = η 6 j := fun j => by rw [eη2]; exact (zup_ne (fun e _ => absurd e (by decide))).trans (v178 j)
    have fr6_2 : ∀ j, η2 6 j = η 6 j := v179
    have v180 : ∀ j, η3 6 j = η 6 j := fun j => by rw [eη3]; exact (zup_ne (fun e _ => absurd e (by decide))).trans (v179 j)
    have fr6_3 : ∀ j, η3 6 j = η 6 j := v180
    have v181 : ∀ j, η4 6 j = η 6 j := fun j => by rw [eη4]; exact (zup_ne (fun e _ => absurd e (by decide))).trans (v180 j)
    have fr6_4 : ∀ j, η4 6 j = η 6 j := v181
    have v182 : ∀ j, η5 6 j = η 6 j := fun j => (k5.1.2.2.2.1 6 _ (zinr_not (by decide +kernel))).trans (v181 j)
    have fr6_5 : ∀ j, η5 6 j = η 6 j := v182
    have v183 : ∀ j, η6 6 j = η 6 j := fun j => (k6.1.2.2.2.1 6 _ (zinr_not (by decide +kernel))).trans (v182 j)
    have fr6_6 : ∀ j, η6 6 j = η 6 j := v183
    have fr6_7 : ∀ j, η7 6 j = η7 6 j := fun _ => rfl
    have v185 : ∀ j, η8 6 j = η7 6 j := fun j => k8.1.2.2.2.1 6 _ (zinr_not (by decide +kernel))
    have fr6_8 : ∀ j, η8 6 j = η7 6 j := v185
    have v186 : ∀ j, η9 6 j = η7 6 j := fun j => (k9.1.2.2.2.1 6 _ (zinr_not (by decide +kernel))).trans (v185 j)
    have fr6_9 : ∀ j, η9 6 j = η7 6 j := v186
    have v187 : ∀ j, η10 6 j = η7 6 j := fun j => (k10.1.2.2.2.1 6 _ (zinr_not (by decide +kernel))).trans (v186 j)
    have fr6_10 : ∀ j, η10 6 j = η7 6 j := v187
    have v188 : ∀ j, η11 6 j = η7 6 j := fun j => (k11.1.2.2.2.1 6 _ (zinr_not (by decide +kernel))).trans (v187 j)
    have fr6_11 : ∀ j, η11 6 j = η7 6 j := v188
    have v189 : ∀ j, η12 6 j = η7 6 j := fun j => (k12.1.2.2.2.1 6 _ (zinr_not (by decide +kernel))).trans (v188 j)
    have fr6_12 : ∀ j, η12 6 j = η7 6 j := v189
    have v190 : ∀ j, η13 6 j = η7 6 j := fun j => (k13.1.2.2.2.1 6 _ (zinr_not (by decide +kernel))).trans (v189 j)
    have fr6_13 : ∀ j, η13 6 j = η7 6 j := v190
    have v191 : ∀ j, η14 6 j = η7 6 j := fun j => (k14.1.2.2.2.1 6 _ (zinr_not (by decide +kernel))).trans (v190 j)
    have fr6_14 : ∀ j, η14 6 j = η7 6 j := v191
    have v192 : ∀ j, η15 6 j = η7 6 j := fun j => (k15.1.2.2.2.1 6 _ (zinr_not (by decide +kernel))).trans (v191 j)
    have fr6_15 : ∀ j, η15 6 j = η7 6 j := v192
    have v193 : ∀ j, η16 6 j = η7 6 j := fun j => (k16.1.2.2.2.1 6 _ (zinr_not (by decide +kernel))).trans (v192 j)
    have fr6_16 : ∀ j, η16 6 j = η7 6 j := v193
    have v194 : ∀ j, η17 6 j = η7 6 j := fun j => by rw [eη17]; exact (zup_ne (fun e _ => absurd e (by decide))).trans (v193 j)
    have fr6_17 : ∀ j, η17 6 j = η7 6 j := v194
    have v195 : ∀ j, η18 6 j = η7 6 j := fun j => by rw [eη18]; exact (zup_ne (fun e _ => absurd e (by decide))).trans (v194 j)
    have fr6_18 : ∀ j, η18 6 j = η7 6 j := v195
    have v196 : ∀ j, η19 6 j = η7 6 j := fun j => by rw [eη19]; exact (zup_ne (fun e _ => absurd e (by decide))).trans (v195 j)
    have fr6_19 : ∀ j, η19 6 j = η7 6 j := v196
    have v197 : ∀ j, η20 6 j = η7 6 j := fun j => (k26.1.2.2.2.1 6 _ (zinr_not (by decide +kernel))).trans (v196 j)
    have fr6_20 : ∀ j, η20 6 j = η7 6 j := v197
    have v198 : ∀ j, η21 6 j = η7 6 j := fun j => (k27.1.2.2.2.1 6 _ (zinr_not (by decide +kernel))).trans (v197 j)
    have fr6_21 : ∀ j, η21 6 j = η7 6 j := v198
    have v199 : ∀ j, η22 6 j = η7 6 j := fun j => (k28.1.2.2.2.1 6 _ (zinr_not (by decide +kernel))).trans (v198 j)
    have fr6_22 : ∀ j, η22 6 j = η7 6 j := v199
    have v200 : ∀ j, η23 6 j = η7 6 j := fun j => (k29.1.2.2.2.1 6 _ (zinr_not (by decide +kernel))).trans (v199 j)
    have fr6_23 : ∀ j, η23 6 j = η7 6 j := v200
    have v201 : ∀ j, η24 6 j = η7 6 j := fun j => (k30.1.2.2.2.1 6 _ (zinr_not (by decide +kernel))).trans (v200 j)
    have fr6_24 : ∀ j, η24 6 j = η7 6 j := v201
    have v202 : ∀ j, η25 6 j = η7 6 j := fun j => (k31.1.2.2.2.1 6 _ (zinr_not (by decide +kernel))).trans (v201 j)
    have fr6_25 : ∀ j, η25 6 j = η7 6 j := v202
    have fr7_0 : ∀ j, η 7 j = η 7 j := fun _ => rfl
    have v203 : ∀ j, η1 7 j = η 7 j := fun j => by rw [eη1]; exact zup_ne (fun e _ => absurd e (by decide))
    have fr7_1 : ∀ j, η1 7 j = η 7 j := v203
    have v204 : ∀ j, η2 7 j = η 7 j := fun j => by rw [eη2]; exact (zup_ne (fun e _ => absurd e (by decide))).trans (v203 j)
    have fr7_2 : ∀ j, η2 7 j = η 7 j := v204
    have v205 : ∀ j, η3 7 j = η 7 j := fun j => by rw [eη3]; exact (zup_ne (fun e _ => absurd e (by decide))).trans (v204 j)
    have fr7_3 : ∀ j, η3 7 j = η 7 j := v205
    have v206 : ∀ j, η4 7 j = η 7 j := fun j => by rw [eη4]; exact (zup_ne (fun e _ => absurd e (by decide))).trans (v205 j)
    have fr7_4 : ∀ j, η4 7 j = η 7 j := v206
    have v207 : ∀ j, η5 7 j = η 7 j := fun j => (k5.1.2.2.2.1 7 _ (zinr_not (by decide +kernel))).trans (v206 j)
    have fr7_5 : ∀ j, η5 7 j = η 7 j := v207
    have v208 : ∀ j, η6 7 j = η 7 j := fun j => (k6.1.2.2.2.1 7 _ (zinr_not (by decide +kernel))).trans (v207 j)
    have fr7_6 : ∀ j, η6 7 j = η 7 j := v208
    have v209 : ∀ j, η7 7 j = η 7 j := fun j => (k7.1.2.2.2.1 7 _ (zinr_not (by decide +kernel))).trans (v208 j)
    have fr7_7 : ∀ j, η7 7 j = η 7 j := v209
    have fr7_8 : ∀ j, η8 7 j = η8 7 j := fun _ => rfl
    have v211 : ∀ j, η9 7 j = η8 7 j := fun j => k9.1.2.2.2.1 7 _ (zinr_not (by decide +kernel))
    have fr7_9 : ∀ j, η9 7 j = η8 7 j := v211
    have v212 : ∀ j, η10 7 j = η8 7 j := fun j => (k10.1.2.2.2.1 7 _ (zinr_not (by decide +kernel))).trans (v211 j)
    have fr7_10 : ∀ j, η10 7 j = η8 7 j := v212
    have v213 : ∀ j, η11 7 j = η8 7 j := fun j => (k11.1.2.2.2.1 7 _ (zinr_not (by decide +kernel))).trans (v212 j)
    have fr7_11 : ∀ j, η11 7 j = η8 7 j := v213
    have v214 : ∀ j, η12 7 j = η8 7 j := fun j => (k12.1.2.2.2.1 7 _ (zinr_not (by decide +kernel))).trans (v213 j)
    have fr7_12 : ∀ j, η12 7 j = η8 7 j := v214
    have v215 : ∀ j, η13 7 j = η8 7 j := fun j => (k13.1.2.2.2.1 7 _ (zinr_not (by decide +kernel))).trans (v214 j)
    have fr7_13 : ∀ j, η13 7 j = η8 7 j := v215
    have v216 : ∀ j, η14 7 j = η8 7 j := fun j => (k14.1.2.2.2.1 7 _ (zinr_not (by decide +kernel))).trans (v215 j)
    have fr7_14 : ∀ j, η14 7 j = η8 7 j := v216
    have v217 : ∀ j, η15 7 j = η8 7 j := fun j => (k15.1.2.2.2.1 7 _ (zinr_not (by decide +kernel))).trans (v216 j)
    have fr7_15 : ∀ j, η15 7 j = η8 7 j := v217
    have v218 : ∀ j, η16 7 j = η8 7 j := fun j => (k16.1.2.2.2.1 7 _ (zinr_not (by decide +kernel))).trans (v217 j)
    have fr7_16 : ∀ j, η16 7 j = η8 7 j := v218
    have v219 : ∀ j, η17 7 j = η8 7 j := fun j => by rw [eη17]; exact (zup_ne (fun e _ => absurd e (by decide))).trans (v218 j)
    have fr7_17 : ∀ j, η17 7 j = η8 7 j := v219
    have v220 : ∀ j, η18 7 j = η8 7 j := fun j => by rw [eη18]; exact (zup_ne (fun e _ => absurd e (by decide))).trans (v219 j)
    have fr7_18 : ∀ j, η18 7 j = η8 7 j := v220
    have v221 : ∀ j, η19 7 j = η8 7 j := fun j => by rw [eη19]; exact (zup_ne (fun e _ => absurd e (by decide))).trans (v220 j)
    have fr7_19 : ∀ j, η19 7 j = η8 7 j := v221
    have v222 : ∀ j, η20 7 j = η8 7 j := fun j => (k26.1.2.2.2.1 7 _ (zinr_not (by decide +kernel))).trans (v221 j)
    have fr7_20 : ∀ j, η20 7 j = η8 7 j := v222
    have v223 : ∀ j, η21 7 j = η8 7 j := fun j => (k27.1.2.2.2.1 7 _ (zinr_not (by decide +kernel))).trans (v222 j)
    have fr7_21 : ∀ j, η21 7 j = η8 7 j := v223
    have v224 : ∀ j, η22 7 j = η8 7 j := fun j => (k28.1.2.2.2.1 7 _ (zinr_not (by decide +kernel))).trans (v223 j)
    have fr7_22 : ∀ j, η22 7 j = η8 7 j := v224
    have v225 : ∀ j, η23 7 j = η8 7 j := fun j => (k29.1.2.2.2.1 7 _ (zinr_not (by decide +kernel))).trans (v224 j)
    have fr7_23 : ∀ j, η23 7 j = η8 7 j := v225
    have v226 : ∀ j, η24 7 j = η8 7 j := fun j => (k30.1.2.2.2.1 7 _ (zinr_not (by decide +kernel))).trans (v225 j)
    have fr7_24 : ∀ j, η24 7 j = η8 7 j := v226
    have v227 : ∀ j, η25 7 j = η8 7 j := fun j => (k31.1.2.2.2.1 7 _ (zinr_not (by decide +kernel))).trans (v226 j)
    have fr7_25 : ∀ j, η25 7 j = η8 7 j := v227
    have fr8_0 : ∀ j, η 8 j = η 8 j := fun _ => rfl
    have v228 : ∀ j, η1 8 j = η 8 j := fun j => by rw [eη1]; exact zup_ne (fun e _ => absurd e (by decide))
    have fr8_1 : ∀ j, η1 8 j = η 8 j := v228
    have v229 : ∀ j, η2 8 j = η 8 j := fun j => by rw [eη2]; exact (zup_ne (fun e _ => absurd e (by decide))).trans (v228 j)
    have fr8_2 : ∀ j, η2 8 j = η 8 j := v229
    have v230 : ∀ j, η3 8 j = η 8 j := fun j => by rw [eη3]; exact (zup_ne (fun e _ => absurd e (by decide))).trans (v229 j)
    have fr8_3 : ∀ j, η3 8 j = η 8 j := v230
    have v231 : ∀ j, η4 8 j = η 8 j := fun j => by rw [eη4]; exact (zup_ne (fun e _ => absurd e (by decide))).trans (v230 j)
    have fr8_4 : ∀ j, η4 8 j = η 8 j := v231
    have v232 : ∀ j, η5 8 j = η 8 j := fun j => (k5.1.2.2.2.1 8 _ (zinr_not (by decide +kernel))).trans (v231 j)
    have fr8_5 : ∀ j, η5 8 j = η 8 j := v232
    have v233 : ∀ j, η6 8 j = η 8 j := fun j => (k6.1.2.2.2.1 8 _ (zinr_not (by decide +kernel))).trans (v232 j)
    have fr8_6 : ∀ j, η6 8 j = η 8 j := v233
    have v234 : ∀ j, η7 8 j = η 8 j := fun j => (k7.1.2.2.2.1 8 _ (zinr_not (by decide +kernel))).trans (v233 j)
    have fr8_7 : ∀ j, η7 8 j = η 8 j := v234
    have v235 : ∀ j, η8 8 j = η 8 j := fun j => (k8.1.2.2.2.1 8 _ (zinr_not (by decide +kernel))).trans (v234 j)
    have fr8_8 : ∀ j, η8 8 j = η 8 j := v235
    have fr8_9 : ∀ j, η9 8 j = η9 8 j := fun _ => rfl
    have v237 : ∀ j, η10 8 j = η9 8 j := fun j => k10.1.2.2.2.1 8 _ (zinr_not (by decide +kernel))
    have fr8_10 : ∀ j, η10 8 j = η9 8 j := v237
    have v238 : ∀ j, η11 8 j = η9 8 j := fun j => (k11.1.2.2.2.1 8 _ (zinr_not (by decide +kernel))).trans (v237 j)
    have fr8_11 : ∀ j, η11 8 j = η9 8 j := v238
    have v239 : ∀ j, η12 8 j = η9 8 j := fun j => (k12.1.2.2.2.1 8 _ (zinr_not (by decide +kernel))).trans (v238 j)
    have fr8_12 : ∀ j, η12 8 j = η9 8 j := v239
    have v240 : ∀ j, η13 8 j = η9 8 j := fun j => (k13.1.2.2.2.1 8 _ (zinr_not (by decide +kernel))).trans (v239 j)
    have fr8_13 : ∀ j, η13 8 j = η9 8 j := v240
    have v241 : ∀ j, η14 8 j = η9 8 j := fun j => (k14.1.2.2.2.1 8 _ (zinr_not (by decide +kernel))).trans (v240 j)
    have fr8_14 : ∀ j, η14 8 j = η9 8 j := v241
    have v242 : ∀ j, η15 8 j = η9 8 j := fun j => (k15.1.2.2.2.1 8 _ (zinr_not (by decide +kernel))).trans (v241 j)
    have fr8_15 : ∀ j, η15 8 j = η9 8 j := v242
    have v243 : ∀ j, η16 8 j = η9 8 j := fun j => (k16.1.2.2.2.1 8 _ (zinr_not (by decide +kernel))).trans (v242 j)
    have fr8_16 : ∀ j, η16 8 j = η9 8 j := v243
    have v244 : ∀ j, η17 8 j = η9 8 j := fun j => by rw [eη17]; exact (zup_ne (fun e _ => absurd e (by decide))).trans (v243 j)
    have fr8_17 : ∀ j, η17 8 j = η9 8 j := v244
    have v245 : ∀ j, η18 8 j = η9 8 j := fun j => by rw [eη18]; exact (zup_ne (fun e _ => absurd e (by decide))).trans (v244 j)
    have fr8_18 : ∀ j, η18 8 j = η9 8 j := v245
    have v246 : ∀ j, η19 8 j = η9 8 j := fun j => by rw [eη19]; exact (zup_ne (fun e _ => absurd e (by decide))).trans (v245 j)
    have fr8_19 : ∀ j, η19 8 j = η9 8 j := v246
    have v247 : ∀ j, η20 8 j = η9 8 j := fun j => (k26.1.2.2.2.1 8 _ (zinr_not (by decide +kernel))).trans (v246 j)
    have fr8_20 : ∀ j, η20 8 j = η9 8 j := v247
    have v248 : ∀ j, η21 8 j = η9 8 j := fun j => (k27.1.2.2.2.1 8 _ (zinr_not (by decide +kernel))).trans (v247 j)
    have fr8_21 : ∀ j, η21 8 j = η9 8 j := v248
    have v249 : ∀ j, η22 8 j = η9 8 j := fun j => (k28.1.2.2.2.1 8 _ (zinr_not (by decide +kernel))).trans (v248 j)
    have fr8_22 : ∀ j, η22 8 j = η9 8 j := v249
    have v250 : ∀ j, η23 8 j = η9 8 j := fun j => (k29.1.2.2.2.1 8 _ (zinr_not (by decide +kernel))).trans (v249 j)
    have fr8_23 : ∀ j, η23 8 j = η9 8 j := v250
    have v251 : ∀ j, η24 8 j = η9 8 j := fun j => (k30.1.2.2.2.1 8 _ (zinr_not (by decide +kernel))).trans (v250 j)
    have fr8_24 : ∀ j, η24 8 j = η9 8 j := v251
    have v252 : ∀ j, η25 8 j = η9 8 j := fun j => (k31.1.2.2.2.1 8 _ (zinr_not (by decide +kernel))).trans (v251 j)
    have fr8_25 : ∀ j, η25 8 j = η9 8 j := v252
    have fr9_0 : ∀ j, η 9 j = η 9 j := fun _ => rfl
    have v253 : ∀ j, η1 9 j = η 9 j := fun j => by rw [eη1]; exact zup_ne (fun e _ => absurd e (by decide))
    have fr9_1 : ∀ j, η1 9 j = η 9 j := v253
    have v254 : ∀ j, η2 9 j = η 9 j := fun j => by rw [eη2]; exact (zup_ne (fun e _ => absurd e (by decide))).trans (v253 j)
    have fr9_2 : ∀ j, η2 9 j = η 9 j := v254
    have v255 : ∀ j, η3 9 j = η 9 j := fun j => by rw [eη3]; exact (zup_ne (fun e _ => absurd e (by decide))).trans (v254 j)
    have fr9_3 : ∀ j, η3 9 j = η 9 j := v255
    have v256 : ∀ j, η4 9 j = η 9 j := fun j => by rw [eη4]; exact (zup_ne (fun e _ => absurd e (by decide))).trans (v255 j)
    have fr9_4 : ∀ j, η4 9 j = η 9 j := v256
    have v257 : ∀ j, η5 9 j = η 9 j := fun j => (k5.1.2.2.2.1 9 _ (zinr_not (by decide +kernel))).trans (v256 j)
    have fr9_5 : ∀ j, η5 9 j = η 9 j := v257
    have v258 : ∀ j, η6 9 j = η 9 j := fun j => (k6.1.2.2.2.1 9 _ (zinr_not (by decide +kernel))).trans (v257 j)
    have fr9_6 : ∀ j, η6 9 j = η 9 j := v258
    have v259 : ∀ j, η7 9 j = η 9 j := fun j => (k7.1.2.2.2.1 9 _ (zinr_not (by decide +kernel))).trans (v258 j)
    have fr9_7 : ∀ j, η7 9 j = η 9 j := v259
    have v260 : ∀ j, η8 9 j = η 9 j := fun j => (k8.1.2.2.2.1 9 _ (zinr_not (by decide +kernel))).trans (v259 j)
    have fr9_8 : ∀ j, η8 9 j = η 9 j := v260
    have v261 : ∀ j, η9 9 j = η 9 j := fun j => (k9.1.2.2.2.1 9 _ (zinr_not (by decide +kernel))).trans (v260 j)
    have fr9_9 : ∀ j, η9 9 j = η 9 j := v261
    have fr9_10 : ∀ j, η10 9 j = η10 9 j := fun _ => rfl
    have v263 : ∀ j, η11 9 j = η10 9 j := fun j => k11.1.2.2.2.1 9 _ (zinr_not (by decide +kernel))
    have fr9_11 : ∀ j, η11 9 j = η10 9 j := v263
    have v264 : ∀ j, η12 9 j = η10 9 j := fun j => (k12.1.2.2.2.1 9 _ (zinr_not (by decide +kernel))).trans (v263 j)
    have fr9_12 : ∀ j, η12 9 j = η10 9 j := v264
    have v265 : ∀ j, η13 9 j = η10 9 j := fun j => (k13.1.2.2.2.1 9 _ (zinr_not (by decide +kernel))).trans (v264 j)
    have fr9_13 : ∀ j, η13 9 j = η10 9 j := v265
    have v266 : ∀ j, η14 9 j = η10 9 j := fun j => (k14.1.2.2.2.1 9 _ (zinr_not (by decide +kernel))).trans (v265 j)
    have fr9_14 : ∀ j, η14 9 j = η10 9 j := v266
    have v267 : ∀ j, η15 9 j = η10 9 j := fun j => (k15.1.2.2.2.1 9 _ (zinr_not (by decide +kernel))).trans (v266 j)
    have fr9_15 : ∀ j, η15 9 j = η10 9 j := v267
    have v268 : ∀ j, η16 9 j = η10 9 j := fun j => (k16.1.2.2.2.1 9 _ (zinr_not (by decide +kernel))).trans (v267 j)
    have fr9_16 : ∀ j, η16 9 j = η10 9 j := v268
    have v269 : ∀ j, η17 9 j = η10 9 j := fun j => by rw [eη17]; exact (zup_ne (fun e _ => absurd e (by decide))).trans (v268 j)
    have fr9_17 : ∀ j, η17 9 j = η10 9 j := v269
    have v270 : ∀ j, η18 9 j = η10 9 j := fun j => by rw [eη18]; exact (zup_ne (fun e _ => absurd e (by decide))).trans (v269 j)
    have fr9_18 : ∀ j, η18 9 j = η10 9 j := v270
    have v271 : ∀ j, η19 9 j = η10 9 j := fun j => by rw [eη19]; exact (zup_ne (fun e _ => absurd e (by decide))).trans (v270 j)
    have fr9_19 : ∀ j, η19 9 j = η10 9 j := v271
    have v272 : ∀ j, η20 9 j = η10 9 j := fun j => (k26.1.2.2.2.1 9 _ (zinr_not (by decide +kernel))).trans (v271 j)
    have fr9_20 : ∀ j, η20 9 j = η10 9 j := v272
    have v273 : ∀ j, η21 9 j = η10 9 j := fun j => (k27.1.2.2.2.1 9 _ (zinr_not (by decide +kernel))).trans (v272 j)
    have fr9_21 : ∀ j, η21 9 j = η10 9 j := v273
    have v274 : ∀ j, η22 9 j = η10 9 j := fun j => (k28.1.2.2.2.1 9 _ (zinr_not (by decide +kernel))).trans (v273 j)
    have fr9_22 : ∀ j, η22 9 j = η10 9 j := v274
    have v275 : ∀ j, η23 9 j = η10 9 j := fun j => (k29.1.2.2.2.1 9 _ (zinr_not (by decide +kernel))).trans (v274 j)
    have fr9_23 : ∀ j, η23 9 j = η10 9 j := v275
    have v276 : ∀ j, η24 9 j = η10 9 j := fun j => (k30.1.2.2.2.1 9 _ (zinr_not (by decide +kernel))).trans (v275 j)
    have fr9_24 : ∀ j, η24 9 j = η10 9 j := v276
    have v277 : ∀ j, η25 9 j = η10 9 j := fun j => (k31.1.2.2.2.1 9 _ (zinr_not (by decide +kernel))).trans (v276 j)
    have fr9_25 : ∀ j, η25 9 j = η10 9 j := v277
    have fr10_0 : ∀ j, η 10 j = η 10 j := fun _ => rfl
    have v278 : ∀ j, η1 10 j = η 10 j := fun j => by rw [eη1]; exact zup_ne (fun e _ => absurd e (by decide))
    have fr10_1 : ∀ j, η1 10 j = η 10 j := v278
    have v279 : ∀ j, η2 10 j = η 10 j := fun j => by rw [eη2]; exact (zup_ne (fun e _ => absurd e (by decide))).trans (v278 j)
    have fr10_2 : ∀ j, η2 10 j = η 10 j := v279
    have v280 : ∀ j, η3 10 j = η 10 j := fun j => by rw [eη3]; exact (zup_ne (fun e _ => absurd e (by decide))).trans (v279 j)
    have fr10_3 : ∀ j, η3 10 j = η 10 j := v280
    have v281 : ∀ j, η4 10 j = η 10 j := fun j => by rw [eη4]; exact (zup_ne (fun e _ => absurd e (by decide))).trans (v280 j)
    have fr10_4 : ∀ j, η4 10 j = η 10 j := v281
    have v282 : ∀ j, η5 10 j = η 10 j := fun j => (k5.1.2.2.2.1 10 _ (zinr_not (by decide +kernel))).trans (v281 j)
    have fr10_5 : ∀ j, η5 10 j = η 10 j := v282
    have v283 : ∀ j, η6 10 j = η 10 j := fun j => (k6.1.2.2.2.1 10 _ (zinr_not (by decide +kernel))).trans (v282 j)
    have fr10_6 : ∀ j, η6 10 j = η 10 j := v283
    have v284 : ∀ j, η7 10 j = η 10 j := fun j => (k7.1.2.2.2.1 10 _ (zinr_not (by decide +kernel))).trans (v283 j)
    have fr10_7 : ∀ j, η7 10 j = η 10 j := v284
    have v285 : ∀ j, η8 10 j = η 10 j := fun j => (k8.1.2.2.2.1 10 _ (zinr_not (by decide +kernel))).trans (v284 j)
    have fr10_8 : ∀ j, η8 10 j = η 10 j := v285
    have v286 : ∀ j, η9 10 j = η 10 j := fun j => (k9.1.2.2.2.1 10 _ (zinr_not (by decide +kernel))).trans (v285 j)
    have fr10_9 : ∀ j, η9 10 j = η 10 j := v286
    have v287 : ∀ j, η10 10 j = η 10 j := fun j => (k10.1.2.2.2.1 10 _ (zinr_not (by decide +kernel))).trans (v286 j)
    have fr10_10 : ∀ j, η10 10 j = η 10 j := v287
    have fr10_11 : ∀ j, η11 10 j = η11 10 j := fun _ => rfl
    have v289 : ∀ j, η12 10 j = η11 10 j := fun j => k12.1.2.2.2.1 10 _ (zinr_not (by decide +kernel))
    have fr10_12 : ∀ j, η12 10 j = η11 10 j := v289
    have v290 : ∀ j, η13 10 j = η11 10 j := fun j => (k13.1.2.2.2.1 10 _ (zinr_not (by decide +kernel))).trans (v289 j)
    have fr10_13 : ∀ j, η13 10 j = η11 10 j := v290
    have v291 : ∀ j, η14 10 j = η11 10 j := fun j => (k14.1.2.2.2.1 10 _ (zinr_not (by decide +kernel))).trans (v290 j)
    have fr10_14 : ∀ j, η14 10 j = η11 10 j := v291
    have v292 : ∀ j, η15 10 j = η11 10 j := fun j => (k15.1.2.2.2.1 10 _ (zinr_not (by decide +kernel))).trans (v291 j)
    have fr10_15 : ∀ j, η15 10 j = η11 10 j := v292
    have v293 : ∀ j, η16 10 j = η11 10 j := fun j => (k16.1.2.2.2.1 10 _ (zinr_not (by decide +kernel))).trans (v292 j)
    have fr10_16 : ∀ j, η16 10 j = η11 10 j := v293
    have v294 : ∀ j, η17 10 j = η11 10 j := fun j => by rw [eη17]; exact (zup_ne (fun e _ => absurd e (by decide))).trans (v293 j)
    have fr10_17 : ∀ j, η17 10 j = η11 10 j := v294
    have v295 : ∀ j, η18 10 j = η11 10 j := fun j => by rw [eη18]; exact (zup_ne (fun e _ => absurd e (by decide))).trans (v294 j)
    have fr10_18 : ∀ j, η18 10 j = η11 10 j := v295
    have v296 : ∀ j, η19 10 j = η11 10 j := fun j => by rw [eη19]; exact (zup_ne (fun e _ => absurd e (by decide))).trans (v295 j)
    have fr10_19 : ∀ j, η19 10 j = η11 10 j := v296
    have v297 : ∀ j, η20 10 j = η11 10 j := fun j => (k26.1.2.2.2.1 10 _ (zinr_not (by decide +kernel))).trans (v296 j)
    have fr10_20 : ∀ j, η20 10 j = η11 10 j := v297
    have v298 : ∀ j, η21 10 j = η11 10 j := fun j => (k27.1.2.2.2.1 10 _ (zinr_not (by decide +kernel))).trans (v297 j)
    have fr10_21 : ∀ j, η21 10 j = η11 10 j := v298
    have v299 : ∀ j, η22 10 j = η11 10 j := fun j => (k28.1.2.2.2.1 10 _ (zinr_not (by decide +kernel))).trans (v298 j)
    have fr10_22 : ∀ j, η22 10 j = η11 10 j := v299
    have v300 : ∀ j, η23 10 j = η11 10 j := fun j => (k29.1.2.2.2.1 10 _ (zinr_not (by decide +kernel))).trans (v299 j)
    have fr10_23 : ∀ j, η23 10 j = η11 10 j := v300
    have v301 : ∀ j, η24 10 j = η11 10 j := fun j => (k30.1.2.2.2.1 10 _ (zinr_not (by decide +kernel))).trans (v300 j)
    have fr10_24 : ∀ j, η24 10 j = η11 10 j := v301
    have v302 : ∀ j, η25 10 j = η11 10 j := fun j => (k31.1.2.2.2.1 10 _ (zinr_not (by decide +kernel))).trans (v301 j)
    have fr10_25 : ∀ j, η25 10 j = η11 10 j := v302
    have fr11_0 : ∀ j, η 11 j = η 11 j := fun _ => rfl
    have v303 : ∀ j, η1 11 j = η 11 j := fun j => by rw [eη1]; exact zup_ne (fun e _ => absurd e (by decide))
    have fr11_1 : ∀ j, η1 11 j = η 11 j := v303
    have v304 : ∀ j, η2 11 j = η 11 j := fun j => by rw [eη2]; exact (zup_ne (fun e _ => absurd e (by decide))).trans (v303 j)
    have fr11_2 : ∀ j, η2 11 j = η 11 j := v304
    have v305 : ∀ j, η3 11 j = η 11 j := fun j => by rw [eη3]; exact (zup_ne (fun e _ => absurd e (by decide))).trans (v304 j)
    have fr11_3 : ∀ j, η3 11 j = η 11 j := v305
    have v306 : ∀ j, η4 11 j = η 11 j := fun j => by rw [eη4]; exact (zup_ne (fun e _ => absurd e (by decide))).trans (v305 j)
    have fr11_4 : ∀ j, η4 11 j = η 11 j := v306
    have v307 : ∀ j, η5 11 j = η 11 j := fun j => (k5.1.2.2.2.1 11 _ (zinr_not (by decide +kernel))).trans (v306 j)
    have fr11_5 : ∀ j, η5 11 j = η 11 j := v307
    have v308 : ∀ j, η6 11 j = η 11 j := fun j => (k6.1.2.2.2.1 11 _ (zinr_not (by decide +kernel))).trans (v307 j)
    have fr11_6 : ∀ j, η6 11 j = η 11 j := v308
    have v309 : ∀ j, η7 11 j = η 11 j := fun j => (k7.1.2.2.2.1 11 _ (zinr_not (by decide +kernel))).trans (v308 j)
    have fr11_7 : ∀ j, η7 11 j = η 11 j := v309
    have v310 : ∀ j, η8 11 j = η 11 j := fun j => (k8.1.2.2.2.1 11 _ (zinr_not (by decide +kernel))).trans (v309 j)
    have fr11_8 : ∀ j, η8 11 j = η 11 j := v310
    have v311 : ∀ j, η9 11 j = η 11 j := fun j => (k9.1.2.2.2.1 11 _ (zinr_not (by decide +kernel))).trans (v310 j)
    have fr11_9 : ∀ j, η9 11 j = η 11 j := v311
    have v312 : ∀ j, η10 11 j = η 11 j := fun j => (k10.1.2.2.2.1 11 _ (zinr_not (by decide +kernel))).trans (v311 j)
    have fr11_10 : ∀ j, η10 11 j = η 11 j := v312
    have v313 : ∀ j, η11 11 j = η 11 j := fun j => (k11.1.2.2.2.1 11 _ (zinr_not (by decide +kernel))).trans (v312 j)
    have fr11_11 : ∀ j, η11 11 j = η 11 j := v313
    have fr11_12 : ∀ j, η12 11 j = η12 11 j := fun _ => rfl
    have v315 : ∀ j, η13 11 j = η12 11 j := fun j => k13.1.2.2.2.1 11 _ (zinr_not (by decide +kernel))
    have fr11_13 : ∀ j, η13 11 j = η12 11 j := v315
    have v316 : ∀ j, η14 11 j = η12 11 j := fun j => (k14.1.2.2.2.1 11 _ (zinr_not (by decide +kernel))).trans (v315 j)
    have fr11_14 : ∀ j, η14 11 j = η12 11 j := v316
    have v317 : ∀ j, η15 11 j = η12 11 j := fun j => (k15.1.2.2.2.1 11 _ (zinr_not (by decide +kernel))).trans (v316 j)
    have fr11_15 : ∀ j, η15 11 j = η12 11 j := v317
    have v318 : ∀ j, η16 11 j = η12 11 j := fun j => (k16.1.2.2.2.1 11 _ (zinr_not (by decide +kernel))).trans (v317 j)
    have fr11_16 : ∀ j, η16 11 j = η12 11 j := v318
    have v319 : ∀ j, η17 11 j = η12 11 j := fun j => by rw [eη17]; exact (zup_ne (fun e _ => absurd e (by decide))).trans (v318 j)
    have fr11_17 : ∀ j, η17 11 j = η12 11 j := v319
    have v320 : ∀ j, η18 11 j = η12 11 j := fun j => by rw [eη18]; exact (zup_ne (fun e _ => absurd e (by decide))).trans (v319 j)
    have fr11_18 : ∀ j, η18 11 j = η12 11 j := v320
    have v321 : ∀ j, η19 11 j = η12 11 j := fun j => by rw [eη19]; exact (zup_ne (fun e _ => absurd e (by decide))).trans (v320 j)
    have fr11_19 : ∀ j, η19 11 j = η12 11 j := v321
    have v322 : ∀ j, η20 11 j = η12 11 j := fun j => (k26.1.2.2.2.1 11 _ (zinr_not (by decide +kernel))).trans (v321 j)
    have fr11_20 : ∀ j, η20 11 j = η12 11 j := v322
    have v323 : ∀ j, η21 11 j = η12 11 j := fun j => (k27.1.2.2.2.1 11 _ (zinr_not (by decide +kernel))).trans (v322 j)
    have fr11_21 : ∀ j, η21 11 j = η12 11 j := v323
    have v324 : ∀ j, η22 11 j = η12 11 j := fun j => (k28.1.2.2.2.1 11 _ (zinr_not (by decide +kernel))).trans (v323 j)
    have fr11_22 : ∀ j, η22 11 j = η12 11 j := v324
    have v325 : ∀ j, η23 11 j = η12 11 j := fun j => (k29.1.2.2.2.1 11 _ (zinr_not (by decide +kernel))).trans (v324 j)
    have fr11_23 : ∀ j, η23 11 j = η12 11 j := v325
    have v326 : ∀ j, η24 11 j = η12 11 j := fun j => (k30.1.2.2.2.1 11 _ (zinr_not (by decide +kernel))).trans (v325 j)
    have fr11_24 : ∀ j, η24 11 j = η12 11 j := v326
    have v327 : ∀ j, η25 11 j = η12 11 j := fun j => (k31.1.2.2.2.1 11 _ (zinr_not (by decide +kernel))).trans (v326 j)
    have fr11_25 : ∀ j, η25 11 j = η12 11 j := v327
    have fr12_0 : ∀ j, η 12 j = η 12 j := fun _ => rfl
    have v328 : ∀ j, η1 12 j = η 12 j := fun j => by rw [eη1]; exact zup_ne (fun e _ => absurd e (by decide))
    have fr12_1 : ∀ j, η1 12 j = η 12 j := v328
    have v329 : ∀ j, η2 12 j = η 12 j := fun j => by rw [eη2]; exact (zup_ne (fun e _ => absurd e (by decide))).trans (v328 j)
    have fr12_2 : ∀ j, η2 12 j = η 12 j := v329
    have v330 : ∀ j, η3 12 j = η 12 j := fun j => by rw [eη3]; exact (zup_ne (fun e _ => absurd e (by decide))).trans (v329 j)
    have fr12_3 : ∀ j, η3 12 j = η 12 j := v330
    have v331 : ∀ j, η4 12 j = η 12 j := fun j => by rw [eη4]; exact (zup_ne (fun e _ => absurd e (by decide))).trans (v330 j)
    have fr12_4 : ∀ j, η4 12 j = η 12 j := v331
    have v332 : ∀ j, η5 12 j = η 12 j := fun j => (k5.1.2.2.2.1 12 _ (zinr_not (by decide +kernel))).trans (v331 j)
    have fr12_5 : ∀ j, η5 12 j = η 12 j := v332
    have v333 : ∀ j, η6 12 j = η 12 j := fun j => (k6.1.2.2.2.1 12 _ (zinr_not (by decide +kernel))).trans (v332 j)
    have fr12_6 : ∀ j, η6 12 j = η 12 j := v333
    have v334 : ∀ j, η7 12 j = η 12 j := fun j => (k7.1.2.2.2.1 12 _ (zinr_not (by decide +kernel))).trans (v333 j)
    have fr12_7 : ∀ j, η7 12 j = η 12 j := v334
    have v335 : ∀ j, η8 12 j = η 12 j := fun j => (k8.1.2.2.2.1 12 _ (zinr_not (by decide +kernel))).trans (v334 j)
    have fr12_8 : ∀ j, η8 12 j = η 12 j := v335
    have v336 : ∀ j, η9 12 j = η 12 j := fun j => (k9.1.2.2.2.1 12 _ (zinr_not (by decide +kernel))).trans (v335 j)
    have fr12_9 : ∀ j, η9 12 j = η 12 j := v336
    have v337 : ∀ j, η10 12 j = η 12 j := fun j => (k10.1.2.2.2.1 12 _ (zinr_not (by decide +kernel))).trans (v336 j)
    have fr12_10 : ∀ j, η10 12 j = η 12 j := v337
    have v338 : ∀ j, η11 12 j = η 12 j := fun j => (k11.1.2.2.2.1 12 _ (zinr_not (by decide +kernel))).trans (v337 j)
    have fr12_11 : ∀ j, η11 12 j = η 12 j := v338
    have v339 : ∀ j, η12 12 j = η 12 j := fun j => (k12.1.2.2.2.1 12 _ (zinr_not (by decide +kernel))).trans (v338 j)
    have fr12_12 : ∀ j, η12 12 j = η 12 j := v339
    have fr12_13 : ∀ j, η13 12 j = η13 12 j := fun _ => rfl
    have v341 : ∀ j, η14 12 j = η13 12 j := fun j => k14.1.2.2.2.1 12 _ (zinr_not (by decide +kernel))
    have fr12_14 : ∀ j, η14 12 j = η13 12 j := v341
    have v342 : ∀ j, η15 12 j = η13 12 j := fun j => (k15.1.2.2.2.1 12 _ (zinr_not (by decide +kernel))).trans (v341 j)
    have fr12_15 : ∀ j, η15 12 j = η13 12 j := v342
    have v343 : ∀ j, η16 12 j = η13 12 j := fun j => (k16.1.2.2.2.1 12 _ (zinr_not (by decide +kernel))).trans (v342 j)
    have fr12_16 : ∀ j, η16 12 j = η13 12 j := v343
    have v344 : ∀ j, η17 12 j = η13 12 j := fun j => by rw [eη17]; exact (zup_ne (fun e _ => absurd e (by decide))).trans (v343 j)
    have fr12_17 : ∀ j, η17 12 j = η13 12 j := v344
    have v345 : ∀ j, η18 12 j = η13 12 j := fun j => by rw [eη18]; exact (zup_ne (fun e _ => absurd e (by decide))).trans (v344 j)
    have fr12_18 : ∀ j, η18 12 j = η13 12 j := v345
    have v346 : ∀ j, η19 12 j = η13 12 j := fun j => by rw [eη19]; exact (zup_ne (fun e _ => absurd e (by decide))).trans (v345 j)
    have fr12_19 : ∀ j, η19 12 j = η13 12 j := v346
    have v347 : ∀ j, η20 12 j = η13 12 j := fun j => (k26.1.2.2.2.1 12 _ (zinr_not (by decide +kernel))).trans (v346 j)
    have fr12_20 : ∀ j, η20 12 j = η13 12 j := v347
    have v348 : ∀ j, η21 12 j = η13 12 j := fun j => (k27.1.2.2.2.1 12 _ (zinr_not (by decide +kernel))).trans (v347 j)
    have fr12_21 : ∀ j, η21 12 j = η13 12 j := v348
    have v349 : ∀ j, η22 12 j = η13 12 j := fun j => (k28.1.2.2.2.1 12 _ (zinr_not (by decide +kernel))).trans (v348 j)
    have fr12_22 : ∀ j, η22 12 j = η13 12 j := v349
    have v350 : ∀ j, η23 12 j = η13 12 j := fun j => (k29.1.2.2.2.1 12 _ (zinr_not (by decide +kernel))).trans (v349 j)
    have fr12_23 : ∀ j, η23 12 j = η13 12 j := v350
    have v351 : ∀ j, η24 12 j = η13 12 j := fun j => (k30.1.2.2.2.1 12 _ (zinr_not (by decide +kernel))).trans (v350 j)
    have fr12_24 : ∀ j, η24 12 j = η13 12 j := v351
    have v352 : ∀ j, η25 12 j = η13 12 j := fun j => (k31.1.2.2.2.1 12 _ (zinr_not (by decide +kernel))).trans (v351 j)
    have fr12_25 : ∀ j, η25 12 j = η13 12 j := v352
    have fr13_0 : ∀ j, η 13 j = η 13 j := fun _ => rfl
    have v353 : ∀ j, η1 13 j = η 13 j := fun j => by rw [eη1]; exact zup_ne (fun e _ => absurd e (by decide))
    have fr13_1 : ∀ j, η1 13 j = η 13 j := v353
    have v354 : ∀ j, η2 13 j = η 13 j := fun j => by rw [eη2]; exact (zup_ne (fun e _ => absurd e (by decide))).trans (v353 j)
    have fr13_2 : ∀ j, η2 13 j = η 13 j := v354
    have v355 : ∀ j, η3 13 j = η 13 j := fun j => by rw [eη3]; exact (zup_ne (fun e _ => absurd e (by decide))).trans (v354 j)
    have fr13_3 : ∀ j, η3 13 j = η 13 j := v355
    have v356 : ∀ j, η4 13 j = η 13 j := fun j => by rw [eη4]; exact (zup_ne (fun e _ => absurd e (by decide))).trans (v355 j)
    have fr13_4 : ∀ j, η4 13 j = η 13 j := v356
    have v357 : ∀ j, η5 13 j = η 13 j := fun j => (k5.1.2.2.2.1 13 _ (zinr_not (by decide +kernel))).trans (v356 j)
    have fr13_5 : ∀ j, η5 13 j = η 13 j := v357
    have v358 : ∀ j, η6 13 j = η 13 j := fun j => (k6.1.2.2.2.1 13 _ (zinr_not (by decide +kernel))).trans (v357 j)
    have fr13_6 : ∀ j, η6 13 j = η 13 j := v358
    have v359 : ∀ j, η7 13 j = η 13 j := fun j => (k7.1.2.2.2.1 13 _ (zinr_not (by decide +kernel))).trans (v358 j)
    have fr13_7 : ∀ j, η7 13 j = η 13 j := v359
    have v360 : ∀ j, η8 13 j = η 13 j := fun j => (k8.1.2.2.2.1 13 _ (zinr_not (by decide +kernel))).trans (v359 j)
    have fr13_8 : ∀ j, η8 13 j = η 13 j := v360
    have v361 : ∀ j, η9 13 j = η 13 j := fun j => (k9.1.2.2.2.1 13 _ (zinr_not (by decide +kernel))).trans (v360 j)
    have fr13_9 : ∀ j, η9 13 j = η 13 j := v361
    have v362 : ∀ j, η10 13 j = η 13 j := fun j => (k10.1.2.2.2.1 13 _ (zinr_not (by decide +kernel))).trans (v361 j)
    have fr13_10 : ∀ j, η10 13 j = η 13 j := v362
    have v363 : ∀ j, η11 13 j = η 13 j := fun j => (k11.1.2.2.2.1 13 _ (zinr_not (by decide +kernel))).trans (v362 j)
    have fr13_11 : ∀ j, η11 13 j = η 13 j := v363
    have v364 : ∀ j, η12 13 j = η 13 j := fun j => (k12.1.2.2.2.1 13 _ (zinr_not (by decide +kernel))).trans (v363 j)
    have fr13_12 : ∀ j, η12 13 j = η 13 j := v364
    have v365 : ∀ j, η13 13 j = η 13 j := fun j => (k13.1.2.2.2.1 13 _ (zinr_not (by decide +kernel))).trans (v364 j)
    have fr13_13 : ∀ j, η13 13 j = η 13 j := v365
    have fr13_14 : ∀ j, η14 13 j = η14 13 j := fun _ => rfl
    have v367 : ∀ j, η15 13 j = η14 13 j := fun j => k15.1.2.2.2.1 13 _ (zinr_not (by decide +kernel))
    have fr13_15 : ∀ j, η15 13 j = η14 13 j := v367
    have v368 : ∀ j, η16 13 j = η14 13 j := fun j => (k16.1.2.2.2.1 13 _ (zinr_not (by decide +kernel))).trans (v367 j)
    have fr13_16 : ∀ j, η16 13 j = η14 13 j := v368
    have v369 : ∀ j, η17 13 j = η14 13 j := fun j => by rw [eη17]; exact (zup_ne (fun e _ => absurd e (by decide))).trans (v368 j)
    have fr13_17 : ∀ j, η17 13 j = η14 13 j := v369
    have v370 : ∀ j, η18 13 j = η14 13 j := fun j => by rw [eη18]; exact (zup_ne (fun e _ => absurd e (by decide))).trans (v369 j)
    have fr13_18 : ∀ j, η18 13 j = η14 13 j := v370
    have v371 : ∀ j, η19 13 j = η14 13 j := fun j => by rw [eη19]; exact (zup_ne (fun e _ => absurd e (by decide))).trans (v370 j)
    have fr13_19 : ∀ j, η19 13 j = η14 13 j := v371
    have v372 : ∀ j, η20 13 j = η14 13 j := fun j => (k26.1.2.2.2.1 13 _ (zinr_not (by decide +kernel))).trans (v371 j)
    have fr13_20 : ∀ j, η20 13 j = η14 13 j := v372
    have v373 : ∀ j, η21 13 j = η14 13 j := fun j => (k27.1.2.2.2.1 13 _ (zinr_not (by decide +kernel))).trans (v372 j)
    have fr13_21 : ∀ j, η21 13 j = η14 13 j := v373
    have v374 : ∀ j, η22 13 j = η14 13 j := fun j => (k28.1.2.2.2.1 13 _ (zinr_not (by decide +kernel))).trans (v373 j)
    have fr13_22 : ∀ j, η22 13 j = η14 13 j := v374
    have v375 : ∀ j, η23 13 j = η14 13 j := fun j => (k29.1.2.2.2.1 13 _ (zinr_not (by decide +kernel))).trans (v374 j)
    have fr13_23 : ∀ j, η23 13 j = η14 13 j := v375
    have v376 : ∀ j, η24 13 j = η14 13 j := fun j => (k30.1.2.2.2.1 13 _ (zinr_not (by decide +kernel))).trans (v375 j)
    have fr13_24 : ∀ j, η24 13 j = η14 13 j := v376
    have v377 : ∀ j, η25 13 j = η14 13 j := fun j => (k31.1.2.2.2.1 13 _ (zinr_not (by decide +kernel))).trans (v376 j)
    have fr13_25 : ∀ j, η25 13 j = η14 13 j := v377
    have fr14_0 : ∀ j, η 14 j = η 14 j := fun _ => rfl
    have v378 : ∀ j, η1 14 j = η 14 j := fun j => by rw [eη1]; exact zup_ne (fun e _ => absurd e (by decide))
    have fr14_1 : ∀ j, η1 14 j = η 14 j := v378
    have v379 : ∀ j, η2 14 j = η 14 j := fun j => by rw [eη2]; exact (zup_ne (fun e _ => absurd e (by decide))).trans (v378 j)
    have fr14_2 : ∀ j, η2 14 j = η 14 j := v379
    have v380 : ∀ j, η3 14 j = η 14 j := fun j => by rw [eη3]; exact (zup_ne (fun e _ => absurd e (by decide))).trans (v379 j)
    have fr14_3 : ∀ j, η3 14 j = η 14 j := v380
    have v381 : ∀ j, η4 14 j = η 14 j := fun j => by rw [eη4]; exact (zup_ne (fun e _ => absurd e (by decide))).trans (v380 j)
    have fr14_4 : ∀ j, η4 14 j = η 14 j := v381
    have v382 : ∀ j, η5 14 j = η 14 j := fun j => (k5.1.2.2.2.1 14 _ (zinr_not (by decide +kernel))).trans (v381 j)
    have fr14_5 : ∀ j, η5 14 j = η 14 j := v382
    have v383 : ∀ j, η6 14 j = η 14 j := fun j => (k6.1.2.2.2.1 14 _ (zinr_not (by decide +kernel))).trans (v382 j)
    have fr14_6 : ∀ j, η6 14 j = η 14 j := v383
    have v384 : ∀ j, η7 14 j = η 14 j := fun j => (k7.1.2.2.2.1 14 _ (zinr_not (by decide +kernel))).trans (v383 j)
    have fr14_7 : ∀ j, η7 14 j = η 14 j := v384
    have v385 : ∀ j, η8 14 j = η 14 j := fun j => (k8.1.2.2.2.1 14 _ (zinr_not (by decide +kernel))).trans (v384 j)
    have fr14_8 : ∀ j, η8 14 j = η 14 j := v385
    have v386 : ∀ j, η9 14 j = η 14 j := fun j => (k9.1.2.2.2.1 14 _ (zinr_not (by decide +kernel))).trans (v385 j)
    have fr14_9 : ∀ j, η9 14 j = η 14 j := v386
    have v387 : ∀ j, η10 14 j = η 14 j := fun j => (k10.1.2.2.2.1 14 _ (zinr_not (by decide +kernel))).trans (v386 j)
    have fr14_10 : ∀ j, η10 14 j = η 14 j := v387
    have v388 : ∀ j, η11 14 j = η 14 j := fun j => (k11.1.2.2.2.1 14 _ (zinr_not (by decide +kernel))).trans (v387 j)
    have fr14_11 : ∀ j, η11 14 j = η 14 j := v388
    have v389 : ∀ j, η12 14 j = η 14 j := fun j => (k12.1.2.2.2.1 14 _ (zinr_not (by decide +kernel))).trans (v388 j)
    have fr14_12 : ∀ j, η12 14 j = η 14 j := v389
    have v390 : ∀ j, η13 14 j = η 14 j := fun j => (k13.1.2.2.2.1 14 _ (zinr_not (by decide +kernel))).trans (v389 j)
    have fr14_13 : ∀ j, η13 14 j = η 14 j := v390
    have v391 : ∀ j, η14 14 j = η 14 j := fun j => (k14.1.2.2.2.1 14 _ (zinr_not (by decide +kernel))).trans (v390 j)
    have fr14_14 : ∀ j, η14 14 j = η 14 j := v391
    have fr14_15 : ∀ j, η15 14 j = η15 14 j := fun _ => rfl
    have v393 : ∀ j, η16 14 j = η15 14 j := fun j => k16.1.2.2.2.1 14 _ (zinr_not (by decide +kernel))
    have fr14_16 : ∀ j, η16 14 j = η15 14 j := v393
    have v394 : ∀ j, η17 14 j = η15 14 j := fun j => by rw [eη17]; exact (zup_ne (fun e _ => absurd e (by decide))).trans (v393 j)
    have fr14_17 : ∀ j, η17 14 j = η15 14 j := v394
    have v395 : ∀ j, η18 14 j = η15 14 j := fun j => by rw [eη18]; exact (zup_ne (fun e _ => absurd e (by decide))).trans (v394 j)
    have fr14_18 : ∀ j, η18 14 j = η15 14 j := v395
    have v396 : ∀ j, η19 14 j = η15 14 j := fun j => by rw [eη19]; exact (zup_ne (fun e _ => absurd e (by decide))).trans (v395 j)
    have fr14_19 : ∀ j, η19 14 j = η15 14 j := v396
    have v397 : ∀ j, η20 14 j = η15 14 j := fun j => (k26.1.2.2.2.1 14 _ (zinr_not (by decide +kernel))).trans (v396 j)
    have fr14_20 : ∀ j, η20 14 j = η15 14 j := v397
    have v398 : ∀ j, η21 14 j = η15 14 j := fun j => (k27.1.2.2.2.1 14 _ (zinr_not (by decide +kernel))).trans (v397 j)
    have fr14_21 : ∀ j, η21 14 j = η15 14 j := v398
    have v399 : ∀ j, η22 14 j = η15 14 j := fun j => (k28.1.2.2.2.1 14 _ (zinr_not (by decide +kernel))).trans (v398 j)
    have fr14_22 : ∀ j, η22 14 j = η15 14 j := v399
    have v400 : ∀ j, η23 14 j = η15 14 j := fun j => (k29.1.2.2.2.1 14 _ (zinr_not (by decide +kernel))).trans (v399 j)
    have fr14_23 : ∀ j, η23 14 j = η15 14 j := v400
    have v401 : ∀ j, η24 14 j = η15 14 j := fun j => (k30.1.2.2.2.1 14 _ (zinr_not (by decide +kernel))).trans (v400 j)
    have fr14_24 : ∀ j, η24 14 j = η15 14 j := v401
    have v402 : ∀ j, η25 14 j = η15 14 j := fun j => (k31.1.2.2.2.1 14 _ (zinr_not (by decide +kernel))).trans (v401 j)
    have fr14_25 : ∀ j, η25 14 j = η15 14 j := v402
    have fr15_0 : ∀ j, η 15 j = η 15 j := fun _ => rfl
    have v403 : ∀ j, η1 15 j = η 15 j := fun j => by rw [eη1]; exact zup_ne (fun e _ => absurd e (by decide))
    have fr15_1 : ∀ j, η1 15 j = η 15 j := v403
    have v404 : ∀ j, η2 15 j = η 15 j := fun j => by rw [eη2]; exact (zup_ne (fun e _ => absurd e (by decide))).trans (v403 j)
    have fr15_2 : ∀ j, η2 15 j = η 15 j := v404
    have v405 : ∀ j, η3 15 j = η 15 j := fun j => by rw [eη3]; exact (zup_ne (fun e _ => absurd e (by decide))).trans (v404 j)
    have fr15_3 : ∀ j, η3 15 j = η 15 j := v405
    have v406 : ∀ j, η4 15 j = η 15 j := fun j => by rw [eη4]; exact (zup_ne (fun e _ => absurd e (by decide))).trans (v405 j)
    have fr15_4 : ∀ j, η4 15 j = η 15 j := v406
    have v407 : ∀ j, η5 15 j = η 15 j := fun j => (k5.1.2.2.2.1 15 _ (zinr_not (by decide +kernel))).trans (v406 j)
    have fr15_5 : ∀ j, η5 15 j = η 15 j := v407
    have v408 : ∀ j, η6 15 j = η 15 j := fun j => (k6.1.2.2.2.1 15 _ (zinr_not (by decide +kernel))).trans (v407 j)
    have fr15_6 : ∀ j, η6 15 j = η 15 j := v408
    have v409 : ∀ j, η7 15 j = η 15 j := fun j => (k7.1.2.2.2.1 15 _ (zinr_not (by decide +kernel))).trans (v408 j)
    have fr15_7 : ∀ j, η7 15 j = η 15 j := v409
    have v410 : ∀ j, η8 15 j = η 15 j := fun j => (k8.1.2.2.2.1 15 _ (zinr_not (by decide +kernel))).trans (v409 j)
    have fr15_8 : ∀ j, η8 15 j = η 15 j := v410
    have v411 : ∀ j, η9 15 j = η 15 j := fun j => (k9.1.2.2.2.1 15 _ (zinr_not (by decide +kernel))).trans (v410 j)
    have fr15_9 : ∀ j, η9 15 j = η 15 j := v411
    have v412 : ∀ j, η10 15 j = η 15 j := fun j => (k10.1.2.2.2.1 15 _ (zinr_not (by decide +kernel))).trans (v411 j)
    have fr15_10 : ∀ j, η10 15 j = η 15 j := v412
    have v413 : ∀ j, η11 15 j = η 15 j := fun j => (k11.1.2.2.2.1 15 _ (zinr_not (by decide +kernel))).trans (v412 j)
    have fr15_11 : ∀ j, η11 15 j = η 15 j := v413
    have v414 : ∀ j, η12 15 j = η 15 j := fun j => (k12.1.2.2.2.1 15 _ (zinr_not (by decide +kernel))).trans (v413 j)
    have fr15_12 : ∀ j, η12 15 j = η 15 j := v414
    have v415 : ∀ j, η13 15 j = η 15 j := fun j => (k13.1.2.2.2.1 15 _ (zinr_not (by decide +kernel))).trans (v414 j)
    have fr15_13 : ∀ j, η13 15 j = η 15 j := v415
    have v416 : ∀ j, η14 15 j = η 15 j := fun j => (k14.1.2.2.2.1 15 _ (zinr_not (by decide +kernel))).trans (v415 j)
    have fr15_14 : ∀ j, η14 15 j = η 15 j := v416
    have v417 : ∀ j, η15 15 j = η 15 j := fun j => (k15.1.2.2.2.1 15 _ (zinr_not (by decide +kernel))).trans (v416 j)
    have fr15_15 : ∀ j, η15 15 j = η 15 j := v417
    have fr15_16 : ∀ j, η16 15 j = η16 15 j := fun _ => rfl
    have v419 : ∀ j, η17 15 j = η16 15 j := fun j => by rw [eη17]; exact zup_ne (fun e _ => absurd e (by decide))
    have fr15_17 : ∀ j, η17 15 j = η16 15 j := v419
    have v420 : ∀ j, η18 15 j = η16 15 j := fun j => by rw [eη18]; exact (zup_ne (fun e _ => absurd e (by decide))).trans (v419 j)
    have fr15_18 : ∀ j, η18 15 j = η16 15 j := v420
    have v421 : ∀ j, η19 15 j = η16 15 j := fun j => by rw [eη19]; exact (zup_ne (fun e _ => absurd e (by decide))).trans (v420 j)
    have fr15_19 : ∀ j, η19 15 j = η16 15 j := v421
    have v422 : ∀ j, η20 15 j = η16 15 j := fun j => (k26.1.2.2.2.1 15 _ (zinr_not (by decide +kernel))).trans (v421 j)
    have fr15_20 : ∀ j, η20 15 j = η16 15 j := v422
    have v423 : ∀ j, η21 15 j = η16 15 j := fun j => (k27.1.2.2.2.1 15 _ (zinr_not (by decide +kernel))).trans (v422 j)
    have fr15_21 : ∀ j, η21 15 j = η16 15 j := v423
    have v424 : ∀ j, η22 15 j = η16 15 j := fun j => (k28.1.2.2.2.1 15 _ (zinr_not (by decide +kernel))).trans (v423 j)
    have fr15_22 : ∀ j, η22 15 j = η16 15 j := v424
    have v425 : ∀ j, η23 15 j = η16 15 j := fun j => (k29.1.2.2.2.1 15 _ (zinr_not (by decide +kernel))).trans (v424 j)
    have fr15_23 : ∀ j, η23 15 j = η16 15 j := v425
    have v426 : ∀ j, η24 15 j = η16 15 j := fun j => (k30.1.2.2.2.1 15 _ (zinr_not (by decide +kernel))).trans (v425 j)
    have fr15_24 : ∀ j, η24 15 j = η16 15 j := v426
    have v427 : ∀ j, η25 15 j = η16 15 j := fun j => (k31.1.2.2.2.1 15 _ (zinr_not (by decide +kernel))).trans (v426 j)
    have fr15_25 : ∀ j, η25 15 j = η16 15 j := v427
    have fr17_0 : ∀ j, η 17 j = η 17 j := fun _ => rfl
    have v428 : ∀ j, η1 17 j = η 17 j := fun j => by rw [eη1]; exact zup_ne (fun e _ => absurd e (by decide))
    have fr17_1 : ∀ j, η1 17 j = η 17 j := v428
    have v429 : ∀ j, η2 17 j = η 17 j := fun j => by rw [eη2]; exact (zup_ne (fun e _ => absurd e (by decide))).trans (v428 j)
    have fr17_2 : ∀ j, η2 17 j = η 17 j := v429
    have v430 : ∀ j, η3 17 j = η 17 j := fun j => by rw [eη3]; exact (zup_ne (fun e _ => absurd e (by decide))).trans (v429 j)
    have fr17_3 : ∀ j, η3 17 j = η 17 j := v430
    have v431 : ∀ j, η4 17 j = η 17 j := fun j => by rw [eη4]; exact (zup_ne (fun e _ => absurd e (by decide))).trans (v430 j)
    have fr17_4 : ∀ j, η4 17 j = η 17 j := v431
    have v432 : ∀ j, η5 17 j = η 17 j := fun j => (k5.1.2.2.2.1 17 _ (zinr_not (by decide +kernel))).trans (v431 j)
    have fr17_5 : ∀ j, η5 17 j = η 17 j := v432
    have v433 : ∀ j, η6 17 j = η 17 j := fun j => (k6.1.2.2.2.1 17 _ (zinr_not (by decide +kernel))).trans (v432 j)
    have fr17_6 : ∀ j, η6 17 j = η 17 j := v433
    have v434 : ∀ j, η7 17 j = η 17 j := fun j => (k7.1.2.2.2.1 17 _ (zinr_not (by decide +kernel))).trans (v433 j)
    have fr17_7 : ∀ j, η7 17 j = η 17 j := v434
    have v435 : ∀ j, η8 17 j = η 17 j := fun j => (k8.1.2.2.2.1 17 _ (zinr_not (by decide +kernel))).trans (v434 j)
    have fr17_8 : ∀ j, η8 17 j = η 17 j := v435
    have v436 : ∀ j, η9 17 j = η 17 j := fun j => (k9.1.2.2.2.1 17 _ (zinr_not (by decide +kernel))).trans (v435 j)
    have fr17_9 : ∀ j, η9 17 j = η 17 j := v436
    have v437 : ∀ j, η10 17 j = η 17 j := fun j => (k10.1.2.2.2.1 17 _ (zinr_not (by decide +kernel))).trans (v436 j)
    have fr17_10 : ∀ j, η10 17 j = η 17 j := v437
    have v438 : ∀ j, η11 17 j = η 17 j := fun j => (k11.1.2.2.2.1 17 _ (zinr_not (by decide +kernel))).trans (v437 j)
    have fr17_11 : ∀ j, η11 17 j = η 17 j := v438
    have v439 : ∀ j, η12 17 j = η 17 j := fun j => (k12.1.2.2.2.1 17 _ (zinr_not (by decide +kernel))).trans (v438 j)
    have fr17_12 : ∀ j, η12 17 j = η 17 j := v439
    have v440 : ∀ j, η13 17 j = η 17 j := fun j => (k13.1.2.2.2.1 17 _ (zinr_not (by decide +kernel))).trans (v439 j)
    have fr17_13 : ∀ j, η13 17 j = η 17 j := v440
    have v441 : ∀ j, η14 17 j = η 17 j := fun j => (k14.1.2.2.2.1 17 _ (zinr_not (by decide +kernel))).trans (v440 j)
    have fr17_14 : ∀ j, η14 17 j = η 17 j := v441
    have v442 : ∀ j, η15 17 j = η 17 j := fun j => (k15.1.2.2.2.1 17 _ (zinr_not (by decide +kernel))).trans (v441 j)
    have fr17_15 : ∀ j, η15 17 j = η 17 j := v442
    have v443 : ∀ j, η16 17 j = η 17 j := fun j => (k16.1.2.2.2.1 17 _ (zinr_not (by decide +kernel))).trans (v442 j)
    have fr17_16 : ∀ j, η16 17 j = η 17 j := v443
    have v444 : ∀ j, η17 17 j = η 17 j := fun j => by rw [eη17]; exact (zup_ne (fun e _ => absurd e (by decide))).trans (v443 j)
    have fr17_17 : ∀ j, η17 17 j = η 17 j := v444
    have v445 : ∀ j, η18 17 j = η 17 j := fun j => by rw [eη18]; exact (zup_ne (fun e _ => absurd e (by decide))).trans (v444 j)
    have fr17_18 : ∀ j, η18 17 j = η 17 j := v445
    have v446 : ∀ j, η19 17 j = η 17 j := fun j => by rw [eη19]; exact (zup_ne (fun e _ => absurd e (by decide))).trans (v445 j)
    have fr17_19 : ∀ j, η19 17 j = η 17 j := v446
    have fr17_20 : ∀ j, η20 17 j = η20 17 j := fun _ => rfl
    have v448 : ∀ j, η21 17 j = η20 17 j := fun j => k27.1.2.2.2.1 17 _ (zinr_not (by decide +kernel))
    have fr17_21 : ∀ j, η21 17 j = η20 17 j := v448
    have v449 : ∀ j, η22 17 j = η20 17 j := fun j => (k28.1.2.2.2.1 17 _ (zinr_not (by decide +kernel))).trans (v448 j)
    have fr17_22 : ∀ j, η22 17 j = η20 17 j := v449
    have v450 : ∀ j, η23 17 j = η20 17 j := fun j => (k29.1.2.2.2.1 17 _ (zinr_not (by decide +kernel))).trans (v449 j)
    have fr17_23 : ∀ j, η23 17 j = η20 17 j := v450
    have v451 : ∀ j, η24 17 j = η20 17 j := fun j => (k30.1.2.2.2.1 17 _ (zinr_not (by decide +kernel))).trans (v450 j)
    have fr17_24 : ∀ j, η24 17 j = η20 17 j := v451
    have v452 : ∀ j, η25 17 j = η20 17 j := fun j => (k31.1.2.2.2.1 17 _ (zinr_not (by decide +kernel))).trans (v451 j)
    have fr17_25 : ∀ j, η25 17 j = η20 17 j := v452
    have fr18_0 : ∀ j, η 18 j = η 18 j := fun _ => rfl
    have v453 : ∀ j, η1 18 j = η 18 j := fun j => by rw [eη1]; exact zup_ne (fun e _ => absurd e (by decide))
    have fr18_1 : ∀ j, η1 18 j = η 18 j := v453
    have v454 : ∀ j, η2 18 j = η 18 j := fun j => by rw [eη2]; exact (zup_ne (fun e _ => absurd e (by decide))).trans (v453 j)
    have fr18_2 : ∀ j, η2 18 j = η 18 j := v454
    have v455 : ∀ j, η3 18 j = η 18 j := fun j => by rw [eη3]; exact (zup_ne (fun e _ => absurd e (by decide))).trans (v454 j)
    have fr18_3 : ∀ j, η3 18 j = η 18 j := v455
    have v456 : ∀ j, η4 18 j = η 18 j := fun j => by rw [eη4]; exact (zup_ne (fun e _ => absurd e (by decide))).trans (v455 j)
    have fr18_4 : ∀ j, η4 18 j = η 18 j := v456
    have v457 : ∀ j, η5 18 j = η 18 j := fun j => (k5.1.2.2.2.1 18 _ (zinr_not (by decide +kernel))).trans (v456 j)
    have fr18_5 : ∀ j, η5 18 j = η 18 j := v457
    have v458 : ∀ j, η6 18 j = η 18 j := fun j => (k6.1.2.2.2.1 18 _ (zinr_not (by decide +kernel))).trans (v457 j)
    have fr18_6 : ∀ j, η6 18 j = η 18 j := v458
    have v459 : ∀ j, η7 18 j = η 18 j := fun j => (k7.1.2.2.2.1 18 _ (zinr_not (by decide +kernel))).trans (v458 j)
    have fr18_7 : ∀ j, η7 18 j = η 18 j := v459
    have v460 : ∀ j, η8 18 j = η 18 j := fun j => (k8.1.2.2.2.1 18 _ (zinr_not (by decide +kernel))).trans (v459 j)
    have fr18_8 : ∀ j, η8 18 j = η 18 j := v460
    have v461 : ∀ j, η9 18 j = η 18 j := fun j => (k9.1.2.2.2.1 18 _ (zinr_not (by decide +kernel))).trans (v460 j)
    have fr18_9 : ∀ j, η9 18 j = η 18 j := v461
    have v462 : ∀ j, η10 18 j = η 18 j := fun j => (k10.1.2.2.2.1 18 _ (zinr_not (by decide +kernel))).trans (v461 j)
    have fr18_10 : ∀ j, η10 18 j = η 18 j := v462
    have v463 : ∀ j, η11 18 j = η 18 j := fun j => (k11.1.2.2.2.1 18 _ (zinr_not (by decide +kernel))).trans (v462 j)
    have fr18_11 : ∀ j, η11 18 j = η 18 j := v463
    have v464 : ∀ j, η12 18 j = η 18 j := fun j => (k12.1.2.2.2.1 18 _ (zinr_not (by decide +kernel))).trans (v463 j)
    have fr18_12 : ∀ j, η12 18 j = η 18 j := v464
    have v465 : ∀ j, η13 18 j = η 18 j := fun j => (k13.1.2.2.2.1 18 _ (zinr_not (by decide +kernel))).trans (v464 j)
    have fr18_13 : ∀ j, η13 18 j = η 18 j := v465
    have v466 : ∀ j, η14 18 j = η 18 j := fun j => (k14.1.2.2.2.1 18 _ (zinr_not (by decide +kernel))).trans (v465 j)
    have fr18_14 : ∀ j, η14 18 j = η 18 j := v466
    have v467 : ∀ j, η15 18 j = η 18 j := fun j => (k15.1.2.2.2.1 18 _ (zinr_not (by decide +kernel))).trans (v466 j)
    have fr18_15 : ∀ j, η15 18 j = η 18 j := v467
    have v468 : ∀ j, η16 18 j = η 18 j := fun j => (k16.1.2.2.2.1 18 _ (zinr_not (by decide +kernel))).trans (v467 j)
    have fr18_16 : ∀ j, η16 18 j = η 18 j := v468
    have v469 : ∀ j, η17 18 j = η 18 j := fun j => by rw [eη17]; exact (zup_ne (fun e _ => absurd e (by decide))).trans (v468 j)
    have fr18_17 : ∀ j, η17 18 j = η 18 j := v469
    have v470 : ∀ j, η18 18 j = η 18 j := fun j => by rw [eη18]; exact (zup_ne (fun e _ => absurd e (by decide))).trans (v469 j)
    have fr18_18 : ∀ j, η18 18 j = η 18 j := v470
    have v471 : ∀ j, η19 18 j = η 18 j := fun j => by rw [eη19]; exact (zup_ne (fun e _ => absurd e (by decide))).trans (v470 j)
    have fr18_19 : ∀ j, η19 18 j = η 18 j := v471
    have v472 : ∀ j, η20 18 j = η 18 j := fun j => (k26.1.2.2.2.1 18 _ (zinr_not (by decide +kernel))).trans (v471 j)
    have fr18_20 : ∀ j, η20 18 j = η 18 j := v472
    have fr18_21 : ∀ j, η21 18 j = η21 18 j := fun _ => rfl
    have v474 : ∀ j, η22 18 j = η21 18 j := fun j => k28.1.2.2.2.1 18 _ (zinr_not (by decide +kernel))
    have fr18_22 : ∀ j, η22 18 j = η21 18 j := v474
    have v475 : ∀ j, η23 18 j = η21 18 j := fun j => (k29.1.2.2.2.1 18 _ (zinr_not (by decide +kernel))).trans (v474 j)
    have fr18_23 : ∀ j, η23 18 j = η21 18 j := v475
    have v476 : ∀ j, η24 18 j = η21 18 j := fun j => (k30.1.2.2.2.1 18 _ (zinr_not (by decide +kernel))).trans (v475 j)
    have fr18_24 : ∀ j, η24 18 j = η21 18 j := v476
    have v477 : ∀ j, η25 18 j = η21 18 j := fun j => (k31.1.2.2.2.1 18 _ (zinr_not (by decide +kernel))).trans (v476 j)
    have fr18_25 : ∀ j, η25 18 j = η21 18 j := v477
    have fr19_0 : ∀ j, η 19 j = η 19 j := fun _ => rfl
    have v478 : ∀ j, η1 19 j = η 19 j := fun j => by rw [eη1]; exact zup_ne (fun e _ => absurd e (by decide))
    have fr19_1 : ∀ j, η1 19 j = η 19 j := v478
    have v479 : ∀ j, η2 19 j = η 19 j := fun j => by rw [eη2]; exact (zup_ne (fun e _ => absurd e (by decide))).trans (v478 j)
    have fr19_2 : ∀ j, η2 19 j = η 19 j := v479
    have v480 : ∀ j, η3 19 j = η 19 j := fun j => by rw [eη3]; exact (zup_ne (fun e _ => absurd e (by decide))).trans (v479 j)
    have fr19_3 : ∀ j, η3 19 j = η 19 j := v480
    have v481 : ∀ j, η4 19 j = η 19 j := fun j => by rw [eη4]; exact (zup_ne (fun e _ => absurd e (by decide))).trans (v480 j)
    have fr19_4 : ∀ j, η4 19 j = η 19 j := v481
    have v482 : ∀ j, η5 19 j = η 19 j := fun j => (k5.1.2.2.2.1 19 _ (zinr_not (by decide +kernel))).trans (v481 j)
    have fr19_5 : ∀ j, η5 19 j = η 19 j := v482
    have v483 : ∀ j, η6 19 j = η 19 j := fun j => (k6.1.2.2.2.1 19 _ (zinr_not (by decide +kernel))).trans (v482 j)
    have fr19_6 : ∀ j, η6 19 j = η 19 j := v483
    have v484 : ∀ j, η7 19 j = η 19 j := fun j => (k7.1.2.2.2.1 19 _ (zinr_not (by decide +kernel))).trans (v483 j)
    have fr19_7 : ∀ j, η7 19 j = η 19 j := v484
    have v485 : ∀ j, η8 19 j = η 19 j := fun j => (k8.1.2.2.2.1 19 _ (zinr_not (by decide +kernel))).trans (v484 j)
    have fr19_8 : ∀ j, η8 19 j = η 19 j := v485
    have v486 : ∀ j, η9 19 j = η 19 j := fun j => (k9.1.2.2.2.1 19 _ (zinr_not (by decide +kernel))).trans (v485 j)
    have fr19_9 : ∀ j, η9 19 j = η 19 j := v486
    have v487 : ∀ j, η10 19 j = η 19 j := fun j => (k10.1.2.2.2.1 19 _ (zinr_not (by decide +kernel))).trans (v486 j)
    have fr19_10 : ∀ j, η10 19 j = η 19 j := v487
    have v488 : ∀ j, η11 19 j = η 19 j := fun j => (k11.1.2.2.2.1 19 _ (zinr_not (by decide +kernel))).trans (v487 j)
    have fr19_11 : ∀ j, η11 19 j = η 19 j := v488
    have v489 : ∀ j, η12 19 j = η 19 j := fun j => (k12.1.2.2.2.1 19 _ (zinr_not (by decide +kernel))).trans (v488 j)
    have fr19_12 : ∀ j, η12 19 j = η 19 j := v489
    have v490 : ∀ j, η13 19 j = η 19 j := fun j => (k13.1.2.2.2.1 19 _ (zinr_not (by decide +kernel))).trans (v489 j)
    have fr19_13 : ∀ j, η13 19 j = η 19 j := v490
    have v491 : ∀ j, η14 19 j = η 19 j := fun j => (k14.1.2.2.2.1 19 _ (zinr_not (by decide +kernel))).trans (v490 j)
    have fr19_14 : ∀ j, η14 19 j = η 19 j := v491
    have v492 : ∀ j, η15 19 j = η 19 j := fun j => (k15.1.2.2.2.1 19 _ (zinr_not (by decide +kernel))).trans (v491 j)
    have fr19_15 : ∀ j, η15 19 j = η 19 j := v492
    have v493 : ∀ j, η16 19 j = η 19 j := fun j => (k16.1.2.2.2.1 19 _ (zinr_not (by decide +kernel))).trans (v492 j)
    have fr19_16 : ∀ j, η16 19 j = η 19 j := v493
    have v494 : ∀ j, η17 19 j = η 19 j := fun j => by rw [eη17]; exact (zup_ne (fun e _ => absurd e (by decide))).trans (v493 j)
    have fr19_17 : ∀ j, η17 19 j = η 19 j := v494
    have v495 : ∀ j, η18 19 j = η 19 j := fun j => by rw [eη18]; exact (zup_ne (fun e _ => absurd e (by decide))).trans (v494 j)
    have fr19_18 : ∀ j, η18 19 j = η 19 j := v495
    have v496 : ∀ j, η19 19 j = η 19 j := fun j => by rw [eη19]; exact (zup_ne (fun e _ => absurd e (by decide))).trans (v495 j)
    have fr19_19 : ∀ j, η19 19 j = η 19 j := v496
    have v497 : ∀ j, η20 19 j = η 19 j := fun j => (k26.1.2.2.2.1 19 _ (zinr_not (by decide +kernel))).trans (v496 j)
    have fr19_20 : ∀ j, η20 19 j = η 19 j := v497
    have v498 : ∀ j, η21 19 j = η 19 j := fun j => (k27.1.2.2.2.1 19 _ (zinr_not (by decide +kernel))).trans (v497 j)
    have fr19_21 : ∀ j, η21 19 j = η 19 j := v498
    have fr19_22 : ∀ j, η22 19 j = η22 19 j := fun _ => rfl
    have v500 : ∀ j, η23 19 j = η22 19 j := fun j => k29.1.2.2.2.1 19 _ (zinr_not (by decide +kernel))
    have fr19_23 : ∀ j, η23 19 j = η22 19 j := v500
    have v501 : ∀ j, η24 19 j = η22 19 j := fun j => (k30.1.2.2.2.1 19 _ (zinr_not (by decide +kernel))).trans (v500 j)
    have fr19_24 : ∀ j, η24 19 j = η22 19 j := v501
    have v502 : ∀ j, η25 19 j = η22 19 j := fun j => (k31.1.2.2.2.1 19 _ (zinr_not (by decide +kernel))).trans (v501 j)
    have fr19_25 : ∀ j, η25 19 j = η22 19 j := v502
    have fr20_0 : ∀ j, η 20 j = η 20 j := fun _ => rfl
    have v503 : ∀ j, η1 20 j = η 20 j := fun j => by rw [eη1]; exact zup_ne (fun e _ => absurd e (by decide))
    have fr20_1 : ∀ j, η1 20 j = η 20 j := v503
    have v504 : ∀ j, η2 20 j = η 20 j := fun j => by rw [eη2]; exact (zup_ne (fun e _ => absurd e (by decide))).trans (v503 j)
    have fr20_2 : ∀ j, η2 20 j = η 20 j := v504
    have v505 : ∀ j, η3 20 j = η 20 j := fun j => by rw [eη3]; exact (zup_ne (fun e _ => absurd e (by decide))).trans (v504 j)
    have fr20_3 : ∀ j, η3 20 j = η 20 j := v505
    have v506 : ∀ j, η4 20 j = η 20 j := fun j => by rw [eη4]; exact (zup_ne (fun e _ => absurd e (by decide))).trans (v505 j)
    have fr20_4 : ∀ j, η4 20 j = η 20 j := v506
    have v507 : ∀ j, η5 20 j = η 20 j := fun j => (k5.1.2.2.2.1 20 _ (zinr_not (by decide +kernel))).trans (v506 j)
    have fr20_5 : ∀ j, η5 20 j = η 20 j := v507
    have v508 : ∀ j, η6 20 j = η 20 j := fun j => (k6.1.2.2.2.1 20 _ (zinr_not (by decide +kernel))).trans (v507 j)
    have fr20_6 : ∀ j, η6 20 j = η 20 j := v508
    have v509 : ∀ j, η7 20 j = η 20 j := fun j => (k7.1.2.2.2.1 20 _ (zinr_not (by decide +kernel))).trans (v508 j)
    have fr20_7 : ∀ j, η7 20 j = η 20 j := v509
    have v510 : ∀ j, η8 20 j = η 20 j := fun j => (k8.1.2.2.2.1 20 _ (zinr_not (by decide +kernel))).trans (v509 j)
    have fr20_8 : ∀ j, η8 20 j = η 20 j := v510
    have v511 : ∀ j, η9 20 j = η 20 j := fun j => (k9.1.2.2.2.1 20 _ (zinr_not (by decide +kernel))).trans (v510 j)
    have fr20_9 : ∀ j, η9 20 j = η 20 j := v511
    have v512 : ∀ j, η10 20 j = η 20 j := fun j => (k10.1.2.2.2.1 20 _ (zinr_not (by decide +kernel))).trans (v511 j)
    have fr20_10 : ∀ j, η10 20 j = η 20 j := v512
    have v513 : ∀ j, η11 20 j = η 20 j := fun j => (k11.1.2.2.2.1 20 _ (zinr_not (by decide +kernel))).trans (v512 j)
    have fr20_11 : ∀ j, η11 20 j = η 20 j := v513
    have v514 : ∀ j, η12 20 j = η 20 j := fun j => (k12.1.2.2.2.1 20 _ (zinr_not (by decide +kernel))).trans (v513 j)
    have fr20_12 : ∀ j, η12 20 j = η 20 j := v514
    have v515 : ∀ j, η13 20 j = η 20 j := fun j => (k13.1.2.2.2.1 20 _ (zinr_not (by decide +kernel))).trans (v514 j)
    have fr20_13 : ∀ j, η13 20 j = η 20 j := v515
    have v516 : ∀ j, η14 20 j = η 20 j := fun j => (k14.1.2.2.2.1 20 _ (zinr_not (by decide +kernel))).trans (v515 j)
    have fr20_14 : ∀ j, η14 20 j = η 20 j := v516
    have v517 : ∀ j, η15 20 j = η 20 j := fun j => (k15.1.2.2.2.1 20 _ (zinr_not (by decide +kernel))).trans (v516 j)
    have fr20_15 : ∀ j, η15 20 j = η 20 j := v517
    have v518 : ∀ j, η16 20 j = η 20 j := fun j => (k16.1.2.2.2.1 20 _ (zinr_not (by decide +kernel))).trans (v517 j)
    have fr20_16 : ∀ j, η16 20 j = η 20 j := v518
    have v519 : ∀ j, η17 20 j = η 20 j := fun j => by rw [eη17]; exact (zup_ne (fun e _ => absurd e (by decide))).trans (v518 j)
    have fr20_17 : ∀ j, η17 20 j = η 20 j := v519
    have v520 : ∀ j, η18 20 j = η 20 j := fun j => by rw [eη18]; exact (zup_ne (fun e _ => absurd e (by decide))).trans (v519 j)
    have fr20_18 : ∀ j, η18 20 j = η 20 j := v520
    have v521 : ∀ j, η19 20 j = η 20 j := fun j => by rw [eη19]; exact (zup_ne (fun e _ => absurd e (by decide))).trans (v520 j)
    have fr20_19 : ∀ j, η19 20 j = η 20 j := v521
    have v522 : ∀ j, η20 20 j = η 20 j := fun j => (k26.1.2.2.2.1 20 _ (zinr_not (by decide +kernel))).trans (v521 j)
    have fr20_20 : ∀ j, η20 20 j = η 20 j := v522
    have v523 : ∀ j, η21 20 j = η 20 j := fun j => (k27.1.2.2.2.1 20 _ (zinr_not (by decide +kernel))).trans (v522 j)
    have fr20_21 : ∀ j, η21 20 j = η 20 j := v523
    have v524 : ∀ j, η22 20 j = η 20 j := fun j => (k28.1.2.2.2.1 20 _ (zinr_not (by decide +kernel))).trans (v523 j)
    have fr20_22 : ∀ j, η22 20 j = η 20 j := v524
    have fr20_23 : ∀ j, η23 20 j = η23 20 j := fun _ => rfl
    have v526 : ∀ j, η24 20 j = η23 20 j := fun j => k30.1.2.2.2.1 20 _ (zinr_not (by decide +kernel))
    have fr20_24 : ∀ j, η24 20 j = η23 20 j := v526
    have v527 : ∀ j, η25 20 j = η23 20 j := fun j => (k31.1.2.2.2.1 20 _ (zinr_not (by decide +kernel))).trans (v526 j)
    have fr20_25 : ∀ j, η25 20 j = η23 20 j := v527
    have fr21_0 : ∀ j, η 21 j = η 21 j := fun _ => rfl
    have v528 : ∀ j, η1 21 j = η 21 j := fun j => by rw [eη1]; exact zup_ne (fun e _ => absurd e (by decide))
    have fr21_1 : ∀ j, η1 21 j = η 21 j := v528
    have v529 : ∀ j, η2 21 j = η 21 j := fun j => by rw [eη2]; exact (zup_ne (fun e _ => absurd e (by decide))).trans (v528 j)
    have fr21_2 : ∀ j, η2 21 j = η 21 j := v529
    have v530 : ∀ j, η3 21 j = η 21 j := fun j => by rw [eη3]; exact (zup_ne (fun e _ => absurd e (by decide))).trans (v529 j)
    have fr21_3 : ∀ j, η3 21 j = η 21 j := v530
    have v531 : ∀ j, η4 21 j = η 21 j := fun j => by rw [eη4]; exact (zup_ne (fun e _ => absurd e (by decide))).trans (v530 j)
    have fr21_4 : ∀ j, η4 21 j = η 21 j := v531
    have v532 : ∀ j, η5 21 j = η 21 j := fun j => (k5.1.2.2.2.1 21 _ (zinr_not (by decide +kernel))).trans (v531 j)
    have fr21_5 : ∀ j, η5 21 j = η 21 j := v532
    have v533 : ∀ j, η6 21 j = η 21 j := fun j => (k6.1.2.2.2.1 21 _ (zinr_not (by decide +kernel))).trans (v532 j)
    have fr21_6 : ∀ j, η6 21 j = η 21 j := v533
    have v534 : ∀ j, η7 21 j = η 21 j := fun j => (k7.1.2.2.2.1 21 _ (zinr_not (by decide +kernel))).trans (v533 j)
    have fr21_7 : ∀ j, η7 21 j = η 21 j := v534
    have v535 : ∀ j, η8 21 j = η 21 j := fun j => (k8.1.2.2.2.1 21 _ (zinr_not (by decide +kernel))).trans (v534 j)
    have fr21_8 : ∀ j, η8 21 j = η 21 j := v535
    have v536 : ∀ j, η9 21 j = η 21 j := fun j => (k9.1.2.2.2.1 21 _ (zinr_not (by decide +kernel))).trans (v535 j)
    have fr21_9 : ∀ j, η9 21 j = η 21 j := v536
    have v537 : ∀ j, η10 21 j = η 21 j := fun j => (k10.1.2.2.2.1 21 _ (zinr_not (by decide +kernel))).trans (v536 j)
    have fr21_10 : ∀ j, η10 21 j = η 21 j := v537
    have v538 : ∀ j, η11 21 j = η 21 j := fun j => (k11.1.2.2.2.1 21 _ (zinr_not (by decide +kernel))).trans (v537 j)
    have fr21_11 : ∀ j, η11 21 j = η 21 j := v538
    have v539 : ∀ j, η12 21 j = η 21 j := fun j => (k12.1.2.2.2.1 21 _ (zinr_not (by decide +kernel))).trans (v538 j)
    have fr21_12 : ∀ j, η12 21 j = η 21 j := v539
    have v540 : ∀ j, η13 21 j = η 21 j := fun j => (k13.1.2.2.2.1 21 _ (zinr_not (by decide +kernel))).trans (v539 j)
    have fr21_13 : ∀ j, η13 21 j = η 21 j := v540
    have v541 : ∀ j, η14 21 j = η 21 j := fun j => (k14.1.2.2.2.1 21 _ (zinr_not (by decide +kernel))).trans (v540 j)
    have fr21_14 : ∀ j, η14 21 j = η 21 j := v541
    have v542 : ∀ j, η15 21 j = η 21 j := fun j => (k15.1.2.2.2.1 21 _ (zinr_not (by decide +kernel))).trans (v541 j)
    have fr21_15 : ∀ j, η15 21 j = η 21 j := v542
    have v543 : ∀ j, η16 21 j = η 21 j := fun j => (k16.1.2.2.2.1 21 _ (zinr_not (by decide +kernel))).trans (v542 j)
    have fr21_16 : ∀ j, η16 21 j = η 21 j := v543
    have v544 : ∀ j, η17 21 j = η 21 j := fun j => by rw [eη17]; exact (zup_ne (fun e _ => absurd e (by decide))).trans (v543 j)
    have fr21_17 : ∀ j, η17 21 j = η 21 j := v544
    have v545 : ∀ j, η18 21 j = η 21 j := fun j => by rw [eη18]; exact (zup_ne (fun e _ => absurd e (by decide))).trans (v544 j)
    have fr21_18 : ∀ j, η18 21 j = η 21 j := v545
    have v546 : ∀ j, η19 21 j = η 21 j := fun j => by rw [eη19]; exact (zup_ne (fun e _ => absurd e (by decide))).trans (v545 j)
    have fr21_19 : ∀ j, η19 21 j = η 21 j := v546
    have v547 : ∀ j, η20 21 j = η 21 j := fun j => (k26.1.2.2.2.1 21 _ (zinr_not (by decide +kernel))).trans (v546 j)
    have fr21_20 : ∀ j, η20 21 j = η 21 j := v547
    have v548 : ∀ j, η21 21 j = η 21 j := fun j => (k27.1.2.2.2.1 21 _ (zinr_not (by decide +kernel))).trans (v547 j)
    have fr21_21 : ∀ j, η21 21 j = η 21 j := v548
    have v549 : ∀ j, η22 21 j = η 21 j := fun j => (k28.1.2.2.2.1 21 _ (zinr_not (by decide +kernel))).trans (v548 j)
    have fr21_22 : ∀ j, η22 21 j = η 21 j := v549
    have v550 : ∀ j, η23 21 j = η 21 j := fun j => (k29.1.2.2.2.1 21 _ (zinr_not (by decide +kernel))).trans (v549 j)
    have fr21_23 : ∀ j, η23 21 j = η 21 j := v550
    have fr21_24 : ∀ j, η24 21 j = η24 21 j := fun _ => rfl
    have v552 : ∀ j, η25 21 j = η24 21 j := fun j => k31.1.2.2.2.1 21 _ (zinr_not (by decide +kernel))
    have fr21_25 : ∀ j, η25 21 j = η24 21 j := v552
    have fr4 : ∀ j, η25 4 j = η5 4 j := v152
    have fr5 : ∀ j, η25 5 j = η6 5 j := v177
    have fr6 : ∀ j, η25 6 j = η7 6 j := v202
    have fr7 : ∀ j, η25 7 j = η8 7 j := v227
    have fr8 : ∀ j, η25 8 j = η9 8 j := v252
    have fr9 : ∀ j, η25 9 j = η10 9 j := v277
    have fr10 : ∀ j, η25 10 j = η11 10 j := v302
    have fr11 : ∀ j, η25 11 j = η12 11 j := v327
    have fr12 : ∀ j, η25 12 j = η13 12 j := v352
    have fr13 : ∀ j, η25 13 j = η14 13 j := v377
    have fr14 : ∀ j, η25 14 j = η15 14 j := v402
    have fr15 : ∀ j, η25 15 j = η16 15 j := v427
    have fr17 : ∀ j, η25 17 j = η20 17 j := v452
    have fr18 : ∀ j, η25 18 j = η21 18 j := v477
    have fr19 : ∀ j, η25 19 j = η22 19 j := v502
    have fr20 : ∀ j, η25 20 j = η23 20 j := v527
    have fr21 : ∀ j, η25 21 j = η24 21 j := v552
    have v553 : zEq (η17 16 0) (x18) := by rw [eη17]; exact zup_eq
    have v554 : zEq (η18 16 0) (x18) := by rw [eη18]; exact (zup_ne (fun _ e => absurd e (by decide))).trans v553
    have v555 : zEq (η19 16 0) (x18) := by rw [eη19]; exact (zup_ne (fun _ e => absurd e (by decide))).trans v554
    have v556 : zEq (η20 16 0) (x18) := (k26.1.2.2.2.1 16 0 (by decide +kernel)).trans v555
    have v557 : zEq (η21 16 0) (x18) := (k27.1.2.2.2.1 16 0 (by decide +kernel)).trans v556
    have v558 : zEq (η22 16 0) (x18) := (k28.1.2.2.2.1 16 0 (by decide +kernel)).trans v557
    have v559 : zEq (η23 16 0) (x18) := (k29.1.2.2.2.1 16 0 (by decide +kernel)).trans v558
    have v560 : zEq (η24 16 0) (x18) := (k30.1.2.2.2.1 16 0 (by decide +kernel)).trans v559
    have v561 : zEq (η25 16 0) (x18) := (k31.1.2.2.2.1 16 0 (by decide +kernel)).trans v560
    have f16_0 : η25 16 0 = x18 := v561
    have v562 : zEq (η18 16 1) (x21) := by rw [eη18]; exact zup_eq
    have v563 : zEq (η19 16 1) (x21) := by rw [eη19]; exact (zup_ne (fun _ e => absurd e (by decide))).trans v562
    have v564 : zEq (η20 16 1) (x21) := (k26.1.2.2.2.1 16 1 (by decide +kernel)).trans v563
    have v565 : zEq (η21 16 1) (x21) := (k27.1.2.2.2.1 16 1 (by decide +kernel)).trans v564
    have v566 : zEq (η22 16 1) (x21) := (k28.1.2.2.2.1 16 1 (by decide +kernel)).trans v565
    have v567 : zEq (η23 16 1) (x21) := (k29.1.2.2.2.1 16 1 (by decide +kernel)).trans v566
    have v568 : zEq (η24 16 1) (x21) := (k30.1.2.2.2.1 16 1 (by decide +kernel)).trans v567
    have v569 : zEq (η25 16 1) (x21) := (k31.1.2.2.2.1 16 1 (by decide +kernel)).trans v568
    have f16_1 : η25 16 1 = x21 := v569
    have v570 : zEq (η19 16 2) (x24) := by rw [eη19]; exact zup_eq
    have v571 : zEq (η20 16 2) (x24) := (k26.1.2.2.2.1 16 2 (by decide +kernel)).trans v570
    have v572 : zEq (η21 16 2) (x24) := (k27.1.2.2.2.1 16 2 (by decide +kernel)).trans v571
    have v573 : zEq (η22 16 2) (x24) := (k28.1.2.2.2.1 16 2 (by decide +kernel)).trans v572
    have v574 : zEq (η23 16 2) (x24) := (k29.1.2.2.2.1 16 2 (by decide +kernel)).trans v573
    have v575 : zEq (η24 16 2) (x24) := (k30.1.2.2.2.1 16 2 (by decide +kernel)).trans v574
    have v576 : zEq (η25 16 2) (x24) := (k31.1.2.2.2.1 16 2 (by decide +kernel)).trans v575
    have f16_2 : η25 16 2 = x24 := v576
    have v577 : zEq (η17 16 3) (η 16 3) := by rw [eη17]; exact (zup_ne (fun _ e => absurd e (by decide))).trans v36
    have v578 : zEq (η18 16 3) (η 16 3) := by rw [eη18]; exact (zup_ne (fun _ e => absurd e (by decide))).trans v577
    have v579 : zEq (η19 16 3) (η 16 3) := by rw [eη19]; exact (zup_ne (fun _ e => absurd e (by decide))).trans v578
    have v580 : zEq (η20 16 3) (η 16 3) := (k26.1.2.2.2.1 16 3 (by decide +kernel)).trans v579
    have v581 : zEq (η21 16 3) (η 16 3) := (k27.1.2.2.2.1 16 3 (by decide +kernel)).trans v580
    have v582 : zEq (η22 16 3) (η 16 3) := (k28.1.2.2.2.1 16 3 (by decide +kernel)).trans v581
    have v583 : zEq (η23 16 3) (η 16 3) := (k29.1.2.2.2.1 16 3 (by decide +kernel)).trans v582
    have v584 : zEq (η24 16 3) (η 16 3) := (k30.1.2.2.2.1 16 3 (by decide +kernel)).trans v583
    have v585 : zEq (η25 16 3) (η 16 3) := (k31.1.2.2.2.1 16 3 (by decide +kernel)).trans v584
    have f16_3 : η25 16 3 = η 16 3 := v585
    have v586 : zEq (η18 16 4) (η 16 4) := by rw [eη18]; exact (zup_ne (fun _ e => absurd e (by decide))).trans v71
    have v587 : zEq (η19 16 4) (η 16 4) := by rw [eη19]; exact (zup_ne (fun _ e => absurd e (by decide))).trans v586
    have v588 : zEq (η20 16 4) (η 16 4) := (k26.1.2.2.2.1 16 4 (by decide +kernel)).trans v587
    have v589 : zEq (η21 16 4) (η 16 4) := (k27.1.2.2.2.1 16 4 (by decide +kernel)).trans v588
    have v590 : zEq (η22 16 4) (η 16 4) := (k28.1.2.2.2.1 16 4 (by decide +kernel)).trans v589
    have v591 : zEq (η23 16 4) (η 16 4) := (k29.1.2.2.2.1 16 4 (by decide +kernel)).trans v590
    have v592 : zEq (η24 16 4) (η 16 4) := (k30.1.2.2.2.1 16 4 (by decide +kernel)).trans v591
    have v593 : zEq (η25 16 4) (η 16 4) := (k31.1.2.2.2.1 16 4 (by decide +kernel)).trans v592
    have f16_4 : η25 16 4 = η 16 4 := v593
    have v594 : zEq (η19 16 5) (η 16 5) := by rw [eη19]; exact (zup_ne (fun _ e => absurd e (by decide))).trans v108
    have v595 : zEq (η20 16 5) (η 16 5) := (k26.1.2.2.2.1 16 5 (by decide +kernel)).trans v594
    have v596 : zEq (η21 16 5) (η 16 5) := (k27.1.2.2.2.1 16 5 (by decide +kernel)).trans v595
    have v597 : zEq (η22 16 5) (η 16 5) := (k28.1.2.2.2.1 16 5 (by decide +kernel)).trans v596
    have v598 : zEq (η23 16 5) (η 16 5) := (k29.1.2.2.2.1 16 5 (by decide +kernel)).trans v597
    have v599 : zEq (η24 16 5) (η 16 5) := (k30.1.2.2.2.1 16 5 (by decide +kernel)).trans v598
    have v600 : zEq (η25 16 5) (η 16 5) := (k31.1.2.2.2.1 16 5 (by decide +kernel)).trans v599
    have f16_5 : η25 16 5 = η 16 5 := v600
    have v601 : zEq (η1 0 12) (x1) := by rw [eη1]; exact zup_eq
    have v602 : zEq (η2 0 12) (x1) := by rw [eη2]; exact (zup_ne (fun _ e => absurd e (by decide))).trans v601
    have v603 : zEq (η3 0 12) (x1) := by rw [eη3]; exact (zup_ne (fun _ e => absurd e (by decide))).trans v602
    have v604 : zEq (η4 0 12) (x1) := by rw [eη4]; exact (zup_ne (fun _ e => absurd e (by decide))).trans v603
    have v605 : zEq (η5 0 12) (x1) := (k5.1.2.2.2.1 0 12 (by decide +kernel)).trans v604
    have v606 : zEq (η6 0 12) (x1) := (k6.1.2.2.2.1 0 12 (by decide +kernel)).trans v605
    have v607 : zEq (η7 0 12) (x1) := (k7.1.2.2.2.1 0 12 (by decide +kernel)).trans v606
    have v608 : zEq (η8 0 12) (x1) := (k8.1.2.2.2.1 0 12 (by decide +kernel)).trans v607
    have v609 : zEq (η9 0 12) (x1) := (k9.1.2.2.2.1 0 12 (by decide +kernel)).trans v608
    have v610 : zEq (η10 0 12) (x1) := (k10.1.2.2.2.1 0 12 (by decide +kernel)).trans v609
    have v611 : zEq (η11 0 12) (x1) := (k11.1.2.2.2.1 0 12 (by decide +kernel)).trans v610
    have v612 : zEq (η12 0 12) (x1) := (k12.1.2.2.2.1 0 12 (by decide +kernel)).trans v611
    have v613 : zEq (η13 0 12) (x1) := (k13.1.2.2.2.1 0 12 (by decide +kernel)).trans v612
    have v614 : zEq (η14 0 12) (x1) := (k14.1.2.2.2.1 0 12 (by decide +kernel)).trans v613
    have v615 : zEq (η15 0 12) (x1) := (k15.1.2.2.2.1 0 12 (by decide +kernel)).trans v614
    have v616 : zEq (η16 0 12) (x1) := (k16.1.2.2.2.1 0 12 (by decide +kernel)).trans v615
    have v617 : zEq (η17 0 12) (x1) := by rw [eη17]; exact (zup_ne (fun e _ => absurd e (by decide))).trans v616
    have v618 : zEq (η18 0 12) (x1) := by rw [eη18]; exact (zup_ne (fun e _ => absurd e (by decide))).trans v617
    have v619 : zEq (η19 0 12) (x1) := by rw [eη19]; exact (zup_ne (fun e _ => absurd e (by decide))).trans v618
    have v620 : zEq (η20 0 12) (x1) := (k26.1.2.2.2.1 0 12 (by decide +kernel)).trans v619
    have v621 : zEq (η21 0 12) (x1) := (k27.1.2.2.2.1 0 12 (by decide +kernel)).trans v620
    have v622 : zEq (η22 0 12) (x1) := (k28.1.2.2.2.1 0 12 (by decide +kernel)).trans v621
    have v623 : zEq (η23 0 12) (x1) := (k29.1.2.2.2.1 0 12 (by decide +kernel)).trans v622
    have v624 : zEq (η24 0 12) (x1) := (k30.1.2.2.2.1 0 12 (by decide +kernel)).trans v623
    have v625 : zEq (η25 0 12) (x1) := (k31.1.2.2.2.1 0 12 (by decide +kernel)).trans v624
    have f0_12 : η25 0 12 = x1 := v625
    have v626 : zEq (η2 0 13) (x2) := by rw [eη2]; exact zup_eq
    have v627 : zEq (η3 0 13) (x2) := by rw [eη3]; exact (zup_ne (fun _ e => absurd e (by decide))).trans v626
    have v628 : zEq (η4 0 13) (x2) := by rw [eη4]; exact (zup_ne (fun _ e => absurd e (by decide))).trans v627
    have v629 : zEq (η5 0 13) (x2) := (k5.1.2.2.2.1 0 13 (by decide +kernel)).trans v628
    have v630 : zEq (η6 0 13) (x2) := (k6.1.2.2.2.1 0 13 (by decide +kernel)).trans v629
    have v631 : zEq (η7 0 13) (x2) := (k7.1.2.2.2.1 0 13 (by decide +kernel)).trans v630
    have v632 : zEq (η8 0 13) (x2) := (k8.1.2.2.2.1 0 13 (by decide +kernel)).trans v631
    have v633 : zEq (η9 0 13) (x2) := (k9.1.2.2.2.1 0 13 (by decide +kernel)).trans v632
    have v634 : zEq (η10 0 13) (x2) := (k10.1.2.2.2.1 0 13 (by decide +kernel)).trans v633
    have v635 : zEq (η11 0 13) (x2) := (k11.1.2.2.2.1 0 13 (by decide +kernel)).trans v634
    have v636 : zEq (η12 0 13) (x2) := (k12.1.2.2.2.1 0 13 (by decide +kernel)).trans v635
    have v637 : zEq (η13 0 13) (x2) := (k13.1.2.2.2.1 0 13 (by decide +kernel)).trans v636
    have v638 : zEq (η14 0 13) (x2) := (k14.1.2.2.2.1 0 13 (by decide +kernel)).trans v637
    have v639 : zEq (η15 0 13) (x2) := (k15.1.2.2.2.1 0 13 (by decide +kernel)).trans v638
    have v640 : zEq (η16 0 13) (x2) := (k16.1.2.2.2.1 0 13 (by decide +kernel)).trans v639
    have v641 : zEq (η17 0 13) (x2) := by rw [eη17]; exact (zup_ne (fun e _ => absurd e (by decide))).trans v640
    have v642 : zEq (η18 0 13) (x2) := by rw [eη18]; exact (zup_ne (fun e _ => absurd e (by decide))).trans v641
    have v643 : zEq (η19 0 13) (x2) := by rw [eη19]; exact (zup_ne (fun e _ => absurd e (by decide))).trans v642
    have v644 : zEq (η20 0 13) (x2) := (k26.1.2.2.2.1 0 13 (by decide +kernel)).trans v643
    have v645 : zEq (η21 0 13) (x2) := (k27.1.2.2.2.1 0 13 (by decide +kernel)).trans v644
    have v646 : zEq (η22 0 13) (x2) := (k28.1.2.2.2.1 0 13 (by decide +kernel)).trans v645
    have v647 : zEq (η23 0 13) (x2) := (k29.1.2.2.2.1 0 13 (by decide +kernel)).trans v646
    have v648 : zEq (η24 0 13) (x2) := (k30.1.2.2.2.1 0 13 (by decide +kernel)).trans v647
    have v649 : zEq (η25 0 13) (x2) := (k31.1.2.2.2.1 0 13 (by decide +kernel)).trans v648
    have f0_13 : η25 0 13 = x2 := v649
    have v650 : zEq (η3 0 14) (x3) := by rw [eη3]; exact zup_eq
    have v651 : zEq (η4 0 14) (x3) := by rw [eη4]; exact (zup_ne (fun _ e => absurd e (by decide))).trans v650
    have v652 : zEq (η5 0 14) (x3) := (k5.1.2.2.2.1 0 14 (by decide +kernel)).trans v651
    have v653 : zEq (η6 0 14) (x3) := (k6.1.2.2.2.1 0 14 (by decide +kernel)).trans v652
    have v654 : zEq (η7 0 14) (x3) := (k7.1.2.2.2.1 0 14 (by decide +kernel)).trans v653
    have v655 : zEq (η8 0 14) (x3) := (k8.1.2.2.2.1 0 14 (by decide +kernel)).trans v654
    have v656 : zEq (η9 0 14) (x3) := (k9.1.2.2.2.1 0 14 (by decide +kernel)).trans v655
    have v657 : zEq (η10 0 14) (x3) := (k10.1.2.2.2.1 0 14 (by decide +kernel)).trans v656
    have v658 : zEq (η11 0 14) (x3) := (k11.1.2.2.2.1 0 14 (by decide +kernel)).trans v657
    have v659 : zEq (η12 0 14) (x3) := (k12.1.2.2.2.1 0 14 (by decide +kernel)).trans v658
    have v660 : zEq (η13 0 14) (x3) := (k13.1.2.2.2.1 0 14 (by decide +kernel)).trans v659
    have v661 : zEq (η14 0 14) (x3) := (k14.1.2.2.2.1 0 14 (by decide +kernel)).trans v660
    have v662 : zEq (η15 0 14) (x3) := (k15.1.2.2.2.1 0 14 (by decide +kernel)).trans v661
    have v663 : zEq (η16 0 14) (x3) := (k16.1.2.2.2.1 0 14 (by decide +kernel)).trans v662
    have v664 : zEq (η17 0 14) (x3) := by rw [eη17]; exact (zup_ne (fun e _ => absurd e (by decide))).trans v663
    have v665 : zEq (η18 0 14) (x3) := by rw [eη18]; exact (zup_ne (fun e _ => absurd e (by decide))).trans v664
    have v666 : zEq (η19 0 14) (x3) := by rw [eη19]; exact (zup_ne (fun e _ => absurd e (by decide))).trans v665
    have v667 : zEq (η20 0 14) (x3) := (k26.1.2.2.2.1 0 14 (by decide +kernel)).trans v666
    have v668 : zEq (η21 0 14) (x3) := (k27.1.2.2.2.1 0 14 (by decide +kernel)).trans v667
    have v669 : zEq (η22 0 14) (x3) := (k28.1.2.2.2.1 0 14 (by decide +kernel)).trans v668
    have v670 : zEq (η23 0 14) (x3) := (k29.1.2.2.2.1 0 14 (by decide +kernel)).trans v669
    have v671 : zEq (η24 0 14) (x3) := (k30.1.2.2.2.1 0 14 (by decide +kernel)).trans v670
    have v672 : zEq (η25 0 14) (x3) := (k31.1.2.2.2.1 0 14 (by decide +kernel)).trans v671
    have f0_14 : η25 0 14 = x3 := v672
    have v673 : zEq (η4 0 15) (x4) := by rw [eη4]; exact zup_eq
    have v674 : zEq (η5 0 15) (x4) := (k5.1.2.2.2.1 0 15 (by decide +kernel)).trans v673
    have v675 : zEq (η6 0 15) (x4) := (k6.1.2.2.2.1 0 15 (by decide +kernel)).trans v674
    have v676 : zEq (η7 0 15) (x4) := (k7.1.2.2.2.1 0 15 (by decide +kernel)).trans v675
    have v677 : zEq (η8 0 15) (x4) := (k8.1.2.2.2.1 0 15 (by decide +kernel)).trans v676
    have v678 : zEq (η9 0 15) (x4) := (k9.1.2.2.2.1 0 15 (by decide +kernel)).trans v677
    have v679 : zEq (η10 0 15) (x4) := (k10.1.2.2.2.1 0 15 (by decide +kernel)).trans v678
    have v680 : zEq (η11 0 15) (x4) := (k11.1.2.2.2.1 0 15 (by decide +kernel)).trans v679
    have v681 : zEq (η12 0 15) (x4) := (k12.1.2.2.2.1 0 15 (by decide +kernel)).trans v680
    have v682 : zEq (η13 0 15) (x4) := (k13.1.2.2.2.1 0 15 (by decide +kernel)).trans v681
    have v683 : zEq (η14 0 15) (x4) := (k14.1.2.2.2.1 0 15 (by decide +kernel)).trans v682
    have v684 : zEq (η15 0 15) (x4) := (k15.1.2.2.2.1 0 15 (by decide +kernel)).trans v683
    have v685 : zEq (η16 0 15) (x4) := (k16.1.2.2.2.1 0 15 (by decide +kernel)).trans v684
    have v686 : zEq (η17 0 15) (x4) := by rw [eη17]; exact (zup_ne (fun e _ => absurd e (by decide))).trans v685
    have v687 : zEq (η18 0 15) (x4) := by rw [eη18]; exact (zup_ne (fun e _ => absurd e (by decide))).trans v686
    have v688 : zEq (η19 0 15) (x4) := by rw [eη19]; exact (zup_ne (fun e _ => absurd e (by decide))).trans v687
    have v689 : zEq (η20 0 15) (x4) := (k26.1.2.2.2.1 0 15 (by decide +kernel)).trans v688
    have v690 : zEq (η21 0 15) (x4) := (k27.1.2.2.2.1 0 15 (by decide +kernel)).trans v689
    have v691 : zEq (η22 0 15) (x4) := (k28.1.2.2.2.1 0 15 (by decide +kernel)).trans v690
    have v692 : zEq (η23 0 15) (x4) := (k29.1.2.2.2.1 0 15 (by decide +kernel)).trans v691
    have v693 : zEq (η24 0 15) (x4) := (k30.1.2.2.2.1 0 15 (by decide +kernel)).trans v692
    have v694 : zEq (η25 0 15) (x4) := (k31.1.2.2.2.1 0 15 (by decide +kernel)).trans v693
    have f0_15 : η25 0 15 = x4 := v694
    have v695 : zEq (η1 0 16) (η 0 16) := by rw [eη1]; exact (zup_ne (fun _ e => absurd e (by decide))).trans rfl
    have v696 : zEq (η2 0 16) (η 0 16) := by rw [eη2]; exact (zup_ne (fun _ e => absurd e (by decide))).trans v695
    have v697 : zEq (η3 0 16) (η 0 16) := by rw [eη3]; exact (zup_ne (fun _ e => absurd e (by decide))).trans v696
    have v698 : zEq (η4 0 16) (η 0 16) := by rw [eη4]; exact (zup_ne (fun _ e => absurd e (by decide))).trans v697
    have v699 : zEq (η5 0 16) (η 0 16) := (k5.1.2.2.2.1 0 16 (by decide +kernel)).trans v698
    have v700 : zEq (η6 0 16) (η 0 16) := (k6.1.2.2.2.1 0 16 (by decide +kernel)).trans v699
    have v701 : zEq (η7 0 16) (η 0 16) := (k7.1.2.2.2.1 0 16 (by decide +kernel)).trans v700
    have v702 : zEq (η8 0 16) (η 0 16) := (k8.1.2.2.2.1 0 16 (by decide +kernel)).trans v701
    have v703 : zEq (η9 0 16) (η 0 16) := (k9.1.2.2.2.1 0 16 (by decide +kernel)).trans v702
    have v704 : zEq (η10 0 16) (η 0 16) := (k10.1.2.2.2.1 0 16 (by decide +kernel)).trans v703
    have v705 : zEq (η11 0 16) (η 0 16) := (k11.1.2.2.2.1 0 16 (by decide +kernel)).trans v704
    have v706 : zEq (η12 0 16) (η 0 16) := (k12.1.2.2.2.1 0 16 (by decide +kernel)).trans v705
    have v707 : zEq (η13 0 16) (η 0 16) := (k13.1.2.2.2.1 0 16 (by decide +kernel)).trans v706
    have v708 : zEq (η14 0 16) (η 0 16) := (k14.1.2.2.2.1 0 16 (by decide +kernel)).trans v707
    have v709 : zEq (η15 0 16) (η 0 16) := (k15.1.2.2.2.1 0 16 (by decide +kernel)).trans v708
    have v710 : zEq (η16 0 16) (η 0 16) := (k16.1.2.2.2.1 0 16 (by decide +kernel)).trans v709
    have v711 : zEq (η17 0 16) (η 0 16) := by rw [eη17]; exact (zup_ne (fun e _ => absurd e (by decide))).trans v710
    have v712 : zEq (η18 0 16) (η 0 16) := by rw [eη18]; exact (zup_ne (fun e _ => absurd e (by decide))).trans v711
    have v713 : zEq (η19 0 16) (η 0 16) := by rw [eη19]; exact (zup_ne (fun e _ => absurd e (by decide))).trans v712
    have v714 : zEq (η20 0 16) (η 0 16) := (k26.1.2.2.2.1 0 16 (by decide +kernel)).trans v713
    have v715 : zEq (η21 0 16) (η 0 16) := (k27.1.2.2.2.1 0 16 (by decide +kernel)).trans v714
    have v716 : zEq (η22 0 16) (η 0 16) := (k28.1.2.2.2.1 0 16 (by decide +kernel)).trans v715
    have v717 : zEq (η23 0 16) (η 0 16) := (k29.1.2.2.2.1 0 16 (by decide +kernel)).trans v716
    have v718 : zEq (η24 0 16) (η 0 16) := (k30.1.2.2.2.1 0 16 (by decide +kernel)).trans v717
    have v719 : zEq (η25 0 16) (η 0 16) := (k31.1.2.2.2.1 0 16 (by decide +kernel)).trans v718
    have f0_16 : η25 0 16 = η 0 16 := v719
    have v720 : zEq (η2 0 17) (η 0 17) := by rw [eη2]; exact (zup_ne (fun _ e => absurd e (by decide))).trans v3
    have v721 : zEq (η3 0 17) (η 0 17) := by rw [eη3]; exact (zup_ne (fun _ e => absurd e (by decide))).trans v720
    have v722 : zEq (η4 0 17) (η 0 17) := by rw [eη4]; exact (zup_ne (fun _ e => absurd e (by decide))).trans v721
    have v723 : zEq (η5 0 17) (η 0 17) := (k5.1.2.2.2.1 0 17 (by decide +kernel)).trans v722
    have v724 : zEq (η6 0 17) (η 0 17) := (k6.1.2.2.2.1 0 17 (by decide +kernel)).trans v723
    have v725 : zEq (η7 0 17) (η 0 17) := (k7.1.2.2.2.1 0 17 (by decide +kernel)).trans v724
    have v726 : zEq (η8 0 17) (η 0 17) := (k8.1.2.2.2.1 0 17 (by decide +kernel)).trans v725
    have v727 : zEq (η9 0 17) (η 0 17) := (k9.1.2.2.2.1 0 17 (by decide +kernel)).trans v726
    have v728 : zEq (η10 0 17) (η 0 17) := (k10.1.2.2.2.1 0 17 (by decide +kernel)).trans v727
    have v729 : zEq (η11 0 17) (η 0 17) := (k11.1.2.2.2.1 0 17 (by decide +kernel)).trans v728
    have v730 : zEq (η12 0 17) (η 0 17) := (k12.1.2.2.2.1 0 17 (by decide +kernel)).trans v729
    have v731 : zEq (η13 0 17) (η 0 17) := (k13.1.2.2.2.1 0 17 (by decide +kernel)).trans v730
    have v732 : zEq (η14 0 17) (η 0 17) := (k14.1.2.2.2.1 0 17 (by decide +kernel)).trans v731
    have v733 : zEq (η15 0 17) (η 0 17) := (k15.1.2.2.2.1 0 17 (by decide +kernel)).trans v732
    have v734 : zEq (η16 0 17) (η 0 17) := (k16.1.2.2.2.1 0 17 (by decide +kernel)).trans v733
    have v735 : zEq (η17 0 17) (η 0 17) := by rw [eη17]; exact (zup_ne (fun e _ => absurd e (by decide))).trans v734
    have v736 : zEq (η18 0 17) (η 0 17) := by rw [eη18]; exact (zup_ne (fun e _ => absurd e (by decide))).trans v735
    have v737 : zEq (η19 0 17) (η 0 17) := by rw [eη19]; exact (zup_ne (fun e _ => absurd e (by decide))).trans v736
    have v738 : zEq (η20 0 17) (η 0 17) := (k26.1.2.2.2.1 0 17 (by decide +kernel)).trans v737
    have v739 : zEq (η21 0 17) (η 0 17) := (k27.1.2.2.2.1 0 17 (by decide +kernel)).trans v738
    have v740 : zEq (η22 0 17) (η 0 17) := (k28.1.2.2.2.1 0 17 (by decide +kernel)).trans v739
    have v741 : zEq (η23 0 17) (η 0 17) := (k29.1.2.2.2.1 0 17 (by decide +kernel)).trans v740
    have v742 : zEq (η24 0 17) (η 0 17) := (k30.1.2.2.2.1 0 17 (by decide +kernel)).trans v741
    have v743 : zEq (η25 0 17) (η 0 17) := (k31.1.2.2.2.1 0 17 (by decide +kernel)).trans v742
    have f0_17 : η25 0 17 = η 0 17 := v743
    have v744 : zEq (η3 0 18) (η 0 18) := by rw [eη3]; exact (zup_ne (fun _ e => absurd e (by decide))).trans v8
    have v745 : zEq (η4 0 18) (η 0 18) := by rw [eη4]; exact (zup_ne (fun _ e => absurd e (by decide))).trans v744
    have v746 : zEq (η5 0 18) (η 0 18) := (k5.1.2.2.2.1 0 18 (by decide +kernel)).trans v745
    have v747 : zEq (η6 0 18) (η 0 18) := (k6.1.2.2.2.1 0 18 (by decide +kernel)).trans v746
    have v748 : zEq (η7 0 18) (η 0 18) := (k7.1.2.2.2.1 0 18 (by decide +kernel)).trans v747
    have v749 : zEq (η8 0 18) (η 0 18) := (k8.1.2.2.2.1 0 18 (by decide +kernel)).trans v748
    have v750 : zEq (η9 0 18) (η 0 18) := (k9.1.2.2.2.1 0 18 (by decide +kernel)).trans v749
    have v751 : zEq (η10 0 18) (η 0 18) := (k10.1.2.2.2.1 0 18 (by decide +kernel)).trans v750
    have v752 : zEq (η11 0 18) (η 0 18) := (k11.1.2.2.2.1 0 18 (by decide +kernel)).trans v751
    have v753 : zEq (η12 0 18) (η 0 18) := (k12.1.2.2.2.1 0 18 (by decide +kernel)).trans v752
    have v754 : zEq (η13 0 18) (η 0 18) := (k13.1.2.2.2.1 0 18 (by decide +kernel)).trans v753
    have v755 : zEq (η14 0 18) (η 0 18) := (k14.1.2.2.2.1 0 18 (by decide +kernel)).trans v754
    have v756 : zEq (η15 0 18) (η 0 18) := (k15.1.2.2.2.1 0 18 (by decide +kernel)).trans v755
    have v757 : zEq (η16 0 18) (η 0 18) := (k16.1.2.2.2.1 0 18 (by decide +kernel)).trans v756
    have v758 : zEq (η17 0 18) (η 0 18) := by rw [eη17]; exact (zup_ne (fun e _ => absurd e (by decide))).trans v757
    have v759 : zEq (η18 0 18) (η 0 18) := by rw [eη18]; exact (zup_ne (fun e _ => absurd e (by decide))).trans v758
    have v760 : zEq (η19 0 18) (η 0 18) := by rw [eη19]; exact (zup_ne (fun e _ => absurd e (by decide))).trans v759
    have v761 : zEq (η20 0 18) (η 0 18) := (k26.1.2.2.2.1 0 18 (by decide +kernel)).trans v760
    have v762 : zEq (η21 0 18) (η 0 18) := (k27.1.2.2.2.1 0 18 (by decide +kernel)).trans v761
    have v763 : zEq (η22 0 18) (η 0 18) := (k28.1.2.2.2.1 0 18 (by decide +kernel)).trans v762
    have v764 : zEq (η23 0 18) (η 0 18) := (k29.1.2.2.2.1 0 18 (by decide +kernel)).trans v763
    have v765 : zEq (η24 0 18) (η 0 18) := (k30.1.2.2.2.1 0 18 (by decide +kernel)).trans v764
    have v766 : zEq (η25 0 18) (η 0 18) := (k31.1.2.2.2.1 0 18 (by decide +kernel)).trans v765
    have f0_18 : η25 0 18 = η 0 18 := v766
    have v767 : zEq (η4 0 19) (η 0 19) := by rw [eη4]; exact (zup_ne (fun _ e => absurd e (by decide))).trans v15
    have v768 : zEq (η5 0 19) (η 0 19) := (k5.1.2.2.2.1 0 19 (by decide +kernel)).trans v767
    have v769 : zEq (η6 0 19) (η 0 19) := (k6.1.2.2.2.1 0 19 (by decide +kernel)).trans v768
    have v770 : zEq (η7 0 19) (η 0 19) := (k7.1.2.2.2.1 0 19 (by decide +kernel)).trans v769
    have v771 : zEq (η8 0 19) (η 0 19) := (k8.1.2.2.2.1 0 19 (by decide +kernel)).trans v770
    have v772 : zEq (η9 0 19) (η 0 19) := (k9.1.2.2.2.1 0 19 (by decide +kernel)).trans v771
    have v773 : zEq (η10 0 19) (η 0 19) := (k10.1.2.2.2.1 0 19 (by decide +kernel)).trans v772
    have v774 : zEq (η11 0 19) (η 0 19) := (k11.1.2.2.2.1 0 19 (by decide +kernel)).trans v773
    have v775 : zEq (η12 0 19) (η 0 19) := (k12.1.2.2.2.1 0 19 (by decide +kernel)).trans v774
    have v776 : zEq (η13 0 19) (η 0 19) := (k13.1.2.2.2.1 0 19 (by decide +kernel)).trans v775
    have v777 : zEq (η14 0 19) (η 0 19) := (k14.1.2.2.2.1 0 19 (by decide +kernel)).trans v776
    have v778 : zEq (η15 0 19) (η 0 19) := (k15.1.2.2.2.1 0 19 (by decide +kernel)).trans v777
    have v779 : zEq (η16 0 19) (η 0 19) := (k16.1.2.2.2.1 0 19 (by decide +kernel)).trans v778
    have v780 : zEq (η17 0 19) (η 0 19) := by rw [eη17]; exact (zup_ne (fun e _ => absurd e (by decide))).trans v779
    have v781 : zEq (η18 0 19) (η 0 19) := by rw [eη18]; exact (zup_ne (fun e _ => absurd e (by decide))).trans v780
    have v782 : zEq (η19 0 19) (η 0 19) := by rw [eη19]; exact (zup_ne (fun e _ => absurd e (by decide))).trans v781
    have v783 : zEq (η20 0 19) (η 0 19) := (k26.1.2.2.2.1 0 19 (by decide +kernel)).trans v782
    have v784 : zEq (η21 0 19) (η 0 19) := (k27.1.2.2.2.1 0 19 (by decide +kernel)).trans v783
    have v785 : zEq (η22 0 19) (η 0 19) := (k28.1.2.2.2.1 0 19 (by decide +kernel)).trans v784
    have v786 : zEq (η23 0 19) (η 0 19) := (k29.1.2.2.2.1 0 19 (by decide +kernel)).trans v785
    have v787 : zEq (η24 0 19) (η 0 19) := (k30.1.2.2.2.1 0 19 (by decide +kernel)).trans v786
    have v788 : zEq (η25 0 19) (η 0 19) := (k31.1.2.2.2.1 0 19 (by decide +kernel)).trans v787
    have f0_19 : η25 0 19 = η 0 19 := v788
    have t18 : ∀ j, j < 3 → η25 18 j = η 18 (3 + j) := fun j hj => by rw [fr18, k27.2.1 j hj, fr18_20]
    have s18 : ∀ j, 3 ≤ j → η25 18 j = η 18 j := fun j hj => by rw [fr18, k27.2.2 j hj, fr18_20]
    have t19 : ∀ j, j < 64 → η25 19 j = η 19 (64 + j) := fun j hj => by rw [fr19, k28.2.1 j hj, fr19_21]
    have s19 : ∀ j, 64 ≤ j → η25 19 j = η 19 j := fun j hj => by rw [fr19, k28.2.2 j hj, fr19_21]
    have t20 : ∀ j, j < 64 → η25 20 j = η 20 (64 + j) := fun j hj => by rw [fr20, k29.2.1 j hj, fr20_22]
    have s20 : ∀ j, 64 ≤ j → η25 20 j = η 20 j := fun j hj => by rw [fr20, k29.2.2 j hj, fr20_22]
    have t21 : ∀ j, j < 64 → η25 21 j = η 21 (64 + j) := fun j hj => by rw [fr21, k30.2.1 j hj, fr21_23]
    have s21 : ∀ j, 64 ≤ j → η25 21 j = η 21 j := fun j hj => by rw [fr21, k30.2.2 j hj, fr21_23]
    refine ⟨zGk_fm2 gk_k hpp.1.1 fmE (by decide +kernel), fun i hi => ?_, fun k hk w => ?_⟩
    · by_cases q : i < 64
      · rw [t19 i q, t20 i q, t21 i q]
        exact hpp.1.2 (64 + i) (by omega)
      · rw [s19 i (by omega), s20 i (by omega), s21 i (by omega)]
        exact hpp.1.2 i hi
    · rw [t18 k hk]
      match k, hk, w with
      | 0, _, w => exact hpp.2 3 (by decide) (by have f := f16_0; omega)
      | 1, _, w => exact hpp.2 4 (by decide) (by have f := f16_1; omega)
      | 2, _, w => exact hpp.2 5 (by decide) (by have f := f16_2; omega)
  · replace e17 := zEq_i e17
    replace e19 := zEq_i e19
    replace e20 := zEq_i e20
    replace e22 := zEq_i e22
    replace e23 := zEq_i e23
    replace e25 := zEq_i e25
    have k5 : sQ wl_ne zTr zOne_copies_4 zMne_copies_4 [] η4 x5 η5 ∧ pQne_copies_4 [] η4 x5 η5 := h5
    have k6 : sQ wl_ne zTr zOne_copies_5 zMne_copies_5 [] η5 x6 η6 ∧ pQne_copies_5 [] η5 x6 η6 := h6
    have k7 : sQ wl_ne zTr zOne_copies_6 zMne_copies_6 [] η6 x7 η7 ∧ pQne_copies_6 [] η6 x7 η7 := h7
    have k8 : sQ wl_ne zTr zOne_copies_7 zMne_copies_7 [] η7 x8 η8 ∧ pQne_copies_7 [] η7 x8 η8 := h8
    have k9 : sQ wl_ne zTr zOne_copies_8 zMne_copies_8 [] η8 x9 η9 ∧ pQne_copies_8 [] η8 x9 η9 := h9
    have k10 : sQ wl_ne zTr zOne_copies_9 zMne_copies_9 [] η9 x10 η10 ∧ pQne_copies_9 [] η9 x10 η10 := h10
    have k11 : sQ wl_ne zTr zOne_copies_10 zMne_copies_10 [] η10 x11 η11 ∧ pQne_copies_10 [] η10 x11 η11 := h11
    have k12 : sQ wl_ne zTr zOne_copies_11 zMne_copies_11 [] η11 x12 η12 ∧ pQne_copies_11 [] η11 x12 η12 := h12
    have k13 : sQ wl_ne zTr zOne_copies_12 zMne_copies_12 [] η12 x13 η13 ∧ pQne_copies_12 [] η12 x13 η13 := h13
    have k14 : sQ wl_ne zTr zOne_copies_13 zMne_copies_13 [] η13 x14 η14 ∧ pQne_copies_13 [] η13 x14 η14 := h14
    have k15 : sQ wl_ne zTr zOne_copies_14 zMne_copies_14 [] η14 x15 η15 ∧ pQne_copies_14 [] η14 x15 η15 := h15
    have k16 : sQ wl_ne zTr zOne_copies_15 zMne_copies_15 [] η15 x16 η16 ∧ pQne_copies_15 [] η15 x16 η16 := h16
    have k26 : sQ wl_ne zTr zOne_copies_17 zMne_copies_17 [] η19 x26 η20 ∧ pQne_copies_17 [] η19 x26 η20 := h26
    have k27 : sQ wl_ne zTr zOne_copies_18 zMne_copies_18 [] η20 x27 η21 ∧ pQne_copies_18 [] η20 x27 η21 := h27
    have k28 : sQ wl_ne zTr zOne_copies_19 zMne_copies_19 [] η21 x28 η22 ∧ pQne_copies_19 [] η21 x28 η22 := h28
    have k29 : sQ wl_ne zTr zOne_copies_20 zMne_copies_20 [] η22 x29 η23 ∧ pQne_copies_20 [] η22 x29 η23 := h29
    have k30 : sQ wl_ne zTr zOne_copies_21 zMne_copies_21 [] η23 x30 η24 ∧ pQne_copies_21 [] η23 x30 η24 := h30
    have y31 : fQne_begin [] η24 x31 η25 := h31.2.2
    have k31 : sQ wl_ne zTr zOne_begin zMne_begin [] η24 x31 η25 ∧ oQne_begin [] η24 x31 η25 := ⟨h31.1, h31.2.1⟩
    have w0_0_16 : (0 : Int) ≤ η 0 16 ∧ η 0 16 ≤ 12 := wf_ok (a := 16) (b := 16) (z := (0, 12)) hp.1 (by decide +kernel) (Nat.le_refl _) (Nat.le_refl _)
    replace e1 : x1 = η 0 16 := e1
    have w0_0_12 : (0 : Int) ≤ η 0 12 ∧ η 0 12 ≤ 12 := wf_ok (a := 12) (b := 12) (z := (0, 12)) hp.1 (by decide +kernel) (Nat.le_refl _) (Nat.le_refl _)
    have c0_0_12 : η 0 12 = η 0 12 := rfl
    have w0_0_17 : (0 : Int) ≤ η 0 17 ∧ η 0 17 ≤ 4 := wf_ok (a := 17) (b := 17) (z := (0, 4)) hp.1 (by decide +kernel) (Nat.le_refl _) (Nat.le_refl _)
    have v3 : zEq (η1 0 17) (η 0 17) := by rw [eη1]; exact (zup_ne (fun _ e => absurd e (by decide))).trans rfl
    replace e2 : x2 = η 0 17 := e2.trans v3
    have w0_0_13 : (0 : Int) ≤ η 0 13 ∧ η 0 13 ≤ 4 := wf_ok (a := 13) (b := 13) (z := (0, 4)) hp.1 (by decide +kernel) (Nat.le_refl _) (Nat.le_refl _)
    have v5 : zEq (η1 0 13) (η 0 13) := by rw [eη1]; exact (zup_ne (fun _ e => absurd e (by decide))).trans rfl
    have c1_0_13 : η1 0 13 = η 0 13 := v5
    have w0_0_18 : (0 : Int) ≤ η 0 18 ∧ η 0 18 ≤ 4 := wf_ok (a := 18) (b := 18) (z := (0, 4)) hp.1 (by decide +kernel) (Nat.le_refl _) (Nat.le_refl _)
    have v7 : zEq (η1 0 18) (η 0 18) := by rw [eη1]; exact (zup_ne (fun _ e => absurd e (by decide))).trans rfl
    have v8 : zEq (η2 0 18) (η 0 18) := by rw [eη2]; exact (zup_ne (fun _ e => absurd e (by decide))).trans v7
    replace e3 : x3 = η 0 18 := e3.trans v8
    have w0_0_14 : (0 : Int) ≤ η 0 14 ∧ η 0 14 ≤ 4 := wf_ok (a := 14) (b := 14) (z := (0, 4)) hp.1 (by decide +kernel) (Nat.le_refl _) (Nat.le_refl _)
    have v10 : zEq (η1 0 14) (η 0 14) := by rw [eη1]; exact (zup_ne (fun _ e => absurd e (by decide))).trans rfl
    have v11 : zEq (η2 0 14) (η 0 14) := by rw [eη2]; exact (zup_ne (fun _ e => absurd e (by decide))).trans v10
    have c2_0_14 : η2 0 14 = η 0 14 := v11
    have w0_0_19 : (0 : Int) ≤ η 0 19 ∧ η 0 19 ≤ 64 := wf_ok (a := 19) (b := 19) (z := (0, 64)) hp.1 (by decide +kernel) (Nat.le_refl _) (Nat.le_refl _)
    have v13 : zEq (η1 0 19) (η 0 19) := by rw [eη1]; exact (zup_ne (fun _ e => absurd e (by decide))).trans rfl
    have v14 : zEq (η2 0 19) (η 0 19) := by rw [eη2]; exact (zup_ne (fun _ e => absurd e (by decide))).trans v13
    have v15 : zEq (η3 0 19) (η 0 19) := by rw [eη3]; exact (zup_ne (fun _ e => absurd e (by decide))).trans v14
    replace e4 : x4 = η 0 19 := e4.trans v15
    have w0_0_15 : (0 : Int) ≤ η 0 15 ∧ η 0 15 ≤ 64 := wf_ok (a := 15) (b := 15) (z := (0, 64)) hp.1 (by decide +kernel) (Nat.le_refl _) (Nat.le_refl _)
    have v17 : zEq (η1 0 15) (η 0 15) := by rw [eη1]; exact (zup_ne (fun _ e => absurd e (by decide))).trans rfl
    have v18 : zEq (η2 0 15) (η 0 15) := by rw [eη2]; exact (zup_ne (fun _ e => absurd e (by decide))).trans v17
    have v19 : zEq (η3 0 15) (η 0 15) := by rw [eη3]; exact (zup_ne (fun _ e => absurd e (by decide))).trans v18
    have c3_0_15 : η3 0 15 = η 0 15 := v19
    have bx5 : (0 : Int) ≤ x5 ∧ x5 ≤ 0 := k5.1.2.1
    have bx6 : (0 : Int) ≤ x6 ∧ x6 ≤ 0 := k6.1.2.1
    have bx7 : (0 : Int) ≤ x7 ∧ x7 ≤ 0 := k7.1.2.1
    have bx8 : (0 : Int) ≤ x8 ∧ x8 ≤ 0 := k8.1.2.1
    have bx9 : (0 : Int) ≤ x9 ∧ x9 ≤ 0 := k9.1.2.1
    have bx10 : (0 : Int) ≤ x10 ∧ x10 ≤ 0 := k10.1.2.1
    have bx11 : (0 : Int) ≤ x11 ∧ x11 ≤ 0 := k11.1.2.1
    have bx12 : (0 : Int) ≤ x12 ∧ x12 ≤ 0 := k12.1.2.1
    have bx13 : (0 : Int) ≤ x13 ∧ x13 ≤ 0 := k13.1.2.1
    have bx14 : (0 : Int) ≤ x14 ∧ x14 ≤ 0 := k14.1.2.1
    have bx15 : (0 : Int) ≤ x15 ∧ x15 ≤ 0 := k15.1.2.1
    have bx16 : (0 : Int) ≤ x16 ∧ x16 ≤ 0 := k16.1.2.1
    first
    | replace e17 : x17 = 3 + 0 := zd_a2 (zEq_o e17) (by clear e17; exact ⟨by omega, by omega⟩)
    | clear e17
    have z17 : x17 = 3 := by omega
    rw [z17] at e18
    have v21 : zEq (η1 16 3) (η 16 3) := by rw [eη1]; exact (zup_ne (fun e _ => absurd e (by decide))).trans rfl
    have v22 : zEq (η2 16 3) (η 16 3) := by rw [eη2]; exact (zup_ne (fun e _ => absurd e (by decide))).trans v21
    have v23 : zEq (η3 16 3) (η 16 3) := by rw [eη3]; exact (zup_ne (fun e _ => absurd e (by decide))).trans v22
    have v24 : zEq (η4 16 3) (η 16 3) := by rw [eη4]; exact (zup_ne (fun e _ => absurd e (by decide))).trans v23
    have v25 : zEq (η5 16 3) (η 16 3) := (k5.1.2.2.2.1 16 3 (by decide +kernel)).trans v24
    have v26 : zEq (η6 16 3) (η 16 3) := (k6.1.2.2.2.1 16 3 (by decide +kernel)).trans v25
    have v27 : zEq (η7 16 3) (η 16 3) := (k7.1.2.2.2.1 16 3 (by decide +kernel)).trans v26
    have v28 : zEq (η8 16 3) (η 16 3) := (k8.1.2.2.2.1 16 3 (by decide +kernel)).trans v27
    have v29 : zEq (η9 16 3) (η 16 3) := (k9.1.2.2.2.1 16 3 (by decide +kernel)).trans v28
    have v30 : zEq (η10 16 3) (η 16 3) := (k10.1.2.2.2.1 16 3 (by decide +kernel)).trans v29
    have v31 : zEq (η11 16 3) (η 16 3) := (k11.1.2.2.2.1 16 3 (by decide +kernel)).trans v30
    have v32 : zEq (η12 16 3) (η 16 3) := (k12.1.2.2.2.1 16 3 (by decide +kernel)).trans v31
    have v33 : zEq (η13 16 3) (η 16 3) := (k13.1.2.2.2.1 16 3 (by decide +kernel)).trans v32
    have v34 : zEq (η14 16 3) (η 16 3) := (k14.1.2.2.2.1 16 3 (by decide +kernel)).trans v33
    have v35 : zEq (η15 16 3) (η 16 3) := (k15.1.2.2.2.1 16 3 (by decide +kernel)).trans v34
    have v36 : zEq (η16 16 3) (η 16 3) := (k16.1.2.2.2.1 16 3 (by decide +kernel)).trans v35
    replace e18 : x18 = η 16 3 := e18.trans v36
    replace r18 : 0 ≤ x18 ∧ x18 ≤ 1 := r18
    have v38 : zEq (η1 16 0) (η 16 0) := by rw [eη1]; exact (zup_ne (fun e _ => absurd e (by decide))).trans rfl
    have v39 : zEq (η2 16 0) (η 16 0) := by rw [eη2]; exact (zup_ne (fun e _ => absurd e (by decide))).trans v38
    have v40 : zEq (η3 16 0) (η 16 0) := by rw [eη3]; exact (zup_ne (fun e _ => absurd e (by decide))).trans v39
    have v41 : zEq (η4 16 0) (η 16 0) := by rw [eη4]; exact (zup_ne (fun e _ => absurd e (by decide))).trans v40
    have v42 : zEq (η5 16 0) (η 16 0) := (k5.1.2.2.2.1 16 0 (by decide +kernel)).trans v41
    have v43 : zEq (η6 16 0) (η 16 0) := (k6.1.2.2.2.1 16 0 (by decide +kernel)).trans v42
    have v44 : zEq (η7 16 0) (η 16 0) := (k7.1.2.2.2.1 16 0 (by decide +kernel)).trans v43
    have v45 : zEq (η8 16 0) (η 16 0) := (k8.1.2.2.2.1 16 0 (by decide +kernel)).trans v44
    have v46 : zEq (η9 16 0) (η 16 0) := (k9.1.2.2.2.1 16 0 (by decide +kernel)).trans v45
    have v47 : zEq (η10 16 0) (η 16 0) := (k10.1.2.2.2.1 16 0 (by decide +kernel)).trans v46
    have v48 : zEq (η11 16 0) (η 16 0) := (k11.1.2.2.2.1 16 0 (by decide +kernel)).trans v47
    have v49 : zEq (η12 16 0) (η 16 0) := (k12.1.2.2.2.1 16 0 (by decide +kernel)).trans v48
    have v50 : zEq (η13 16 0) (η 16 0) := (k13.1.2.2.2.1 16 0 (by decide +kernel)).trans v49
    have v51 : zEq (η14 16 0) (η 16 0) := (k14.1.2.2.2.1 16 0 (by decide +kernel)).trans v50
    have v52 : zEq (η15 16 0) (η 16 0) := (k15.1.2.2.2.1 16 0 (by decide +kernel)).trans v51
    have v53 : zEq (η16 16 0) (η 16 0) := (k16.1.2.2.2.1 16 0 (by decide +kernel)).trans v52
    have c16_16_0 : η16 16 0 = η 16 0 := v53
    first
    | replace e19 : x19 = 0 + 1 := zd_a2 (zEq_o e19) (by clear e19; exact ⟨by omega, by omega⟩)
    | clear e19
    have z19 : x19 = 1 := by omega
    first
    | replace e20 : x20 = 3 + x19 := zd_a2 (zEq_o e20) (by clear e20; exact ⟨by omega, by omega⟩)
    | clear e20
    have z20 : x20 = 4 := by omega
    rw [z20] at e21
    have v55 : zEq (η1 16 4) (η 16 4) := by rw [eη1]; exact (zup_ne (fun e _ => absurd e (by decide))).trans rfl
    have v56 : zEq (η2 16 4) (η 16 4) := by rw [eη2]; exact (zup_ne (fun e _ => absurd e (by decide))).trans v55
    have v57 : zEq (η3 16 4) (η 16 4) := by rw [eη3]; exact (zup_ne (fun e _ => absurd e (by decide))).trans v56
    have v58 : zEq (η4 16 4) (η 16 4) := by rw [eη4]; exact (zup_ne (fun e _ => absurd e (by decide))).trans v57
    have v59 : zEq (η5 16 4) (η 16 4) := (k5.1.2.2.2.1 16 4 (by decide +kernel)).trans v58
    have v60 : zEq (η6 16 4) (η 16 4) := (k6.1.2.2.2.1 16 4 (by decide +kernel)).trans v59
    have v61 : zEq (η7 16 4) (η 16 4) := (k7.1.2.2.2.1 16 4 (by decide +kernel)).trans v60
    have v62 : zEq (η8 16 4) (η 16 4) := (k8.1.2.2.2.1 16 4 (by decide +kernel)).trans v61
    have v63 : zEq (η9 16 4) (η 16 4) := (k9.1.2.2.2.1 16 4 (by decide +kernel)).trans v62
    have v64 : zEq (η10 16 4) (η 16 4) := (k10.1.2.2.2.1 16 4 (by decide +kernel)).trans v63
    have v65 : zEq (η11 16 4) (η 16 4) := (k11.1.2.2.2.1 16 4 (by decide +kernel)).trans v64
    have v66 : zEq (η12 16 4) (η 16 4) := (k12.1.2.2.2.1 16 4 (by decide +kernel)).trans v65
    have v67 : zEq (η13 16 4) (η 16 4) := (k13.1.2.2.2.1 16 4 (by decide +kernel)).trans v66
    have v68 : zEq (η14 16 4) (η 16 4) := (k14.1.2.2.2.1 16 4 (by decide +kernel)).trans v67
    have v69 : zEq (η15 16 4) (η 16 4) := (k15.1.2.2.2.1 16 4 (by decide +kernel)).trans v68
    have v70 : zEq (η16 16 4) (η 16 4) := (k16.1.2.2.2.1 16 4 (by decide +kernel)).trans v69
    have v71 : zEq (η17 16 4) (η 16 4) := by rw [eη17]; exact (zup_ne (fun _ e => absurd e (by decide))).trans v70
    replace e21 : x21 = η 16 4 := e21.trans v71
    replace r21 : 0 ≤ x21 ∧ x21 ≤ 1 := r21
    rw [z19] at eη18
    have v73 : zEq (η1 16 1) (η 16 1) := by rw [eη1]; exact (zup_ne (fun e _ => absurd e (by decide))).trans rfl
    have v74 : zEq (η2 16 1) (η 16 1) := by rw [eη2]; exact (zup_ne (fun e _ => absurd e (by decide))).trans v73
    have v75 : zEq (η3 16 1) (η 16 1) := by rw [eη3]; exact (zup_ne (fun e _ => absurd e (by decide))).trans v74
    have v76 : zEq (η4 16 1) (η 16 1) := by rw [eη4]; exact (zup_ne (fun e _ => absurd e (by decide))).trans v75
    have v77 : zEq (η5 16 1) (η 16 1) := (k5.1.2.2.2.1 16 1 (by decide +kernel)).trans v76
    have v78 : zEq (η6 16 1) (η 16 1) := (k6.1.2.2.2.1 16 1 (by decide +kernel)).trans v77
    have v79 : zEq (η7 16 1) (η 16 1) := (k7.1.2.2.2.1 16 1 (by decide +kernel)).trans v78
    have v80 : zEq (η8 16 1) (η 16 1) := (k8.1.2.2.2.1 16 1 (by decide +kernel)).trans v79
    have v81 : zEq (η9 16 1) (η 16 1) := (k9.1.2.2.2.1 16 1 (by decide +kernel)).trans v80
    have v82 : zEq (η10 16 1) (η 16 1) := (k10.1.2.2.2.1 16 1 (by decide +kernel)).trans v81
    have v83 : zEq (η11 16 1) (η 16 1) := (k11.1.2.2.2.1 16 1 (by decide +kernel)).trans v82
    have v84 : zEq (η12 16 1) (η 16 1) := (k12.1.2.2.2.1 16 1 (by decide +kernel)).trans v83
    have v85 : zEq (η13 16 1) (η 16 1) := (k13.1.2.2.2.1 16 1 (by decide +kernel)).trans v84
    have v86 : zEq (η14 16 1) (η 16 1) := (k14.1.2.2.2.1 16 1 (by decide +kernel)).trans v85
    have v87 : zEq (η15 16 1) (η 16 1) := (k15.1.2.2.2.1 16 1 (by decide +kernel)).trans v86
    have v88 : zEq (η16 16 1) (η 16 1) := (k16.1.2.2.2.1 16 1 (by decide +kernel)).trans v87
    have v89 : zEq (η17 16 1) (η 16 1) := by rw [eη17]; exact (zup_ne (fun _ e => absurd e (by decide))).trans v88
    have c17_16_1 : η17 16 1 = η 16 1 := v89
    first
    | replace e22 : x22 = x19 + 1 := zd_a2 (zEq_o e22) (by clear e22; exact ⟨by omega, by omega⟩)
    | clear e22
    have z22 : x22 = 2 := by omega
    first
    | replace e23 : x23 = 3 + x22 := zd_a2 (zEq_o e23) (by clear e23; exact ⟨by omega, by omega⟩)
    | clear e23
    have z23 : x23 = 5 := by omega
    rw [z23] at e24
    have v91 : zEq (η1 16 5) (η 16 5) := by rw [eη1]; exact (zup_ne (fun e _ => absurd e (by decide))).trans rfl
    have v92 : zEq (η2 16 5) (η 16 5) := by rw [eη2]; exact (zup_ne (fun e _ => absurd e (by decide))).trans v91
    have v93 : zEq (η3 16 5) (η 16 5) := by rw [eη3]; exact (zup_ne (fun e _ => absurd e (by decide))).trans v92
    have v94 : zEq (η4 16 5) (η 16 5) := by rw [eη4]; exact (zup_ne (fun e _ => absurd e (by decide))).trans v93
    have v95 : zEq (η5 16 5) (η 16 5) := (k5.1.2.2.2.1 16 5 (by decide +kernel)).trans v94
    have v96 : zEq (η6 16 5) (η 16 5) := (k6.1.2.2.2.1 16 5 (by decide +kernel)).trans v95
    have v97 : zEq (η7 16 5) (η 16 5) := (k7.1.2.2.2.1 16 5 (by decide +kernel)).trans v96
    have v98 : zEq (η8 16 5) (η 16 5) := (k8.1.2.2.2.1 16 5 (by decide +kernel)).trans v97
    have v99 : zEq (η9 16 5) (η 16 5) := (k9.1.2.2.2.1 16 5 (by decide +kernel)).trans v98
    have v100 : zEq (η10 16 5) (η 16 5) := (k10.1.2.2.2.1 16 5 (by decide +kernel)).trans v99
    have v101 : zEq (η11 16 5) (η 16 5) := (k11.1.2.2.2.1 16 5 (by decide +kernel)).trans v100
    have v102 : zEq (η12 16 5) (η 16 5) := (k12.1.2.2.2.1 16 5 (by decide +kernel)).trans v101
    have v103 : zEq (η13 16 5) (η 16 5) := (k13.1.2.2.2.1 16 5 (by decide +kernel)).trans v102
    have v104 : zEq (η14 16 5) (η 16 5) := (k14.1.2.2.2.1 16 5 (by decide +kernel)).trans v103
    have v105 : zEq (η15 16 5) (η 16 5) := (k15.1.2.2.2.1 16 5 (by decide +kernel)).trans v104
    have v106 : zEq (η16 16 5) (η 16 5) := (k16.1.2.2.2.1 16 5 (by decide +kernel)).trans v105
    have v107 : zEq (η17 16 5) (η 16 5) := by rw [eη17]; exact (zup_ne (fun _ e => absurd e (by decide))).trans v106
    have v108 : zEq (η18 16 5) (η 16 5) := by rw [eη18]; exact (zup_ne (fun _ e => absurd e (by decide))).trans v107
    replace e24 : x24 = η 16 5 := e24.trans v108
    replace r24 : 0 ≤ x24 ∧ x24 ≤ 1 := r24
    rw [z22] at eη19
    have v110 : zEq (η1 16 2) (η 16 2) := by rw [eη1]; exact (zup_ne (fun e _ => absurd e (by decide))).trans rfl
    have v111 : zEq (η2 16 2) (η 16 2) := by rw [eη2]; exact (zup_ne (fun e _ => absurd e (by decide))).trans v110
    have v112 : zEq (η3 16 2) (η 16 2) := by rw [eη3]; exact (zup_ne (fun e _ => absurd e (by decide))).trans v111
    have v113 : zEq (η4 16 2) (η 16 2) := by rw [eη4]; exact (zup_ne (fun e _ => absurd e (by decide))).trans v112
    have v114 : zEq (η5 16 2) (η 16 2) := (k5.1.2.2.2.1 16 2 (by decide +kernel)).trans v113
    have v115 : zEq (η6 16 2) (η 16 2) := (k6.1.2.2.2.1 16 2 (by decide +kernel)).trans v114
    have v116 : zEq (η7 16 2) (η 16 2) := (k7.1.2.2.2.1 16 2 (by decide +kernel)).trans v115
    have v117 : zEq (η8 16 2) (η 16 2) := (k8.1.2.2.2.1 16 2 (by decide +kernel)).trans v116
    have v118 : zEq (η9 16 2) (η 16 2) := (k9.1.2.2.2.1 16 2 (by decide +kernel)).trans v117
    have v119 : zEq (η10 16 2) (η 16 2) := (k10.1.2.2.2.1 16 2 (by decide +kernel)).trans v118
    have v120 : zEq (η11 16 2) (η 16 2) := (k11.1.2.2.2.1 16 2 (by decide +kernel)).trans v119
    have v121 : zEq (η12 16 2) (η 16 2) := (k12.1.2.2.2.1 16 2 (by decide +kernel)).trans v120
    have v122 : zEq (η13 16 2) (η 16 2) := (k13.1.2.2.2.1 16 2 (by decide +kernel)).trans v121
    have v123 : zEq (η14 16 2) (η 16 2) := (k14.1.2.2.2.1 16 2 (by decide +kernel)).trans v122
    have v124 : zEq (η15 16 2) (η 16 2) := (k15.1.2.2.2.1 16 2 (by decide +kernel)).trans v123
    have v125 : zEq (η16 16 2) (η 16 2) := (k16.1.2.2.2.1 16 2 (by decide +kernel)).trans v124
    have v126 : zEq (η17 16 2) (η 16 2) := by rw [eη17]; exact (zup_ne (fun _ e => absurd e (by decide))).trans v125
    have v127 : zEq (η18 16 2) (η 16 2) := by rw [eη18]; exact (zup_ne (fun _ e => absurd e (by decide))).trans v126
    have c18_16_2 : η18 16 2 = η 16 2 := v127
    first
    | replace e25 : x25 = x22 + 1 := zd_a2 (zEq_o e25) (by clear e25; exact ⟨by omega, by omega⟩)
    | clear e25
    have z25 : x25 = 3 := by omega
    have bx26 : (0 : Int) ≤ x26 ∧ x26 ≤ 0 := k26.1.2.1
    have bx27 : (0 : Int) ≤ x27 ∧ x27 ≤ 0 := k27.1.2.1
    have bx28 : (0 : Int) ≤ x28 ∧ x28 ≤ 0 := k28.1.2.1
    have bx29 : (0 : Int) ≤ x29 ∧ x29 ≤ 0 := k29.1.2.1
    have bx30 : (0 : Int) ≤ x30 ∧ x30 ≤ 0 := k30.1.2.1
    have bx31 : (0 : Int) ≤ x31 ∧ x31 ≤ 0 := k31.1.2.1
    have fm1 : zFm zMne_keepText η η1 := by rw [eη1]; exact zFm_up zFm_rf rfl
    have fm2 : zFm zMne_keepText η η2 := by rw [eη2]; exact zFm_up fm1 rfl
    have fm3 : zFm zMne_keepText η η3 := by rw [eη3]; exact zFm_up fm2 rfl
    have fm4 : zFm zMne_keepText η η4 := by rw [eη4]; exact zFm_up fm3 rfl
    have fm5 : zFm zMne_keepText η η5 := zFm_tr2 fm4 k5.1.2.2.2.1 (by decide +kernel)
    have fm6 : zFm zMne_keepText η η6 := zFm_tr2 fm5 k6.1.2.2.2.1 (by decide +kernel)
    have fm7 : zFm zMne_keepText η η7 := zFm_tr2 fm6 k7.1.2.2.2.1 (by decide +kernel)
    have fm8 : zFm zMne_keepText η η8 := zFm_tr2 fm7 k8.1.2.2.2.1 (by decide +kernel)
    have fm9 : zFm zMne_keepText η η9 := zFm_tr2 fm8 k9.1.2.2.2.1 (by decide +kernel)
    have fm10 : zFm zMne_keepText η η10 := zFm_tr2 fm9 k10.1.2.2.2.1 (by decide +kernel)
    have fm11 : zFm zMne_keepText η η11 := zFm_tr2 fm10 k11.1.2.2.2.1 (by decide +kernel)
    have fm12 : zFm zMne_keepText η η12 := zFm_tr2 fm11 k12.1.2.2.2.1 (by decide +kernel)
    have fm13 : zFm zMne_keepText η η13 := zFm_tr2 fm12 k13.1.2.2.2.1 (by decide +kernel)
    have fm14 : zFm zMne_keepText η η14 := zFm_tr2 fm13 k14.1.2.2.2.1 (by decide +kernel)
    have fm15 : zFm zMne_keepText η η15 := zFm_tr2 fm14 k15.1.2.2.2.1 (by decide +kernel)
    have fm16 : zFm zMne_keepText η η16 := zFm_tr2 fm15 k16.1.2.2.2.1 (by decide +kernel)
    have fm17 : zFm zMne_keepText η η17 := by rw [eη17]; exact zFm_up fm16 rfl
    have fm18 : zFm zMne_keepText η η18 := by rw [eη18]; exact zFm_up fm17 rfl
    have fm19 : zFm zMne_keepText η η19 := by rw [eη19]; exact zFm_up fm18 rfl
    have fm20 : zFm zMne_keepText η η20 := zFm_tr2 fm19 k26.1.2.2.2.1 (by decide +kernel)
    have fm21 : zFm zMne_keepText η η21 := zFm_tr2 fm20 k27.1.2.2.2.1 (by decide +kernel)
    have fm22 : zFm zMne_keepText η η22 := zFm_tr2 fm21 k28.1.2.2.2.1 (by decide +kernel)
    have fm23 : zFm zMne_keepText η η23 := zFm_tr2 fm22 k29.1.2.2.2.1 (by decide +kernel)
    have fm24 : zFm zMne_keepText η η24 := zFm_tr2 fm23 k30.1.2.2.2.1 (by decide +kernel)
    have fm25 : zFm zMne_keepText η η25 := zFm_tr2 fm24 k31.1.2.2.2.1 (by decide +kernel)
    have fmE : zFm zMne_keepText η η25 := fm25
    have fr4_0 : ∀ j, η 4 j = η 4 j := fun _ => rfl
    have v128 : ∀ j, η1 4 j = η 4 j := fun j => by rw [eη1]; exact zup_ne (fun e _ => absurd e (by decide))
    have fr4_1 : ∀ j, η1 4 j = η 4 j := v128
    have v129 : ∀ j, η2 4 j = η 4 j := fun j => by rw [eη2]; exact (zup_ne (fun e _ => absurd e (by decide))).trans (v128 j)
    have fr4_2 : ∀ j, η2 4 j = η 4 j := v129
    have v130 : ∀ j, η3 4 j = η 4 j := fun j => by rw [eη3]; exact (zup_ne (fun e _ => absurd e (by decide))).trans (v129 j)
    have fr4_3 : ∀ j, η3 4 j = η 4 j := v130
    have v131 : ∀ j, η4 4 j = η 4 j := fun j => by rw [eη4]; exact (zup_ne (fun e _ => absurd e (by decide))).trans (v130 j)
    have fr4_4 : ∀ j, η4 4 j = η 4 j := v131
    have fr4_5 : ∀ j, η5 4 j = η5 4 j := fun _ => rfl
    have v133 : ∀ j, η6 4 j = η5 4 j := fun j => k6.1.2.2.2.1 4 _ (zinr_not (by decide +kernel))
    have fr4_6 : ∀ j, η6 4 j = η5 4 j := v133
    have v134 : ∀ j, η7 4 j = η5 4 j := fun j => (k7.1.2.2.2.1 4 _ (zinr_not (by decide +kernel))).trans (v133 j)
    have fr4_7 : ∀ j, η7 4 j = η5 4 j := v134
    have v135 : ∀ j, η8 4 j = η5 4 j := fun j => (k8.1.2.2.2.1 4 _ (zinr_not (by decide +kernel))).trans (v134 j)
    have fr4_8 : ∀ j, η8 4 j = η5 4 j := v135
    have v136 : ∀ j, η9 4 j = η5 4 j := fun j => (k9.1.2.2.2.1 4 _ (zinr_not (by decide +kernel))).trans (v135 j)
    have fr4_9 : ∀ j, η9 4 j = η5 4 j := v136
    have v137 : ∀ j, η10 4 j = η5 4 j := fun j => (k10.1.2.2.2.1 4 _ (zinr_not (by decide +kernel))).trans (v136 j)
    have fr4_10 : ∀ j, η10 4 j = η5 4 j := v137
    have v138 : ∀ j, η11 4 j = η5 4 j := fun j => (k11.1.2.2.2.1 4 _ (zinr_not (by decide +kernel))).trans (v137 j)
    have fr4_11 : ∀ j, η11 4 j = η5 4 j := v138
    have v139 : ∀ j, η12 4 j = η5 4 j := fun j => (k12.1.2.2.2.1 4 _ (zinr_not (by decide +kernel))).trans (v138 j)
    have fr4_12 : ∀ j, η12 4 j = η5 4 j := v139
    have v140 : ∀ j, η13 4 j = η5 4 j := fun j => (k13.1.2.2.2.1 4 _ (zinr_not (by decide +kernel))).trans (v139 j)
    have fr4_13 : ∀ j, η13 4 j = η5 4 j := v140
    have v141 : ∀ j, η14 4 j = η5 4 j := fun j => (k14.1.2.2.2.1 4 _ (zinr_not (by decide +kernel))).trans (v140 j)
    have fr4_14 : ∀ j, η14 4 j = η5 4 j := v141
    have v142 : ∀ j, η15 4 j = η5 4 j := fun j => (k15.1.2.2.2.1 4 _ (zinr_not (by decide +kernel))).trans (v141 j)
    have fr4_15 : ∀ j, η15 4 j = η5 4 j := v142
    have v143 : ∀ j, η16 4 j = η5 4 j := fun j => (k16.1.2.2.2.1 4 _ (zinr_not (by decide +kernel))).trans (v142 j)
    have fr4_16 : ∀ j, η16 4 j = η5 4 j := v143
    have v144 : ∀ j, η17 4 j = η5 4 j := fun j => by rw [eη17]; exact (zup_ne (fun e _ => absurd e (by decide))).trans (v143 j)
    have fr4_17 : ∀ j, η17 4 j = η5 4 j := v144
    have v145 : ∀ j, η18 4 j = η5 4 j := fun j => by rw [eη18]; exact (zup_ne (fun e _ => absurd e (by decide))).trans (v144 j)
    have fr4_18 : ∀ j, η18 4 j = η5 4 j := v145
    have v146 : ∀ j, η19 4 j = η5 4 j := fun j => by rw [eη19]; exact (zup_ne (fun e _ => absurd e (by decide))).trans (v145 j)
    have fr4_19 : ∀ j, η19 4 j = η5 4 j := v146
    have v147 : ∀ j, η20 4 j = η5 4 j := fun j => (k26.1.2.2.2.1 4 _ (zinr_not (by decide +kernel))).trans (v146 j)
    have fr4_20 : ∀ j, η20 4 j = η5 4 j := v147
    have v148 : ∀ j, η21 4 j = η5 4 j := fun j => (k27.1.2.2.2.1 4 _ (zinr_not (by decide +kernel))).trans (v147 j)
    have fr4_21 : ∀ j, η21 4 j = η5 4 j := v148
    have v149 : ∀ j, η22 4 j = η5 4 j := fun j => (k28.1.2.2.2.1 4 _ (zinr_not (by decide +kernel))).trans (v148 j)
    have fr4_22 : ∀ j, η22 4 j = η5 4 j := v149
    have v150 : ∀ j, η23 4 j = η5 4 j := fun j => (k29.1.2.2.2.1 4 _ (zinr_not (by decide +kernel))).trans (v149 j)
    have fr4_23 : ∀ j, η23 4 j = η5 4 j := v150
    have v151 : ∀ j, η24 4 j = η5 4 j := fun j => (k30.1.2.2.2.1 4 _ (zinr_not (by decide +kernel))).trans (v150 j)
    have fr4_24 : ∀ j, η24 4 j = η5 4 j := v151
    have v152 : ∀ j, η25 4 j = η5 4 j := fun j => (k31.1.2.2.2.1 4 _ (zinr_not (by decide +kernel))).trans (v151 j)
    have fr4_25 : ∀ j, η25 4 j = η5 4 j := v152
    have fr5_0 : ∀ j, η 5 j = η 5 j := fun _ => rfl
    have v153 : ∀ j, η1 5 j = η 5 j := fun j => by rw [eη1]; exact zup_ne (fun e _ => absurd e (by decide))
    have fr5_1 : ∀ j, η1 5 j = η 5 j := v153
    have v154 : ∀ j, η2 5 j = η 5 j := fun j => by rw [eη2]; exact (zup_ne (fun e _ => absurd e (by decide))).trans (v153 j)
    have fr5_2 : ∀ j, η2 5 j = η 5 j := v154
    have v155 : ∀ j, η3 5 j = η 5 j := fun j => by rw [eη3]; exact (zup_ne (fun e _ => absurd e (by decide))).trans (v154 j)
    have fr5_3 : ∀ j, η3 5 j = η 5 j := v155
    have v156 : ∀ j, η4 5 j = η 5 j := fun j => by rw [eη4]; exact (zup_ne (fun e _ => absurd e (by decide))).trans (v155 j)
    have fr5_4 : ∀ j, η4 5 j = η 5 j := v156
    have v157 : ∀ j, η5 5 j = η 5 j := fun j => (k5.1.2.2.2.1 5 _ (zinr_not (by decide +kernel))).trans (v156 j)
    have fr5_5 : ∀ j, η5 5 j = η 5 j := v157
    have fr5_6 : ∀ j, η6 5 j = η6 5 j := fun _ => rfl
    have v159 : ∀ j, η7 5 j = η6 5 j := fun j => k7.1.2.2.2.1 5 _ (zinr_not (by decide +kernel))
    have fr5_7 : ∀ j, η7 5 j = η6 5 j := v159
    have v160 : ∀ j, η8 5 j = η6 5 j := fun j => (k8.1.2.2.2.1 5 _ (zinr_not (by decide +kernel))).trans (v159 j)
    have fr5_8 : ∀ j, η8 5 j = η6 5 j := v160
    have v161 : ∀ j, η9 5 j = η6 5 j := fun j => (k9.1.2.2.2.1 5 _ (zinr_not (by decide +kernel))).trans (v160 j)
    have fr5_9 : ∀ j, η9 5 j = η6 5 j := v161
    have v162 : ∀ j, η10 5 j = η6 5 j := fun j => (k10.1.2.2.2.1 5 _ (zinr_not (by decide +kernel))).trans (v161 j)
    have fr5_10 : ∀ j, η10 5 j = η6 5 j := v162
    have v163 : ∀ j, η11 5 j = η6 5 j := fun j => (k11.1.2.2.2.1 5 _ (zinr_not (by decide +kernel))).trans (v162 j)
    have fr5_11 : ∀ j, η11 5 j = η6 5 j := v163
    have v164 : ∀ j, η12 5 j = η6 5 j := fun j => (k12.1.2.2.2.1 5 _ (zinr_not (by decide +kernel))).trans (v163 j)
    have fr5_12 : ∀ j, η12 5 j = η6 5 j := v164
    have v165 : ∀ j, η13 5 j = η6 5 j := fun j => (k13.1.2.2.2.1 5 _ (zinr_not (by decide +kernel))).trans (v164 j)
    have fr5_13 : ∀ j, η13 5 j = η6 5 j := v165
    have v166 : ∀ j, η14 5 j = η6 5 j := fun j => (k14.1.2.2.2.1 5 _ (zinr_not (by decide +kernel))).trans (v165 j)
    have fr5_14 : ∀ j, η14 5 j = η6 5 j := v166
    have v167 : ∀ j, η15 5 j = η6 5 j := fun j => (k15.1.2.2.2.1 5 _ (zinr_not (by decide +kernel))).trans (v166 j)
    have fr5_15 : ∀ j, η15 5 j = η6 5 j := v167
    have v168 : ∀ j, η16 5 j = η6 5 j := fun j => (k16.1.2.2.2.1 5 _ (zinr_not (by decide +kernel))).trans (v167 j)
    have fr5_16 : ∀ j, η16 5 j = η6 5 j := v168
    have v169 : ∀ j, η17 5 j = η6 5 j := fun j => by rw [eη17]; exact (zup_ne (fun e _ => absurd e (by decide))).trans (v168 j)
    have fr5_17 : ∀ j, η17 5 j = η6 5 j := v169
    have v170 : ∀ j, η18 5 j = η6 5 j := fun j => by rw [eη18]; exact (zup_ne (fun e _ => absurd e (by decide))).trans (v169 j)
    have fr5_18 : ∀ j, η18 5 j = η6 5 j := v170
    have v171 : ∀ j, η19 5 j = η6 5 j := fun j => by rw [eη19]; exact (zup_ne (fun e _ => absurd e (by decide))).trans (v170 j)
    have fr5_19 : ∀ j, η19 5 j = η6 5 j := v171
    have v172 : ∀ j, η20 5 j = η6 5 j := fun j => (k26.1.2.2.2.1 5 _ (zinr_not (by decide +kernel))).trans (v171 j)
    have fr5_20 : ∀ j, η20 5 j = η6 5 j := v172
    have v173 : ∀ j, η21 5 j = η6 5 j := fun j => (k27.1.2.2.2.1 5 _ (zinr_not (by decide +kernel))).trans (v172 j)
    have fr5_21 : ∀ j, η21 5 j = η6 5 j := v173
    have v174 : ∀ j, η22 5 j = η6 5 j := fun j => (k28.1.2.2.2.1 5 _ (zinr_not (by decide +kernel))).trans (v173 j)
    have fr5_22 : ∀ j, η22 5 j = η6 5 j := v174
    have v175 : ∀ j, η23 5 j = η6 5 j := fun j => (k29.1.2.2.2.1 5 _ (zinr_not (by decide +kernel))).trans (v174 j)
    have fr5_23 : ∀ j, η23 5 j = η6 5 j := v175
    have v176 : ∀ j, η24 5 j = η6 5 j := fun j => (k30.1.2.2.2.1 5 _ (zinr_not (by decide +kernel))).trans (v175 j)
    have fr5_24 : ∀ j, η24 5 j = η6 5 j := v176
    have v177 : ∀ j, η25 5 j = η6 5 j := fun j => (k31.1.2.2.2.1 5 _ (zinr_not (by decide +kernel))).trans (v176 j)
    have fr5_25 : ∀ j, η25 5 j = η6 5 j := v177
    have fr6_0 : ∀ j, η 6 j = η 6 j := fun _ => rfl
    have v178 : ∀ j, η1 6 j = η 6 j := fun j => by rw [eη1]; exact zup_ne (fun e _ => absurd e (by decide))
    have fr6_1 : ∀ j, η1 6 j = η 6 j := v178
    have v179 : ∀ j, η2 6 j = η 6 j := fun j => by rw [eη2]; exact (zup_ne (fun e _ => absurd e (by decide))).trans (v178 j)
    have fr6_2 : ∀ j, η2 6 j = η 6 j := v179
    have v180 : ∀ j, η3 6 j = η 6 j := fun j => by rw [eη3]; exact (zup_ne (fun e _ => absurd e (by decide))).trans (v179 j)
    have fr6_3 : ∀ j, η3 6 j = η 6 j := v180
    have v181 : ∀ j, η4 6 j = η 6 j := fun j => by rw [eη4]; exact (zup_ne (fun e _ => absurd e (by decide))).trans (v180 j)
    have fr6_4 : ∀ j, η4 6 j = η 6 j := v181
    have v182 : ∀ j, η5 6 j = η 6 j := fun j => (k5.1.2.2.2.1 6 _ (zinr_not (by decide +kernel))).trans (v181 j)
    have fr6_5 : ∀ j, η5 6 j = η 6 j := v182
    have v183 : ∀ j, η6 6 j = η 6 j := fun j => (k6.1.2.2.2.1 6 _ (zinr_not (by decide +kernel))).trans (v182 j)
    have fr6_6 : ∀ j, η6 6 j = η 6 j := v183
    have fr6_7 : ∀ j, η7 6 j = η7 6 j := fun _ => rfl
    have v185 : ∀ j, η8 6 j = η7 6 j := fun j => k8.1.2.2.2.1 6 _ (zinr_not (by decide +kernel))
    have fr6_8 : ∀ j, η8 6 j = η7 6 j := v185
    have v186 : ∀ j, η9 6 j = η7 6 j := fun j => (k9.1.2.2.2.1 6 _ (zinr_not (by decide +kernel))).trans (v185 j)
    have fr6_9 : ∀ j, η9 6 j = η7 6 j := v186
    have v187 : ∀ j, η10 6 j = η7 6 j := fun j => (k10.1.2.2.2.1 6 _ (zinr_not (by decide +kernel))).trans (v186 j)
    have fr6_10 : ∀ j, η10 6 j = η7 6 j := v187
    have v188 : ∀ j, η11 6 j = η7 6 j := fun j => (k11.1.2.2.2.1 6 _ (zinr_not (by decide +kernel))).trans (v187 j)
    have fr6_11 : ∀ j, η11 6 j = η7 6 j := v188
    have v189 : ∀ j, η12 6 j = η7 6 j := fun j => (k12.1.2.2.2.1 6 _ (zinr_not (by decide +kernel))).trans (v188 j)
    have fr6_12 : ∀ j, η12 6 j = η7 6 j := v189
    have v190 : ∀ j, η13 6 j = η7 6 j := fun j => (k13.1.2.2.2.1 6 _ (zinr_not (by decide +kernel))).trans (v189 j)
    have fr6_13 : ∀ j, η13 6 j = η7 6 j := v190
    have v191 : ∀ j, η14 6 j = η7 6 j := fun j => (k14.1.2.2.2.1 6 _ (zinr_not (by decide +kernel))).trans (v190 j)
    have fr6_14 : ∀ j, η14 6 j = η7 6 j := v191
    have v192 : ∀ j, η15 6 j = η7 6 j := fun j => (k15.1.2.2.2.1 6 _ (zinr_not (by decide +kernel))).trans (v191 j)
    have fr6_15 : ∀ j, η15 6 j = η7 6 j := v192
    have v193 : ∀ j, η16 6 j = η7 6 j := fun j => (k16.1.2.2.2.1 6 _ (zinr_not (by decide +kernel))).trans (v192 j)
    have fr6_16 : ∀ j, η16 6 j = η7 6 j := v193
    have v194 : ∀ j, η17 6 j = η7 6 j := fun j => by rw [eη17]; exact (zup_ne (fun e _ => absurd e (by decide))).trans (v193 j)
    have fr6_17 : ∀ j, η17 6 j = η7 6 j := v194
    have v195 : ∀ j, η18 6 j = η7 6 j := fun j => by rw [eη18]; exact (zup_ne (fun e _ => absurd e (by decide))).trans (v194 j)
    have fr6_18 : ∀ j, η18 6 j = η7 6 j := v195
    have v196 : ∀ j, η19 6 j = η7 6 j := fun j => by rw [eη19]; exact (zup_ne (fun e _ => absurd e (by decide))).trans (v195 j)
    have fr6_19 : ∀ j, η19 6 j = η7 6 j := v196
    have v197 : ∀ j, η20 6 j = η7 6 j := fun j => (k26.1.2.2.2.1 6 _ (zinr_not (by decide +kernel))).trans (v196 j)
    have fr6_20 : ∀ j, η20 6 j = η7 6 j := v197
    have v198 : ∀ j, η21 6 j = η7 6 j := fun j => (k27.1.2.2.2.1 6 _ (zinr_not (by decide +kernel))).trans (v197 j)
    have fr6_21 : ∀ j, η21 6 j = η7 6 j := v198
    have v199 : ∀ j, η22 6 j = η7 6 j := fun j => (k28.1.2.2.2.1 6 _ (zinr_not (by decide +kernel))).trans (v198 j)
    have fr6_22 : ∀ j, η22 6 j = η7 6 j := v199
    have v200 : ∀ j, η23 6 j = η7 6 j := fun j => (k29.1.2.2.2.1 6 _ (zinr_not (by decide +kernel))).trans (v199 j)
    have fr6_23 : ∀ j, η23 6 j = η7 6 j := v200
    have v201 : ∀ j, η24 6 j = η7 6 j := fun j => (k30.1.2.2.2.1 6 _ (zinr_not (by decide +kernel))).trans (v200 j)
    have fr6_24 : ∀ j, η24 6 j = η7 6 j := v201
    have v202 : ∀ j, η25 6 j = η7 6 j := fun j => (k31.1.2.2.2.1 6 _ (zinr_not (by decide +kernel))).trans (v201 j)
    have fr6_25 : ∀ j, η25 6 j = η7 6 j := v202
    have fr7_0 : ∀ j, η 7 j = η 7 j := fun _ => rfl
    have v203 : ∀ j, η1 7 j = η 7 j := fun j => by rw [eη1]; exact zup_ne (fun e _ => absurd e (by decide))
    have fr7_1 : ∀ j, η1 7 j = η 7 j := v203
    have v204 : ∀ j, η2 7 j = η 7 j := fun j => by rw [eη2]; exact (zup_ne (fun e _ => absurd e (by decide))).trans (v203 j)
    have fr7_2 : ∀ j, η2 7 j = η 7 j := v204
    have v205 : ∀ j, η3 7 j = η 7 j := fun j => by rw [eη3]; exact (zup_ne (fun e _ => absurd e (by decide))).trans (v204 j)
    have fr7_3 : ∀ j, η3 7 j = η 7 j := v205
    have v206 : ∀ j, η4 7 j = η 7 j := fun j => by rw [eη4]; exact (zup_ne (fun e _ => absurd e (by decide))).trans (v205 j)
    have fr7_4 : ∀ j, η4 7 j = η 7 j := v206
    have v207 : ∀ j, η5 7 j = η 7 j := fun j => (k5.1.2.2.2.1 7 _ (zinr_not (by decide +kernel))).trans (v206 j)
    have fr7_5 : ∀ j, η5 7 j = η 7 j := v207
    have v208 : ∀ j, η6 7 j = η 7 j := fun j => (k6.1.2.2.2.1 7 _ (zinr_not (by decide +kernel))).trans (v207 j)
    have fr7_6 : ∀ j, η6 7 j = η 7 j := v208
    have v209 : ∀ j, η7 7 j = η 7 j := fun j => (k7.1.2.2.2.1 7 _ (zinr_not (by decide +kernel))).trans (v208 j)
    have fr7_7 : ∀ j, η7 7 j = η 7 j := v209
    have fr7_8 : ∀ j, η8 7 j = η8 7 j := fun _ => rfl
    have v211 : ∀ j, η9 7 j = η8 7 j := fun j => k9.1.2.2.2.1 7 _ (zinr_not (by decide +kernel))
    have fr7_9 : ∀ j, η9 7 j = η8 7 j := v211
    have v212 : ∀ j, η10 7 j = η8 7 j := fun j => (k10.1.2.2.2.1 7 _ (zinr_not (by decide +kernel))).trans (v211 j)
    have fr7_10 : ∀ j, η10 7 j = η8 7 j := v212
    have v213 : ∀ j, η11 7 j = η8 7 j := fun j => (k11.1.2.2.2.1 7 _ (zinr_not (by decide +kernel))).trans (v212 j)
    have fr7_11 : ∀ j, η11 7 j = η8 7 j := v213
    have v214 : ∀ j, η12 7 j = η8 7 j := fun j => (k12.1.2.2.2.1 7 _ (zinr_not (by decide +kernel))).trans (v213 j)
    have fr7_12 : ∀ j, η12 7 j = η8 7 j := v214
    have v215 : ∀ j, η13 7 j = η8 7 j := fun j => (k13.1.2.2.2.1 7 _ (zinr_not (by decide +kernel))).trans (v214 j)
    have fr7_13 : ∀ j, η13 7 j = η8 7 j := v215
    have v216 : ∀ j, η14 7 j = η8 7 j := fun j => (k14.1.2.2.2.1 7 _ (zinr_not (by decide +kernel))).trans (v215 j)
    have fr7_14 : ∀ j, η14 7 j = η8 7 j := v216
    have v217 : ∀ j, η15 7 j = η8 7 j := fun j => (k15.1.2.2.2.1 7 _ (zinr_not (by decide +kernel))).trans (v216 j)
    have fr7_15 : ∀ j, η15 7 j = η8 7 j := v217
    have v218 : ∀ j, η16 7 j = η8 7 j := fun j => (k16.1.2.2.2.1 7 _ (zinr_not (by decide +kernel))).trans (v217 j)
    have fr7_16 : ∀ j, η16 7 j = η8 7 j := v218
    have v219 : ∀ j, η17 7 j = η8 7 j := fun j => by rw [eη17]; exact (zup_ne (fun e _ => absurd e (by decide))).trans (v218 j)
    have fr7_17 : ∀ j, η17 7 j = η8 7 j := v219
    have v220 : ∀ j, η18 7 j = η8 7 j := fun j => by rw [eη18]; exact (zup_ne (fun e _ => absurd e (by decide))).trans (v219 j)
    have fr7_18 : ∀ j, η18 7 j = η8 7 j := v220
    have v221 : ∀ j, η19 7 j = η8 7 j := fun j => by rw [eη19]; exact (zup_ne (fun e _ => absurd e (by decide))).trans (v220 j)
    have fr7_19 : ∀ j, η19 7 j = η8 7 j := v221
    have v222 : ∀ j, η20 7 j = η8 7 j := fun j => (k26.1.2.2.2.1 7 _ (zinr_not (by decide +kernel))).trans (v221 j)
    have fr7_20 : ∀ j, η20 7 j = η8 7 j := v222
    have v223 : ∀ j, η21 7 j = η8 7 j := fun j => (k27.1.2.2.2.1 7 _ (zinr_not (by decide +kernel))).trans (v222 j)
    have fr7_21 : ∀ j, η21 7 j = η8 7 j := v223
    have v224 : ∀ j, η22 7 j = η8 7 j := fun j => (k28.1.2.2.2.1 7 _ (zinr_not (by decide +kernel))).trans (v223 j)
    have fr7_22 : ∀ j, η22 7 j = η8 7 j := v224
    have v225 : ∀ j, η23 7 j = η8 7 j := fun j => (k29.1.2.2.2.1 7 _ (zinr_not (by decide +kernel))).trans (v224 j)
    have fr7_23 : ∀ j, η23 7 j = η8 7 j := v225
    have v226 : ∀ j, η24 7 j = η8 7 j := fun j => (k30.1.2.2.2.1 7 _ (zinr_not (by decide +kernel))).trans (v225 j)
    have fr7_24 : ∀ j, η24 7 j = η8 7 j := v226
    have v227 : ∀ j, η25 7 j = η8 7 j := fun j => (k31.1.2.2.2.1 7 _ (zinr_not (by decide +kernel))).trans (v226 j)
    have fr7_25 : ∀ j, η25 7 j = η8 7 j := v227
    have fr8_0 : ∀ j, η 8 j = η 8 j := fun _ => rfl
    have v228 : ∀ j, η1 8 j = η 8 j := fun j => by rw [eη1]; exact zup_ne (fun e _ => absurd e (by decide))
    have fr8_1 : ∀ j, η1 8 j = η 8 j := v228
    have v229 : ∀ j, η2 8 j = η 8 j := fun j => by rw [eη2]; exact (zup_ne (fun e _ => absurd e (by decide))).trans (v228 j)
    have fr8_2 : ∀ j, η2 8 j = η 8 j := v229
    have v230 : ∀ j, η3 8 j = η 8 j := fun j => by rw [eη3]; exact (zup_ne (fun e _ => absurd e (by decide))).trans (v229 j)
    have fr8_3 : ∀ j, η3 8 j = η 8 j := v230
    have v231 : ∀ j, η4 8 j = η 8 j := fun j => by rw [eη4]; exact (zup_ne (fun e _ => absurd e (by decide))).trans (v230 j)
    have fr8_4 : ∀ j, η4 8 j = η 8 j := v231
    have v232 : ∀ j, η5 8 j = η 8 j := fun j => (k5.1.2.2.2.1 8 _ (zinr_not (by decide +kernel))).trans (v231 j)
    have fr8_5 : ∀ j, η5 8 j = η 8 j := v232
    have v233 : ∀ j, η6 8 j = η 8 j := fun j => (k6.1.2.2.2.1 8 _ (zinr_not (by decide +kernel))).trans (v232 j)
    have fr8_6 : ∀ j, η6 8 j = η 8 j := v233
    have v234 : ∀ j, η7 8 j = η 8 j := fun j => (k7.1.2.2.2.1 8 _ (zinr_not (by decide +kernel))).trans (v233 j)
    have fr8_7 : ∀ j, η7 8 j = η 8 j := v234
    have v235 : ∀ j, η8 8 j = η 8 j := fun j => (k8.1.2.2.2.1 8 _ (zinr_not (by decide +kernel))).trans (v234 j)
    have fr8_8 : ∀ j, η8 8 j = η 8 j := v235
    have fr8_9 : ∀ j, η9 8 j = η9 8 j := fun _ => rfl
    have v237 : ∀ j, η10 8 j = η9 8 j := fun j => k10.1.2.2.2.1 8 _ (zinr_not (by decide +kernel))
    have fr8_10 : ∀ j, η10 8 j = η9 8 j := v237
    have v238 : ∀ j, η11 8 j = η9 8 j := fun j => (k11.1.2.2.2.1 8 _ (zinr_not (by decide +kernel))).trans (v237 j)
    have fr8_11 : ∀ j, η11 8 j = η9 8 j := v238
    have v239 : ∀ j, η12 8 j = η9 8 j := fun j => (k12.1.2.2.2.1 8 _ (zinr_not (by decide +kernel))).trans (v238 j)
    have fr8_12 : ∀ j, η12 8 j = η9 8 j := v239
    have v240 : ∀ j, η13 8 j = η9 8 j := fun j => (k13.1.2.2.2.1 8 _ (zinr_not (by decide +kernel))).trans (v239 j)
    have fr8_13 : ∀ j, η13 8 j = η9 8 j := v240
    have v241 : ∀ j, η14 8 j = η9 8 j := fun j => (k14.1.2.2.2.1 8 _ (zinr_not (by decide +kernel))).trans (v240 j)
    have fr8_14 : ∀ j, η14 8 j = η9 8 j := v241
    have v242 : ∀ j, η15 8 j = η9 8 j := fun j => (k15.1.2.2.2.1 8 _ (zinr_not (by decide +kernel))).trans (v241 j)
    have fr8_15 : ∀ j, η15 8 j = η9 8 j := v242
    have v243 : ∀ j, η16 8 j = η9 8 j := fun j => (k16.1.2.2.2.1 8 _ (zinr_not (by decide +kernel))).trans (v242 j)
    have fr8_16 : ∀ j, η16 8 j = η9 8 j := v243
    have v244 : ∀ j, η17 8 j = η9 8 j := fun j => by rw [eη17]; exact (zup_ne (fun e _ => absurd e (by decide))).trans (v243 j)
    have fr8_17 : ∀ j, η17 8 j = η9 8 j := v244
    have v245 : ∀ j, η18 8 j = η9 8 j := fun j => by rw [eη18]; exact (zup_ne (fun e _ => absurd e (by decide))).trans (v244 j)
    have fr8_18 : ∀ j, η18 8 j = η9 8 j := v245
    have v246 : ∀ j, η19 8 j = η9 8 j := fun j => by rw [eη19]; exact (zup_ne (fun e _ => absurd e (by decide))).trans (v245 j)
    have fr8_19 : ∀ j, η19 8 j = η9 8 j := v246
    have v247 : ∀ j, η20 8 j = η9 8 j := fun j => (k26.1.2.2.2.1 8 _ (zinr_not (by decide +kernel))).trans (v246 j)
    have fr8_20 : ∀ j, η20 8 j = η9 8 j := v247
    have v248 : ∀ j, η21 8 j = η9 8 j := fun j => (k27.1.2.2.2.1 8 _ (zinr_not (by decide +kernel))).trans (v247 j)
    have fr8_21 : ∀ j, η21 8 j = η9 8 j := v248
    have v249 : ∀ j, η22 8 j = η9 8 j := fun j => (k28.1.2.2.2.1 8 _ (zinr_not (by decide +kernel))).trans (v248 j)
    have fr8_22 : ∀ j, η22 8 j = η9 8 j := v249
    have v250 : ∀ j, η23 8 j = η9 8 j := fun j => (k29.1.2.2.2.1 8 _ (zinr_not (by decide +kernel))).trans (v249 j)
    have fr8_23 : ∀ j, η23 8 j = η9 8 j := v250
    have v251 : ∀ j, η24 8 j = η9 8 j := fun j => (k30.1.2.2.2.1 8 _ (zinr_not (by decide +kernel))).trans (v250 j)
    have fr8_24 : ∀ j, η24 8 j = η9 8 j := v251
    have v252 : ∀ j, η25 8 j = η9 8 j := fun j => (k31.1.2.2.2.1 8 _ (zinr_not (by decide +kernel))).trans (v251 j)
    have fr8_25 : ∀ j, η25 8 j = η9 8 j := v252
    have fr9_0 : ∀ j, η 9 j = η 9 j := fun _ => rfl
    have v253 : ∀ j, η1 9 j = η 9 j := fun j => by rw [eη1]; exact zup_ne (fun e _ => absurd e (by decide))
    have fr9_1 : ∀ j, η1 9 j = η 9 j := v253
    have v254 : ∀ j, η2 9 j = η 9 j := fun j => by rw [eη2]; exact (zup_ne (fun e _ => absurd e (by decide))).trans (v253 j)
    have fr9_2 : ∀ j, η2 9 j = η 9 j := v254
    have v255 : ∀ j, η3 9 j = η 9 j := fun j => by rw [eη3]; exact (zup_ne (fun e _ => absurd e (by decide))).trans (v254 j)
    have fr9_3 : ∀ j, η3 9 j = η 9 j := v255
    have v256 : ∀ j, η4 9 j = η 9 j := fun j => by rw [eη4]; exact (zup_ne (fun e _ => absurd e (by decide))).trans (v255 j)
    have fr9_4 : ∀ j, η4 9 j = η 9 j := v256
    have v257 : ∀ j, η5 9 j = η 9 j := fun j => (k5.1.2.2.2.1 9 _ (zinr_not (by decide +kernel))).trans (v256 j)
    have fr9_5 : ∀ j, η5 9 j = η 9 j := v257
    have v258 : ∀ j, η6 9 j = η 9 j := fun j => (k6.1.2.2.2.1 9 _ (zinr_not (by decide +kernel))).trans (v257 j)
    have fr9_6 : ∀ j, η6 9 j = η 9 j := v258
    have v259 : ∀ j, η7 9 j = η 9 j := fun j => (k7.1.2.2.2.1 9 _ (zinr_not (by decide +kernel))).trans (v258 j)
    have fr9_7 : ∀ j, η7 9 j = η 9 j := v259
    have v260 : ∀ j, η8 9 j = η 9 j := fun j => (k8.1.2.2.2.1 9 _ (zinr_not (by decide +kernel))).trans (v259 j)
    have fr9_8 : ∀ j, η8 9 j = η 9 j := v260
    have v261 : ∀ j, η9 9 j = η 9 j := fun j => (k9.1.2.2.2.1 9 _ (zinr_not (by decide +kernel))).trans (v260 j)
    have fr9_9 : ∀ j, η9 9 j = η 9 j := v261
    have fr9_10 : ∀ j, η10 9 j = η10 9 j := fun _ => rfl
    have v263 : ∀ j, η11 9 j = η10 9 j := fun j => k11.1.2.2.2.1 9 _ (zinr_not (by decide +kernel))
    have fr9_11 : ∀ j, η11 9 j = η10 9 j := v263
    have v264 : ∀ j, η12 9 j = η10 9 j := fun j => (k12.1.2.2.2.1 9 _ (zinr_not (by decide +kernel))).trans (v263 j)
    have fr9_12 : ∀ j, η12 9 j = η10 9 j := v264
    have v265 : ∀ j, η13 9 j = η10 9 j := fun j => (k13.1.2.2.2.1 9 _ (zinr_not (by decide +kernel))).trans (v264 j)
    have fr9_13 : ∀ j, η13 9 j = η10 9 j := v265
    have v266 : ∀ j, η14 9 j = η10 9 j := fun j => (k14.1.2.2.2.1 9 _ (zinr_not (by decide +kernel))).trans (v265 j)
    have fr9_14 : ∀ j, η14 9 j = η10 9 j := v266
    have v267 : ∀ j, η15 9 j = η10 9 j := fun j => (k15.1.2.2.2.1 9 _ (zinr_not (by decide +kernel))).trans (v266 j)
    have fr9_15 : ∀ j, η15 9 j = η10 9 j := v267
    have v268 : ∀ j, η16 9 j = η10 9 j := fun j => (k16.1.2.2.2.1 9 _ (zinr_not (by decide +kernel))).trans (v267 j)
    have fr9_16 : ∀ j, η16 9 j = η10 9 j := v268
    have v269 : ∀ j, η17 9 j = η10 9 j := fun j => by rw [eη17]; exact (zup_ne (fun e _ => absurd e (by decide))).trans (v268 j)
    have fr9_17 : ∀ j, η17 9 j = η10 9 j := v269
    have v270 : ∀ j, η18 9 j = η10 9 j := fun j => by rw [eη18]; exact (zup_ne (fun e _ => absurd e (by decide))).trans (v269 j)
    have fr9_18 : ∀ j, η18 9 j = η10 9 j := v270
    have v271 : ∀ j, η19 9 j = η10 9 j := fun j => by rw [eη19]; exact (zup_ne (fun e _ => absurd e (by decide))).trans (v270 j)
    have fr9_19 : ∀ j, η19 9 j = η10 9 j := v271
    have v272 : ∀ j, η20 9 j = η10 9 j := fun j => (k26.1.2.2.2.1 9 _ (zinr_not (by decide +kernel))).trans (v271 j)
    have fr9_20 : ∀ j, η20 9 j = η10 9 j := v272
    have v273 : ∀ j, η21 9 j = η10 9 j := fun j => (k27.1.2.2.2.1 9 _ (zinr_not (by decide +kernel))).trans (v272 j)
    have fr9_21 : ∀ j, η21 9 j = η10 9 j := v273
    have v274 : ∀ j, η22 9 j = η10 9 j := fun j => (k28.1.2.2.2.1 9 _ (zinr_not (by decide +kernel))).trans (v273 j)
    have fr9_22 : ∀ j, η22 9 j = η10 9 j := v274
    have v275 : ∀ j, η23 9 j = η10 9 j := fun j => (k29.1.2.2.2.1 9 _ (zinr_not (by decide +kernel))).trans (v274 j)
    have fr9_23 : ∀ j, η23 9 j = η10 9 j := v275
    have v276 : ∀ j, η24 9 j = η10 9 j := fun j => (k30.1.2.2.2.1 9 _ (zinr_not (by decide +kernel))).trans (v275 j)
    have fr9_24 : ∀ j, η24 9 j = η10 9 j := v276
    have v277 : ∀ j, η25 9 j = η10 9 j := fun j => (k31.1.2.2.2.1 9 _ (zinr_not (by decide +kernel))).trans (v276 j)
    have fr9_25 : ∀ j, η25 9 j = η10 9 j := v277
    have fr10_0 : ∀ j, η 10 j = η 10 j := fun _ => rfl
    have v278 : ∀ j, η1 10 j = η 10 j := fun j => by rw [eη1]; exact zup_ne (fun e _ => absurd e (by decide))
    have fr10_1 : ∀ j, η1 10 j = η 10 j := v278
    have v279 : ∀ j, η2 10 j = η 10 j := fun j => by rw [eη2]; exact (zup_ne (fun e _ => absurd e (by decide))).trans (v278 j)
    have fr10_2 : ∀ j, η2 10 j = η 10 j := v279
    have v280 : ∀ j, η3 10 j = η 10 j := fun j => by rw [eη3]; exact (zup_ne (fun e _ => absurd e (by decide))).trans (v279 j)
    have fr10_3 : ∀ j, η3 10 j = η 10 j := v280
    have v281 : ∀ j, η4 10 j = η 10 j := fun j => by rw [eη4]; exact (zup_ne (fun e _ => absurd e (by decide))).trans (v280 j)
    have fr10_4 : ∀ j, η4 10 j = η 10 j := v281
    have v282 : ∀ j, η5 10 j = η 10 j := fun j => (k5.1.2.2.2.1 10 _ (zinr_not (by decide +kernel))).trans (v281 j)
    have fr10_5 : ∀ j, η5 10 j = η 10 j := v282
    have v283 : ∀ j, η6 10 j = η 10 j := fun j => (k6.1.2.2.2.1 10 _ (zinr_not (by decide +kernel))).trans (v282 j)
    have fr10_6 : ∀ j, η6 10 j = η 10 j := v283
    have v284 : ∀ j, η7 10 j = η 10 j := fun j => (k7.1.2.2.2.1 10 _ (zinr_not (by decide +kernel))).trans (v283 j)
    have fr10_7 : ∀ j, η7 10 j = η 10 j := v284
    have v285 : ∀ j, η8 10 j = η 10 j := fun j => (k8.1.2.2.2.1 10 _ (zinr_not (by decide +kernel))).trans (v284 j)
    have fr10_8 : ∀ j, η8 10 j = η 10 j := v285
    have v286 : ∀ j, η9 10 j = η 10 j := fun j => (k9.1.2.2.2.1 10 _ (zinr_not (by decide +kernel))).trans (v285 j)
    have fr10_9 : ∀ j, η9 10 j = η 10 j := v286
    have v287 : ∀ j, η10 10 j = η 10 j := fun j => (k10.1.2.2.2.1 10 _ (zinr_not (by decide +kernel))).trans (v286 j)
    have fr10_10 : ∀ j, η10 10 j = η 10 j := v287
    have fr10_11 : ∀ j, η11 10 j = η11 10 j := fun _ => rfl
    have v289 : ∀ j, η12 10 j = η11 10 j := fun j => k12.1.2.2.2.1 10 _ (zinr_not (by decide +kernel))
    have fr10_12 : ∀ j, η12 10 j = η11 10 j := v289
    have v290 : ∀ j, η13 10 j = η11 10 j := fun j => (k13.1.2.2.2.1 10 _ (zinr_not (by decide +kernel))).trans (v289 j)
    have fr10_13 : ∀ j, η13 10 j = η11 10 j := v290
    have v291 : ∀ j, η14 10 j = η11 10 j := fun j => (k14.1.2.2.2.1 10 _ (zinr_not (by decide +kernel))).trans (v290 j)
    have fr10_14 : ∀ j, η14 10 j = η11 10 j := v291
    have v292 : ∀ j, η15 10 j = η11 10 j := fun j => (k15.1.2.2.2.1 10 _ (zinr_not (by decide +kernel))).trans (v291 j)
    have fr10_15 : ∀ j, η15 10 j = η11 10 j := v292
    have v293 : ∀ j, η16 10 j = η11 10 j := fun j => (k16.1.2.2.2.1 10 _ (zinr_not (by decide +kernel))).trans (v292 j)
    have fr10_16 : ∀ j, η16 10 j = η11 10 j := v293
    have v294 : ∀ j, η17 10 j = η11 10 j := fun j => by rw [eη17]; exact (zup_ne (fun e _ => absurd e (by decide))).trans (v293 j)
    have fr10_17 : ∀ j, η17 10 j = η11 10 j := v294
    have v295 : ∀ j, η18 10 j = η11 10 j := fun j => by rw [eη18]; exact (zup_ne (fun e _ => absurd e (by decide))).trans (v294 j)
    have fr10_18 : ∀ j, η18 10 j = η11 10 j := v295
    have v296 : ∀ j, η19 10 j = η11 10 j := fun j => by rw [eη19]; exact (zup_ne (fun e _ => absurd e (by decide))).trans (v295 j)
    have fr10_19 : ∀ j, η19 10 j = η11 10 j := v296
    have v297 : ∀ j, η20 10 j = η11 10 j := fun j => (k26.1.2.2.2.1 10 _ (zinr_not (by decide +kernel))).trans (v296 j)
    have fr10_20 : ∀ j, η20 10 j = η11 10 j := v297
    have v298 : ∀ j, η21 10 j = η11 10 j := fun j => (k27.1.2.2.2.1 10 _ (zinr_not (by decide +kernel))).trans (v297 j)
    have fr10_21 : ∀ j, η21 10 j = η11 10 j := v298
    have v299 : ∀ j, η22 10 j = η11 10 j := fun j => (k28.1.2.2.2.1 10 _ (zinr_not (by decide +kernel))).trans (v298 j)
    have fr10_22 : ∀ j, η22 10 j = η11 10 j := v299
    have v300 : ∀ j, η23 10 j = η11 10 j := fun j => (k29.1.2.2.2.1 10 _ (zinr_not (by decide +kernel))).trans (v299 j)
    have fr10_23 : ∀ j, η23 10 j = η11 10 j := v300
    have v301 : ∀ j, η24 10 j = η11 10 j := fun j => (k30.1.2.2.2.1 10 _ (zinr_not (by decide +kernel))).trans (v300 j)
    have fr10_24 : ∀ j, η24 10 j = η11 10 j := v301
    have v302 : ∀ j, η25 10 j = η11 10 j := fun j => (k31.1.2.2.2.1 10 _ (zinr_not (by decide +kernel))).trans (v301 j)
    have fr10_25 : ∀ j, η25 10 j = η11 10 j := v302
    have fr11_0 : ∀ j, η 11 j = η 11 j := fun _ => rfl
    have v303 : ∀ j, η1 11 j = η 11 j := fun j => by rw [eη1]; exact zup_ne (fun e _ => absurd e (by decide))
    have fr11_1 : ∀ j, η1 11 j = η 11 j := v303
    have v304 : ∀ j, η2 11 j = η 11 j := fun j => by rw [eη2]; exact (zup_ne (fun e _ => absurd e (by decide))).trans (v303 j)
    have fr11_2 : ∀ j, η2 11 j = η 11 j := v304
    have v305 : ∀ j, η3 11 j = η 11 j := fun j => by rw [eη3]; exact (zup_ne (fun e _ => absurd e (by decide))).trans (v304 j)
    have fr11_3 : ∀ j, η3 11 j = η 11 j := v305
    have v306 : ∀ j, η4 11 j = η 11 j := fun j => by rw [eη4]; exact (zup_ne (fun e _ => absurd e (by decide))).trans (v305 j)
    have fr11_4 : ∀ j, η4 11 j = η 11 j := v306
    have v307 : ∀ j, η5 11 j = η 11 j := fun j => (k5.1.2.2.2.1 11 _ (zinr_not (by decide +kernel))).trans (v306 j)
    have fr11_5 : ∀ j, η5 11 j = η 11 j := v307
    have v308 : ∀ j, η6 11 j = η 11 j := fun j => (k6.1.2.2.2.1 11 _ (zinr_not (by decide +kernel))).trans (v307 j)
    have fr11_6 : ∀ j, η6 11 j = η 11 j := v308
    have v309 : ∀ j, η7 11 j = η 11 j := fun j => (k7.1.2.2.2.1 11 _ (zinr_not (by decide +kernel))).trans (v308 j)
    have fr11_7 : ∀ j, η7 11 j = η 11 j := v309
    have v310 : ∀ j, η8 11 j = η 11 j := fun j => (k8.1.2.2.2.1 11 _ (zinr_not (by decide +kernel))).trans (v309 j)
    have fr11_8 : ∀ j, η8 11 j = η 11 j := v310
    have v311 : ∀ j, η9 11 j = η 11 j := fun j => (k9.1.2.2.2.1 11 _ (zinr_not (by decide +kernel))).trans (v310 j)
    have fr11_9 : ∀ j, η9 11 j = η 11 j := v311
    have v312 : ∀ j, η10 11 j = η 11 j := fun j => (k10.1.2.2.2.1 11 _ (zinr_not (by decide +kernel))).trans (v311 j)
    have fr11_10 : ∀ j, η10 11 j = η 11 j := v312
    have v313 : ∀ j, η11 11 j = η 11 j := fun j => (k11.1.2.2.2.1 11 _ (zinr_not (by decide +kernel))).trans (v312 j)
    have fr11_11 : ∀ j, η11 11 j = η 11 j := v313
    have fr11_12 : ∀ j, η12 11 j = η12 11 j := fun _ => rfl
    have v315 : ∀ j, η13 11 j = η12 11 j := fun j => k13.1.2.2.2.1 11 _ (zinr_not (by decide +kernel))
    have fr11_13 : ∀ j, η13 11 j = η12 11 j := v315
    have v316 : ∀ j, η14 11 j = η12 11 j := fun j => (k14.1.2.2.2.1 11 _ (zinr_not (by decide +kernel))).trans (v315 j)
    have fr11_14 : ∀ j, η14 11 j = η12 11 j := v316
    have v317 : ∀ j, η15 11 j = η12 11 j := fun j => (k15.1.2.2.2.1 11 _ (zinr_not (by decide +kernel))).trans (v316 j)
    have fr11_15 : ∀ j, η15 11 j = η12 11 j := v317
    have v318 : ∀ j, η16 11 j = η12 11 j := fun j => (k16.1.2.2.2.1 11 _ (zinr_not (by decide +kernel))).trans (v317 j)
    have fr11_16 : ∀ j, η16 11 j = η12 11 j := v318
    have v319 : ∀ j, η17 11 j = η12 11 j := fun j => by rw [eη17]; exact (zup_ne (fun e _ => absurd e (by decide))).trans (v318 j)
    have fr11_17 : ∀ j, η17 11 j = η12 11 j := v319
    have v320 : ∀ j, η18 11 j = η12 11 j := fun j => by rw [eη18]; exact (zup_ne (fun e _ => absurd e (by decide))).trans (v319 j)
    have fr11_18 : ∀ j, η18 11 j = η12 11 j := v320
    have v321 : ∀ j, η19 11 j = η12 11 j := fun j => by rw [eη19]; exact (zup_ne (fun e _ => absurd e (by decide))).trans (v320 j)
    have fr11_19 : ∀ j, η19 11 j = η12 11 j := v321
    have v322 : ∀ j, η20 11 j = η12 11 j := fun j => (k26.1.2.2.2.1 11 _ (zinr_not (by decide +kernel))).trans (v321 j)
    have fr11_20 : ∀ j, η20 11 j = η12 11 j := v322
    have v323 : ∀ j, η21 11 j = η12 11 j := fun j => (k27.1.2.2.2.1 11 _ (zinr_not (by decide +kernel))).trans (v322 j)
    have fr11_21 : ∀ j, η21 11 j = η12 11 j := v323
    have v324 : ∀ j, η22 11 j = η12 11 j := fun j => (k28.1.2.2.2.1 11 _ (zinr_not (by decide +kernel))).trans (v323 j)
    have fr11_22 : ∀ j, η22 11 j = η12 11 j := v324
    have v325 : ∀ j, η23 11 j = η12 11 j := fun j => (k29.1.2.2.2.1 11 _ (zinr_not (by decide +kernel))).trans (v324 j)
    have fr11_23 : ∀ j, η23 11 j = η12 11 j := v325
    have v326 : ∀ j, η24 11 j = η12 11 j := fun j => (k30.1.2.2.2.1 11 _ (zinr_not (by decide +kernel))).trans (v325 j)
    have fr11_24 : ∀ j, η24 11 j = η12 11 j := v326
    have v327 : ∀ j, η25 11 j = η12 11 j := fun j => (k31.1.2.2.2.1 11 _ (zinr_not (by decide +kernel))).trans (v326 j)
    have fr11_25 : ∀ j, η25 11 j = η12 11 j := v327
    have fr12_0 : ∀ j, η 12 j = η 12 j := fun _ => rfl
    have v328 : ∀ j, η1 12 j = η 12 j := fun j => by rw [eη1]; exact zup_ne (fun e _ => absurd e (by decide))
    have fr12_1 : ∀ j, η1 12 j = η 12 j := v328
    have v329 : ∀ j, η2 12 j = η 12 j := fun j => by rw [eη2]; exact (zup_ne (fun e _ => absurd e (by decide))).trans (v328 j)
    have fr12_2 : ∀ j, η2 12 j = η 12 j := v329
    have v330 : ∀ j, η3 12 j = η 12 j := fun j => by rw [eη3]; exact (zup_ne (fun e _ => absurd e (by decide))).trans (v329 j)
    have fr12_3 : ∀ j, η3 12 j = η 12 j := v330
    have v331 : ∀ j, η4 12 j = η 12 j := fun j => by rw [eη4]; exact (zup_ne (fun e _ => absurd e (by decide))).trans (v330 j)
    have fr12_4 : ∀ j, η4 12 j = η 12 j := v331
    have v332 : ∀ j, η5 12 j = η 12 j := fun j => (k5.1.2.2.2.1 12 _ (zinr_not (by decide +kernel))).trans (v331 j)
    have fr12_5 : ∀ j, η5 12 j = η 12 j := v332
    have v333 : ∀ j, η6 12 j = η 12 j := fun j => (k6.1.2.2.2.1 12 _ (zinr_not (by decide +kernel))).trans (v332 j)
    have fr12_6 : ∀ j, η6 12 j = η 12 j := v333
    have v334 : ∀ j, η7 12 j = η 12 j := fun j => (k7.1.2.2.2.1 12 _ (zinr_not (by decide +kernel))).trans (v333 j)
    have fr12_7 : ∀ j, η7 12 j = η 12 j := v334
    have v335 : ∀ j, η8 12 j = η 12 j := fun j => (k8.1.2.2.2.1 12 _ (zinr_not (by decide +kernel))).trans (v334 j)
    have fr12_8 : ∀ j, η8 12 j = η 12 j := v335
    have v336 : ∀ j, η9 12 j = η 12 j := fun j => (k9.1.2.2.2.1 12 _ (zinr_not (by decide +kernel))).trans (v335 j)
    have fr12_9 : ∀ j, η9 12 j = η 12 j := v336
    have v337 : ∀ j, η10 12 j = η 12 j := fun j => (k10.1.2.2.2.1 12 _ (zinr_not (by decide +kernel))).trans (v336 j)
    have fr12_10 : ∀ j, η10 12 j = η 12 j := v337
    have v338 : ∀ j, η11 12 j = η 12 j := fun j => (k11.1.2.2.2.1 12 _ (zinr_not (by decide +kernel))).trans (v337 j)
    have fr12_11 : ∀ j, η11 12 j = η 12 j := v338
    have v339 : ∀ j, η12 12 j = η 12 j := fun j => (k12.1.2.2.2.1 12 _ (zinr_not (by decide +kernel))).trans (v338 j)
    have fr12_12 : ∀ j, η12 12 j = η 12 j := v339
    have fr12_13 : ∀ j, η13 12 j = η13 12 j := fun _ => rfl
    have v341 : ∀ j, η14 12 j = η13 12 j := fun j => k14.1.2.2.2.1 12 _ (zinr_not (by decide +kernel))
    have fr12_14 : ∀ j, η14 12 j = η13 12 j := v341
    have v342 : ∀ j, η15 12 j = η13 12 j := fun j => (k15.1.2.2.2.1 12 _ (zinr_not (by decide +kernel))).trans (v341 j)
    have fr12_15 : ∀ j, η15 12 j = η13 12 j := v342
    have v343 : ∀ j, η16 12 j = η13 12 j := fun j => (k16.1.2.2.2.1 12 _ (zinr_not (by decide +kernel))).trans (v342 j)
    have fr12_16 : ∀ j, η16 12 j = η13 12 j := v343
    have v344 : ∀ j, η17 12 j = η13 12 j := fun j => by rw [eη17]; exact (zup_ne (fun e _ => absurd e (by decide))).trans (v343 j)
    have fr12_17 : ∀ j, η17 12 j = η13 12 j := v344
    have v345 : ∀ j, η18 12 j = η13 12 j := fun j => by rw [eη18]; exact (zup_ne (fun e _ => absurd e (by decide))).trans (v344 j)
    have fr12_18 : ∀ j, η18 12 j = η13 12 j := v345
    have v346 : ∀ j, η19 12 j = η13 12 j := fun j => by rw [eη19]; exact (zup_ne (fun e _ => absurd e (by decide))).trans (v345 j)
    have fr12_19 : ∀ j, η19 12 j = η13 12 j := v346
    have v347 : ∀ j, η20 12 j = η13 12 j := fun j => (k26.1.2.2.2.1 12 _ (zinr_not (by decide +kernel))).trans (v346 j)
    have fr12_20 : ∀ j, η20 12 j = η13 12 j := v347
    have v348 : ∀ j, η21 12 j = η13 12 j := fun j => (k27.1.2.2.2.1 12 _ (zinr_not (by decide +kernel))).trans (v347 j)
    have fr12_21 : ∀ j, η21 12 j = η13 12 j := v348
    have v349 : ∀ j, η22 12 j = η13 12 j := fun j => (k28.1.2.2.2.1 12 _ (zinr_not (by decide +kernel))).trans (v348 j)
    have fr12_22 : ∀ j, η22 12 j = η13 12 j := v349
    have v350 : ∀ j, η23 12 j = η13 12 j := fun j => (k29.1.2.2.2.1 12 _ (zinr_not (by decide +kernel))).trans (v349 j)
    have fr12_23 : ∀ j, η23 12 j = η13 12 j := v350
    have v351 : ∀ j, η24 12 j = η13 12 j := fun j => (k30.1.2.2.2.1 12 _ (zinr_not (by decide +kernel))).trans (v350 j)
    have fr12_24 : ∀ j, η24 12 j = η13 12 j := v351
    have v352 : ∀ j, η25 12 j = η13 12 j := fun j => (k31.1.2.2.2.1 12 _ (zinr_not (by decide +kernel))).trans (v351 j)
    have fr12_25 : ∀ j, η25 12 j = η13 12 j := v352
    have fr13_0 : ∀ j, η 13 j = η 13 j := fun _ => rfl
    have v353 : ∀ j, η1 13 j = η 13 j := fun j => by rw [eη1]; exact zup_ne (fun e _ => absurd e (by decide))
    have fr13_1 : ∀ j, η1 13 j = η 13 j := v353
    have v354 : ∀ j, η2 13 j = η 13 j := fun j => by rw [eη2]; exact (zup_ne (fun e _ => absurd e (by decide))).trans (v353 j)
    have fr13_2 : ∀ j, η2 13 j = η 13 j := v354
    have v355 : ∀ j, η3 13 j = η 13 j := fun j => by rw [eη3]; exact (zup_ne (fun e _ => absurd e (by decide))).trans (v354 j)
    have fr13_3 : ∀ j, η3 13 j = η 13 j := v355
    have v356 : ∀ j, η4 13 j = η 13 j := fun j => by rw [eη4]; exact (zup_ne (fun e _ => absurd e (by decide))).trans (v355 j)
    have fr13_4 : ∀ j, η4 13 j = η 13 j := v356
    have v357 : ∀ j, η5 13 j = η 13 j := fun j => (k5.1.2.2.2.1 13 _ (zinr_not (by decide +kernel))).trans (v356 j)
    have fr13_5 : ∀ j, η5 13 j = η 13 j := v357
    have v358 : ∀ j, η6 13 j = η 13 j := fun j => (k6.1.2.2.2.1 13 _ (zinr_not (by decide +kernel))).trans (v357 j)
    have fr13_6 : ∀ j, η6 13 j = η 13 j := v358
    have v359 : ∀ j, η7 13 j = η 13 j := fun j => (k7.1.2.2.2.1 13 _ (zinr_not (by decide +kernel))).trans (v358 j)
    have fr13_7 : ∀ j, η7 13 j = η 13 j := v359
    have v360 : ∀ j, η8 13 j = η 13 j := fun j => (k8.1.2.2.2.1 13 _ (zinr_not (by decide +kernel))).trans (v359 j)
    have fr13_8 : ∀ j, η8 13 j = η 13 j := v360
    have v361 : ∀ j, η9 13 j = η 13 j := fun j => (k9.1.2.2.2.1 13 _ (zinr_not (by decide +kernel))).trans (v360 j)
    have fr13_9 : ∀ j, η9 13 j = η 13 j := v361
    have v362 : ∀ j, η10 13 j = η 13 j := fun j => (k10.1.2.2.2.1 13 _ (zinr_not (by decide +kernel))).trans (v361 j)
    have fr13_10 : ∀ j, η10 13 j = η 13 j := v362
    have v363 : ∀ j, η11 13 j = η 13 j := fun j => (k11.1.2.2.2.1 13 _ (zinr_not (by decide +kernel))).trans (v362 j)
    have fr13_11 : ∀ j, η11 13 j = η 13 j := v363
    have v364 : ∀ j, η12 13 j = η 13 j := fun j => (k12.1.2.2.2.1 13 _ (zinr_not (by decide +kernel))).trans (v363 j)
    have fr13_12 : ∀ j, η12 13 j = η 13 j := v364
    have v365 : ∀ j, η13 13 j = η 13 j := fun j => (k13.1.2.2.2.1 13 _ (zinr_not (by decide +kernel))).trans (v364 j)
    have fr13_13 : ∀ j, η13 13 j = η 13 j := v365
    have fr13_14 : ∀ j, η14 13 j = η14 13 j := fun _ => rfl
    have v367 : ∀ j, η15 13 j = η14 13 j := fun j => k15.1.2.2.2.1 13 _ (zinr_not (by decide +kernel))
    have fr13_15 : ∀ j, η15 13 j = η14 13 j := v367
    have v368 : ∀ j, η16 13 j = η14 13 j := fun j => (k16.1.2.2.2.1 13 _ (zinr_not (by decide +kernel))).trans (v367 j)
    have fr13_16 : ∀ j, η16 13 j = η14 13 j := v368
    have v369 : ∀ j, η17 13 j = η14 13 j := fun j => by rw [eη17]; exact (zup_ne (fun e _ => absurd e (by decide))).trans (v368 j)
    have fr13_17 : ∀ j, η17 13 j = η14 13 j := v369
    have v370 : ∀ j, η18 13 j = η14 13 j := fun j => by rw [eη18]; exact (zup_ne (fun e _ => absurd e (by decide))).trans (v369 j)
    have fr13_18 : ∀ j, η18 13 j = η14 13 j := v370
    have v371 : ∀ j, η19 13 j = η14 13 j := fun j => by rw [eη19]; exact (zup_ne (fun e _ => absurd e (by decide))).trans (v370 j)
    have fr13_19 : ∀ j, η19 13 j = η14 13 j := v371
    have v372 : ∀ j, η20 13 j = η14 13 j := fun j => (k26.1.2.2.2.1 13 _ (zinr_not (by decide +kernel))).trans (v371 j)
    have fr13_20 : ∀ j, η20 13 j = η14 13 j := v372
    have v373 : ∀ j, η21 13 j = η14 13 j := fun j => (k27.1.2.2.2.1 13 _ (zinr_not (by decide +kernel))).trans (v372 j)
    have fr13_21 : ∀ j, η21 13 j = η14 13 j := v373
    have v374 : ∀ j, η22 13 j = η14 13 j := fun j => (k28.1.2.2.2.1 13 _ (zinr_not (by decide +kernel))).trans (v373 j)
    have fr13_22 : ∀ j, η22 13 j = η14 13 j := v374
    have v375 : ∀ j, η23 13 j = η14 13 j := fun j => (k29.1.2.2.2.1 13 _ (zinr_not (by decide +kernel))).trans (v374 j)
    have fr13_23 : ∀ j, η23 13 j = η14 13 j := v375
    have v376 : ∀ j, η24 13 j = η14 13 j := fun j => (k30.1.2.2.2.1 13 _ (zinr_not (by decide +kernel))).trans (v375 j)
    have fr13_24 : ∀ j, η24 13 j = η14 13 j := v376
    have v377 : ∀ j, η25 13 j = η14 13 j := fun j => (k31.1.2.2.2.1 13 _ (zinr_not (by decide +kernel))).trans (v376 j)
    have fr13_25 : ∀ j, η25 13 j = η14 13 j := v377
    have fr14_0 : ∀ j, η 14 j = η 14 j := fun _ => rfl
    have v378 : ∀ j, η1 14 j = η 14 j := fun j => by rw [eη1]; exact zup_ne (fun e _ => absurd e (by decide))
    have fr14_1 : ∀ j, η1 14 j = η 14 j := v378
    have v379 : ∀ j, η2 14 j = η 14 j := fun j => by rw [eη2]; exact (zup_ne (fun e _ => absurd e (by decide))).trans (v378 j)
    have fr14_2 : ∀ j, η2 14 j = η 14 j := v379
    have v380 : ∀ j, η3 14 j = η 14 j := fun j => by rw [eη3]; exact (zup_ne (fun e _ => absurd e (by decide))).trans (v379 j)
    have fr14_3 : ∀ j, η3 14 j = η 14 j := v380
    have v381 : ∀ j, η4 14 j = η 14 j := fun j => by rw [eη4]; exact (zup_ne (fun e _ => absurd e (by decide))).trans (v380 j)
    have fr14_4 : ∀ j, η4 14 j = η 14 j := v381
    have v382 : ∀ j, η5 14 j = η 14 j := fun j => (k5.1.2.2.2.1 14 _ (zinr_not (by decide +kernel))).trans (v381 j)
    have fr14_5 : ∀ j, η5 14 j = η 14 j := v382
    have v383 : ∀ j, η6 14 j = η 14 j := fun j => (k6.1.2.2.2.1 14 _ (zinr_not (by decide +kernel))).trans (v382 j)
    have fr14_6 : ∀ j, η6 14 j = η 14 j := v383
    have v384 : ∀ j, η7 14 j = η 14 j := fun j => (k7.1.2.2.2.1 14 _ (zinr_not (by decide +kernel))).trans (v383 j)
    have fr14_7 : ∀ j, η7 14 j = η 14 j := v384
    have v385 : ∀ j, η8 14 j = η 14 j := fun j => (k8.1.2.2.2.1 14 _ (zinr_not (by decide +kernel))).trans (v384 j)
    have fr14_8 : ∀ j, η8 14 j = η 14 j := v385
    have v386 : ∀ j, η9 14 j = η 14 j := fun j => (k9.1.2.2.2.1 14 _ (zinr_not (by decide +kernel))).trans (v385 j)
    have fr14_9 : ∀ j, η9 14 j = η 14 j := v386
    have v387 : ∀ j, η10 14 j = η 14 j := fun j => (k10.1.2.2.2.1 14 _ (zinr_not (by decide +kernel))).trans (v386 j)
    have fr14_10 : ∀ j, η10 14 j = η 14 j := v387
    have v388 : ∀ j, η11 14 j = η 14 j := fun j => (k11.1.2.2.2.1 14 _ (zinr_not (by decide +kernel))).trans (v387 j)
    have fr14_11 : ∀ j, η11 14 j = η 14 j := v388
    have v389 : ∀ j, η12 14 j = η 14 j := fun j => (k12.1.2.2.2.1 14 _ (zinr_not (by decide +kernel))).trans (v388 j)
    have fr14_12 : ∀ j, η12 14 j = η 14 j := v389
    have v390 : ∀ j, η13 14 j = η 14 j := fun j => (k13.1.2.2.2.1 14 _ (zinr_not (by decide +kernel))).trans (v389 j)
    have fr14_13 : ∀ j, η13 14 j = η 14 j := v390
    have v391 : ∀ j, η14 14 j = η 14 j := fun j => (k14.1.2.2.2.1 14 _ (zinr_not (by decide +kernel))).trans (v390 j)
    have fr14_14 : ∀ j, η14 14 j = η 14 j := v391
    have fr14_15 : ∀ j, η15 14 j = η15 14 j := fun _ => rfl
    have v393 : ∀ j, η16 14 j = η15 14 j := fun j => k16.1.2.2.2.1 14 _ (zinr_not (by decide +kernel))
    have fr14_16 : ∀ j, η16 14 j = η15 14 j := v393
    have v394 : ∀ j, η17 14 j = η15 14 j := fun j => by rw [eη17]; exact (zup_ne (fun e _ => absurd e (by decide))).trans (v393 j)
    have fr14_17 : ∀ j, η17 14 j = η15 14 j := v394
    have v395 : ∀ j, η18 14 j = η15 14 j := fun j => by rw [eη18]; exact (zup_ne (fun e _ => absurd e (by decide))).trans (v394 j)
    have fr14_18 : ∀ j, η18 14 j = η15 14 j := v395
    have v396 : ∀ j, η19 14 j = η15 14 j := fun j => by rw [eη19]; exact (zup_ne (fun e _ => absurd e (by decide))).trans (v395 j)
    have fr14_19 : ∀ j, η19 14 j = η15 14 j := v396
    have v397 : ∀ j, η20 14 j = η15 14 j := fun j => (k26.1.2.2.2.1 14 _ (zinr_not (by decide +kernel))).trans (v396 j)
    have fr14_20 : ∀ j, η20 14 j = η15 14 j := v397
    have v398 : ∀ j, η21 14 j = η15 14 j := fun j => (k27.1.2.2.2.1 14 _ (zinr_not (by decide +kernel))).trans (v397 j)
    have fr14_21 : ∀ j, η21 14 j = η15 14 j := v398
    have v399 : ∀ j, η22 14 j = η15 14 j := fun j => (k28.1.2.2.2.1 14 _ (zinr_not (by decide +kernel))).trans (v398 j)
    have fr14_22 : ∀ j, η22 14 j = η15 14 j := v399
    have v400 : ∀ j, η23 14 j = η15 14 j := fun j => (k29.1.2.2.2.1 14 _ (zinr_not (by decide +kernel))).trans (v399 j)
    have fr14_23 : ∀ j, η23 14 j = η15 14 j := v400
    have v401 : ∀ j, η24 14 j = η15 14 j := fun j => (k30.1.2.2.2.1 14 _ (zinr_not (by decide +kernel))).trans (v400 j)
    have fr14_24 : ∀ j, η24 14 j = η15 14 j := v401
    have v402 : ∀ j, η25 14 j = η15 14 j := fun j => (k31.1.2.2.2.1 14 _ (zinr_not (by decide +kernel))).trans (v401 j)
    have fr14_25 : ∀ j, η25 14 j = η15 14 j := v402
    have fr15_0 : ∀ j, η 15 j = η 15 j := fun _ => rfl
    have v403 : ∀ j, η1 15 j = η 15 j := fun j => by rw [eη1]; exact zup_ne (fun e _ => absurd e (by decide))
    have fr15_1 : ∀ j, η1 15 j = η 15 j := v403
    have v404 : ∀ j, η2 15 j = η 15 j := fun j => by rw [eη2]; exact (zup_ne (fun e _ => absurd e (by decide))).trans (v403 j)
    have fr15_2 : ∀ j, η2 15 j = η 15 j := v404
    have v405 : ∀ j, η3 15 j = η 15 j := fun j => by rw [eη3]; exact (zup_ne (fun e _ => absurd e (by decide))).trans (v404 j)
    have fr15_3 : ∀ j, η3 15 j = η 15 j := v405
    have v406 : ∀ j, η4 15 j = η 15 j := fun j => by rw [eη4]; exact (zup_ne (fun e _ => absurd e (by decide))).trans (v405 j)
    have fr15_4 : ∀ j, η4 15 j = η 15 j := v406
    have v407 : ∀ j, η5 15 j = η 15 j := fun j => (k5.1.2.2.2.1 15 _ (zinr_not (by decide +kernel))).trans (v406 j)
    have fr15_5 : ∀ j, η5 15 j = η 15 j := v407
    have v408 : ∀ j, η6 15 j = η 15 j := fun j => (k6.1.2.2.2.1 15 _ (zinr_not (by decide +kernel))).trans (v407 j)
    have fr15_6 : ∀ j, η6 15 j = η 15 j := v408
    have v409 : ∀ j, η7 15 j = η 15 j := fun j => (k7.1.2.2.2.1 15 _ (zinr_not (by decide +kernel))).trans (v408 j)
    have fr15_7 : ∀ j, η7 15 j = η 15 j := v409
    have v410 : ∀ j, η8 15 j = η 15 j := fun j => (k8.1.2.2.2.1 15 _ (zinr_not (by decide +kernel))).trans (v409 j)
    have fr15_8 : ∀ j, η8 15 j = η 15 j := v410
    have v411 : ∀ j, η9 15 j = η 15 j := fun j => (k9.1.2.2.2.1 15 _ (zinr_not (by decide +kernel))).trans (v410 j)
    have fr15_9 : ∀ j, η9 15 j = η 15 j := v411
    have v412 : ∀ j, η10 15 j = η 15 j := fun j => (k10.1.2.2.2.1 15 _ (zinr_not (by decide +kernel))).trans (v411 j)
    have fr15_10 : ∀ j, η10 15 j = η 15 j := v412
    have v413 : ∀ j, η11 15 j = η 15 j := fun j => (k11.1.2.2.2.1 15 _ (zinr_not (by decide +kernel))).trans (v412 j)
    have fr15_11 : ∀ j, η11 15 j = η 15 j := v413
    have v414 : ∀ j, η12 15 j = η 15 j := fun j => (k12.1.2.2.2.1 15 _ (zinr_not (by decide +kernel))).trans (v413 j)
    have fr15_12 : ∀ j, η12 15 j = η 15 j := v414
    have v415 : ∀ j, η13 15 j = η 15 j := fun j => (k13.1.2.2.2.1 15 _ (zinr_not (by decide +kernel))).trans (v414 j)
    have fr15_13 : ∀ j, η13 15 j = η 15 j := v415
    have v416 : ∀ j, η14 15 j = η 15 j := fun j => (k14.1.2.2.2.1 15 _ (zinr_not (by decide +kernel))).trans (v415 j)
    have fr15_14 : ∀ j, η14 15 j = η 15 j := v416
    have v417 : ∀ j, η15 15 j = η 15 j := fun j => (k15.1.2.2.2.1 15 _ (zinr_not (by decide +kernel))).trans (v416 j)
    have fr15_15 : ∀ j, η15 15 j = η 15 j := v417
    have fr15_16 : ∀ j, η16 15 j = η16 15 j := fun _ => rfl
    have v419 : ∀ j, η17 15 j = η16 15 j := fun j => by rw [eη17]; exact zup_ne (fun e _ => absurd e (by decide))
    have fr15_17 : ∀ j, η17 15 j = η16 15 j := v419
    have v420 : ∀ j, η18 15 j = η16 15 j := fun j => by rw [eη18]; exact (zup_ne (fun e _ => absurd e (by decide))).trans (v419 j)
    have fr15_18 : ∀ j, η18 15 j = η16 15 j := v420
    have v421 : ∀ j, η19 15 j = η16 15 j := fun j => by rw [eη19]; exact (zup_ne (fun e _ => absurd e (by decide))).trans (v420 j)
    have fr15_19 : ∀ j, η19 15 j = η16 15 j := v421
    have v422 : ∀ j, η20 15 j = η16 15 j := fun j => (k26.1.2.2.2.1 15 _ (zinr_not (by decide +kernel))).trans (v421 j)
    have fr15_20 : ∀ j, η20 15 j = η16 15 j := v422
    have v423 : ∀ j, η21 15 j = η16 15 j := fun j => (k27.1.2.2.2.1 15 _ (zinr_not (by decide +kernel))).trans (v422 j)
    have fr15_21 : ∀ j, η21 15 j = η16 15 j := v423
    have v424 : ∀ j, η22 15 j = η16 15 j := fun j => (k28.1.2.2.2.1 15 _ (zinr_not (by decide +kernel))).trans (v423 j)
    have fr15_22 : ∀ j, η22 15 j = η16 15 j := v424
    have v425 : ∀ j, η23 15 j = η16 15 j := fun j => (k29.1.2.2.2.1 15 _ (zinr_not (by decide +kernel))).trans (v424 j)
    have fr15_23 : ∀ j, η23 15 j = η16 15 j := v425
    have v426 : ∀ j, η24 15 j = η16 15 j := fun j => (k30.1.2.2.2.1 15 _ (zinr_not (by decide +kernel))).trans (v425 j)
    have fr15_24 : ∀ j, η24 15 j = η16 15 j := v426
    have v427 : ∀ j, η25 15 j = η16 15 j := fun j => (k31.1.2.2.2.1 15 _ (zinr_not (by decide +kernel))).trans (v426 j)
    have fr15_25 : ∀ j, η25 15 j = η16 15 j := v427
    have fr17_0 : ∀ j, η 17 j = η 17 j := fun _ => rfl
    have v428 : ∀ j, η1 17 j = η 17 j := fun j => by rw [eη1]; exact zup_ne (fun e _ => absurd e (by decide))
    have fr17_1 : ∀ j, η1 17 j = η 17 j := v428
    have v429 : ∀ j, η2 17 j = η 17 j := fun j => by rw [eη2]; exact (zup_ne (fun e _ => absurd e (by decide))).trans (v428 j)
    have fr17_2 : ∀ j, η2 17 j = η 17 j := v429
    have v430 : ∀ j, η3 17 j = η 17 j := fun j => by rw [eη3]; exact (zup_ne (fun e _ => absurd e (by decide))).trans (v429 j)
    have fr17_3 : ∀ j, η3 17 j = η 17 j := v430
    have v431 : ∀ j, η4 17 j = η 17 j := fun j => by rw [eη4]; exact (zup_ne (fun e _ => absurd e (by decide))).trans (v430 j)
    have fr17_4 : ∀ j, η4 17 j = η 17 j := v431
    have v432 : ∀ j, η5 17 j = η 17 j := fun j => (k5.1.2.2.2.1 17 _ (zinr_not (by decide +kernel))).trans (v431 j)
    have fr17_5 : ∀ j, η5 17 j = η 17 j := v432
    have v433 : ∀ j, η6 17 j = η 17 j := fun j => (k6.1.2.2.2.1 17 _ (zinr_not (by decide +kernel))).trans (v432 j)
    have fr17_6 : ∀ j, η6 17 j = η 17 j := v433
    have v434 : ∀ j, η7 17 j = η 17 j := fun j => (k7.1.2.2.2.1 17 _ (zinr_not (by decide +kernel))).trans (v433 j)
    have fr17_7 : ∀ j, η7 17 j = η 17 j := v434
    have v435 : ∀ j, η8 17 j = η 17 j := fun j => (k8.1.2.2.2.1 17 _ (zinr_not (by decide +kernel))).trans (v434 j)
    have fr17_8 : ∀ j, η8 17 j = η 17 j := v435
    have v436 : ∀ j, η9 17 j = η 17 j := fun j => (k9.1.2.2.2.1 17 _ (zinr_not (by decide +kernel))).trans (v435 j)
    have fr17_9 : ∀ j, η9 17 j = η 17 j := v436
    have v437 : ∀ j, η10 17 j = η 17 j := fun j => (k10.1.2.2.2.1 17 _ (zinr_not (by decide +kernel))).trans (v436 j)
    have fr17_10 : ∀ j, η10 17 j = η 17 j := v437
    have v438 : ∀ j, η11 17 j = η 17 j := fun j => (k11.1.2.2.2.1 17 _ (zinr_not (by decide +kernel))).trans (v437 j)
    have fr17_11 : ∀ j, η11 17 j = η 17 j := v438
    have v439 : ∀ j, η12 17 j = η 17 j := fun j => (k12.1.2.2.2.1 17 _ (zinr_not (by decide +kernel))).trans (v438 j)
    have fr17_12 : ∀ j, η12 17 j = η 17 j := v439
    have v440 : ∀ j, η13 17 j = η 17 j := fun j => (k13.1.2.2.2.1 17 _ (zinr_not (by decide +kernel))).trans (v439 j)
    have fr17_13 : ∀ j, η13 17 j = η 17 j := v440
    have v441 : ∀ j, η14 17 j = η 17 j := fun j => (k14.1.2.2.2.1 17 _ (zinr_not (by decide +kernel))).trans (v440 j)
    have fr17_14 : ∀ j, η14 17 j = η 17 j := v441
    have v442 : ∀ j, η15 17 j = η 17 j := fun j => (k15.1.2.2.2.1 17 _ (zinr_not (by decide +kernel))).trans (v441 j)
    have fr17_15 : ∀ j, η15 17 j = η 17 j := v442
    have v443 : ∀ j, η16 17 j = η 17 j := fun j => (k16.1.2.2.2.1 17 _ (zinr_not (by decide +kernel))).trans (v442 j)
    have fr17_16 : ∀ j, η16 17 j = η 17 j := v443
    have v444 : ∀ j, η17 17 j = η 17 j := fun j => by rw [eη17]; exact (zup_ne (fun e _ => absurd e (by decide))).trans (v443 j)
    have fr17_17 : ∀ j, η17 17 j = η 17 j := v444
    have v445 : ∀ j, η18 17 j = η 17 j := fun j => by rw [eη18]; exact (zup_ne (fun e _ => absurd e (by decide))).trans (v444 j)
    have fr17_18 : ∀ j, η18 17 j = η 17 j := v445
    have v446 : ∀ j, η19 17 j = η 17 j := fun j => by rw [eη19]; exact (zup_ne (fun e _ => absurd e (by decide))).trans (v445 j)
    have fr17_19 : ∀ j, η19 17 j = η 17 j := v446
    have fr17_20 : ∀ j, η20 17 j = η20 17 j := fun _ => rfl
    have v448 : ∀ j, η21 17 j = η20 17 j := fun j => k27.1.2.2.2.1 17 _ (zinr_not (by decide +kernel))
    have fr17_21 : ∀ j, η21 17 j = η20 17 j := v448
    have v449 : ∀ j, η22 17 j = η20 17 j := fun j => (k28.1.2.2.2.1 17 _ (zinr_not (by decide +kernel))).trans (v448 j)
    have fr17_22 : ∀ j, η22 17 j = η20 17 j := v449
    have v450 : ∀ j, η23 17 j = η20 17 j := fun j => (k29.1.2.2.2.1 17 _ (zinr_not (by decide +kernel))).trans (v449 j)
    have fr17_23 : ∀ j, η23 17 j = η20 17 j := v450
    have v451 : ∀ j, η24 17 j = η20 17 j := fun j => (k30.1.2.2.2.1 17 _ (zinr_not (by decide +kernel))).trans (v450 j)
    have fr17_24 : ∀ j, η24 17 j = η20 17 j := v451
    have v452 : ∀ j, η25 17 j = η20 17 j := fun j => (k31.1.2.2.2.1 17 _ (zinr_not (by decide +kernel))).trans (v451 j)
    have fr17_25 : ∀ j, η25 17 j = η20 17 j := v452
    have fr18_0 : ∀ j, η 18 j = η 18 j := fun _ => rfl
    have v453 : ∀ j, η1 18 j = η 18 j := fun j => by rw [eη1]; exact zup_ne (fun e _ => absurd e (by decide))
    have fr18_1 : ∀ j, η1 18 j = η 18 j := v453
    have v454 : ∀ j, η2 18 j = η 18 j := fun j => by rw [eη2]; exact (zup_ne (fun e _ => absurd e (by decide))).trans (v453 j)
    have fr18_2 : ∀ j, η2 18 j = η 18 j := v454
    have v455 : ∀ j, η3 18 j = η 18 j := fun j => by rw [eη3]; exact (zup_ne (fun e _ => absurd e (by decide))).trans (v454 j)
    have fr18_3 : ∀ j, η3 18 j = η 18 j := v455
    have v456 : ∀ j, η4 18 j = η 18 j := fun j => by rw [eη4]; exact (zup_ne (fun e _ => absurd e (by decide))).trans (v455 j)
    have fr18_4 : ∀ j, η4 18 j = η 18 j := v456
    have v457 : ∀ j, η5 18 j = η 18 j := fun j => (k5.1.2.2.2.1 18 _ (zinr_not (by decide +kernel))).trans (v456 j)
    have fr18_5 : ∀ j, η5 18 j = η 18 j := v457
    have v458 : ∀ j, η6 18 j = η 18 j := fun j => (k6.1.2.2.2.1 18 _ (zinr_not (by decide +kernel))).trans (v457 j)
    have fr18_6 : ∀ j, η6 18 j = η 18 j := v458
    have v459 : ∀ j, η7 18 j = η 18 j := fun j => (k7.1.2.2.2.1 18 _ (zinr_not (by decide +kernel))).trans (v458 j)
    have fr18_7 : ∀ j, η7 18 j = η 18 j := v459
    have v460 : ∀ j, η8 18 j = η 18 j := fun j => (k8.1.2.2.2.1 18 _ (zinr_not (by decide +kernel))).trans (v459 j)
    have fr18_8 : ∀ j, η8 18 j = η 18 j := v460
    have v461 : ∀ j, η9 18 j = η 18 j := fun j => (k9.1.2.2.2.1 18 _ (zinr_not (by decide +kernel))).trans (v460 j)
    have fr18_9 : ∀ j, η9 18 j = η 18 j := v461
    have v462 : ∀ j, η10 18 j = η 18 j := fun j => (k10.1.2.2.2.1 18 _ (zinr_not (by decide +kernel))).trans (v461 j)
    have fr18_10 : ∀ j, η10 18 j = η 18 j := v462
    have v463 : ∀ j, η11 18 j = η 18 j := fun j => (k11.1.2.2.2.1 18 _ (zinr_not (by decide +kernel))).trans (v462 j)
    have fr18_11 : ∀ j, η11 18 j = η 18 j := v463
    have v464 : ∀ j, η12 18 j = η 18 j := fun j => (k12.1.2.2.2.1 18 _ (zinr_not (by decide +kernel))).trans (v463 j)
    have fr18_12 : ∀ j, η12 18 j = η 18 j := v464
    have v465 : ∀ j, η13 18 j = η 18 j := fun j => (k13.1.2.2.2.1 18 _ (zinr_not (by decide +kernel))).trans (v464 j)
    have fr18_13 : ∀ j, η13 18 j = η 18 j := v465
    have v466 : ∀ j, η14 18 j = η 18 j := fun j => (k14.1.2.2.2.1 18 _ (zinr_not (by decide +kernel))).trans (v465 j)
    have fr18_14 : ∀ j, η14 18 j = η 18 j := v466
    have v467 : ∀ j, η15 18 j = η 18 j := fun j => (k15.1.2.2.2.1 18 _ (zinr_not (by decide +kernel))).trans (v466 j)
    have fr18_15 : ∀ j, η15 18 j = η 18 j := v467
    have v468 : ∀ j, η16 18 j = η 18 j := fun j => (k16.1.2.2.2.1 18 _ (zinr_not (by decide +kernel))).trans (v467 j)
    have fr18_16 : ∀ j, η16 18 j = η 18 j := v468
    have v469 : ∀ j, η17 18 j = η 18 j := fun j => by rw [eη17]; exact (zup_ne (fun e _ => absurd e (by decide))).trans (v468 j)
    have fr18_17 : ∀ j, η17 18 j = η 18 j := v469
    have v470 : ∀ j, η18 18 j = η 18 j := fun j => by rw [eη18]; exact (zup_ne (fun e _ => absurd e (by decide))).trans (v469 j)
    have fr18_18 : ∀ j, η18 18 j = η 18 j := v470
    have v471 : ∀ j, η19 18 j = η 18 j := fun j => by rw [eη19]; exact (zup_ne (fun e _ => absurd e (by decide))).trans (v470 j)
    have fr18_19 : ∀ j, η19 18 j = η 18 j := v471
    have v472 : ∀ j, η20 18 j = η 18 j := fun j => (k26.1.2.2.2.1 18 _ (zinr_not (by decide +kernel))).trans (v471 j)
    have fr18_20 : ∀ j, η20 18 j = η 18 j := v472
    have fr18_21 : ∀ j, η21 18 j = η21 18 j := fun _ => rfl
    have v474 : ∀ j, η22 18 j = η21 18 j := fun j => k28.1.2.2.2.1 18 _ (zinr_not (by decide +kernel))
    have fr18_22 : ∀ j, η22 18 j = η21 18 j := v474
    have v475 : ∀ j, η23 18 j = η21 18 j := fun j => (k29.1.2.2.2.1 18 _ (zinr_not (by decide +kernel))).trans (v474 j)
    have fr18_23 : ∀ j, η23 18 j = η21 18 j := v475
    have v476 : ∀ j, η24 18 j = η21 18 j := fun j => (k30.1.2.2.2.1 18 _ (zinr_not (by decide +kernel))).trans (v475 j)
    have fr18_24 : ∀ j, η24 18 j = η21 18 j := v476
    have v477 : ∀ j, η25 18 j = η21 18 j := fun j => (k31.1.2.2.2.1 18 _ (zinr_not (by decide +kernel))).trans (v476 j)
    have fr18_25 : ∀ j, η25 18 j = η21 18 j := v477
    have fr19_0 : ∀ j, η 19 j = η 19 j := fun _ => rfl
    have v478 : ∀ j, η1 19 j = η 19 j := fun j => by rw [eη1]; exact zup_ne (fun e _ => absurd e (by decide))
    have fr19_1 : ∀ j, η1 19 j = η 19 j := v478
    have v479 : ∀ j, η2 19 j = η 19 j := fun j => by rw [eη2]; exact (zup_ne (fun e _ => absurd e (by decide))).trans (v478 j)
    have fr19_2 : ∀ j, η2 19 j = η 19 j := v479
    have v480 : ∀ j, η3 19 j = η 19 j := fun j => by rw [eη3]; exact (zup_ne (fun e _ => absurd e (by decide))).trans (v479 j)
    have fr19_3 : ∀ j, η3 19 j = η 19 j := v480
    have v481 : ∀ j, η4 19 j = η 19 j := fun j => by rw [eη4]; exact (zup_ne (fun e _ => absurd e (by decide))).trans (v480 j)
    have fr19_4 : ∀ j, η4 19 j = η 19 j := v481
    have v482 : ∀ j, η5 19 j = η 19 j := fun j => (k5.1.2.2.2.1 19 _ (zinr_not (by decide +kernel))).trans (v481 j)
    have fr19_5 : ∀ j, η5 19 j = η 19 j := v482
    have v483 : ∀ j, η6 19 j = η 19 j := fun j => (k6.1.2.2.2.1 19 _ (zinr_not (by decide +kernel))).trans (v482 j)
    have fr19_6 : ∀ j, η6 19 j = η 19 j := v483
    have v484 : ∀ j, η7 19 j = η 19 j := fun j => (k7.1.2.2.2.1 19 _ (zinr_not (by decide +kernel))).trans (v483 j)
    have fr19_7 : ∀ j, η7 19 j = η 19 j := v484
    have v485 : ∀ j, η8 19 j = η 19 j := fun j => (k8.1.2.2.2.1 19 _ (zinr_not (by decide +kernel))).trans (v484 j)
    have fr19_8 : ∀ j, η8 19 j = η 19 j := v485
    have v486 : ∀ j, η9 19 j = η 19 j := fun j => (k9.1.2.2.2.1 19 _ (zinr_not (by decide +kernel))).trans (v485 j)
    have fr19_9 : ∀ j, η9 19 j = η 19 j := v486
    have v487 : ∀ j, η10 19 j = η 19 j := fun j => (k10.1.2.2.2.1 19 _ (zinr_not (by decide +kernel))).trans (v486 j)
    have fr19_10 : ∀ j, η10 19 j = η 19 j := v487
    have v488 : ∀ j, η11 19 j = η 19 j := fun j => (k11.1.2.2.2.1 19 _ (zinr_not (by decide +kernel))).trans (v487 j)
    have fr19_11 : ∀ j, η11 19 j = η 19 j := v488
    have v489 : ∀ j, η12 19 j = η 19 j := fun j => (k12.1.2.2.2.1 19 _ (zinr_not (by decide +kernel))).trans (v488 j)
    have fr19_12 : ∀ j, η12 19 j = η 19 j := v489
    have v490 : ∀ j, η13 19 j = η 19 j := fun j => (k13.1.2.2.2.1 19 _ (zinr_not (by decide +kernel))).trans (v489 j)
    have fr19_13 : ∀ j, η13 19 j = η 19 j := v490
    have v491 : ∀ j, η14 19 j = η 19 j := fun j => (k14.1.2.2.2.1 19 _ (zinr_not (by decide +kernel))).trans (v490 j)
    have fr19_14 : ∀ j, η14 19 j = η 19 j := v491
    have v492 : ∀ j, η15 19 j = η 19 j := fun j => (k15.1.2.2.2.1 19 _ (zinr_not (by decide +kernel))).trans (v491 j)
    have fr19_15 : ∀ j, η15 19 j = η 19 j := v492
    have v493 : ∀ j, η16 19 j = η 19 j := fun j => (k16.1.2.2.2.1 19 _ (zinr_not (by decide +kernel))).trans (v492 j)
    have fr19_16 : ∀ j, η16 19 j = η 19 j := v493
    have v494 : ∀ j, η17 19 j = η 19 j := fun j => by rw [eη17]; exact (zup_ne (fun e _ => absurd e (by decide))).trans (v493 j)
    have fr19_17 : ∀ j, η17 19 j = η 19 j := v494
    have v495 : ∀ j, η18 19 j = η 19 j := fun j => by rw [eη18]; exact (zup_ne (fun e _ => absurd e (by decide))).trans (v494 j)
    have fr19_18 : ∀ j, η18 19 j = η 19 j := v495
    have v496 : ∀ j, η19 19 j = η 19 j := fun j => by rw [eη19]; exact (zup_ne (fun e _ => absurd e (by decide))).trans (v495 j)
    have fr19_19 : ∀ j, η19 19 j = η 19 j := v496
    have v497 : ∀ j, η20 19 j = η 19 j := fun j => (k26.1.2.2.2.1 19 _ (zinr_not (by decide +kernel))).trans (v496 j)
    have fr19_20 : ∀ j, η20 19 j = η 19 j := v497
    have v498 : ∀ j, η21 19 j = η 19 j := fun j => (k27.1.2.2.2.1 19 _ (zinr_not (by decide +kernel))).trans (v497 j)
    have fr19_21 : ∀ j, η21 19 j = η 19 j := v498
    have fr19_22 : ∀ j, η22 19 j = η22 19 j := fun _ => rfl
    have v500 : ∀ j, η23 19 j = η22 19 j := fun j => k29.1.2.2.2.1 19 _ (zinr_not (by decide +kernel))
    have fr19_23 : ∀ j, η23 19 j = η22 19 j := v500
    have v501 : ∀ j, η24 19 j = η22 19 j := fun j => (k30.1.2.2.2.1 19 _ (zinr_not (by decide +kernel))).trans (v500 j)
    have fr19_24 : ∀ j, η24 19 j = η22 19 j := v501
    have v502 : ∀ j, η25 19 j = η22 19 j := fun j => (k31.1.2.2.2.1 19 _ (zinr_not (by decide +kernel))).trans (v501 j)
    have fr19_25 : ∀ j, η25 19 j = η22 19 j := v502
    have fr20_0 : ∀ j, η 20 j = η 20 j := fun _ => rfl
    have v503 : ∀ j, η1 20 j = η 20 j := fun j => by rw [eη1]; exact zup_ne (fun e _ => absurd e (by decide))
    have fr20_1 : ∀ j, η1 20 j = η 20 j := v503
    have v504 : ∀ j, η2 20 j = η 20 j := fun j => by rw [eη2]; exact (zup_ne (fun e _ => absurd e (by decide))).trans (v503 j)
    have fr20_2 : ∀ j, η2 20 j = η 20 j := v504
    have v505 : ∀ j, η3 20 j = η 20 j := fun j => by rw [eη3]; exact (zup_ne (fun e _ => absurd e (by decide))).trans (v504 j)
    have fr20_3 : ∀ j, η3 20 j = η 20 j := v505
    have v506 : ∀ j, η4 20 j = η 20 j := fun j => by rw [eη4]; exact (zup_ne (fun e _ => absurd e (by decide))).trans (v505 j)
    have fr20_4 : ∀ j, η4 20 j = η 20 j := v506
    have v507 : ∀ j, η5 20 j = η 20 j := fun j => (k5.1.2.2.2.1 20 _ (zinr_not (by decide +kernel))).trans (v506 j)
    have fr20_5 : ∀ j, η5 20 j = η 20 j := v507
    have v508 : ∀ j, η6 20 j = η 20 j := fun j => (k6.1.2.2.2.1 20 _ (zinr_not (by decide +kernel))).trans (v507 j)
    have fr20_6 : ∀ j, η6 20 j = η 20 j := v508
    have v509 : ∀ j, η7 20 j = η 20 j := fun j => (k7.1.2.2.2.1 20 _ (zinr_not (by decide +kernel))).trans (v508 j)
    have fr20_7 : ∀ j, η7 20 j = η 20 j := v509
    have v510 : ∀ j, η8 20 j = η 20 j := fun j => (k8.1.2.2.2.1 20 _ (zinr_not (by decide +kernel))).trans (v509 j)
    have fr20_8 : ∀ j, η8 20 j = η 20 j := v510
    have v511 : ∀ j, η9 20 j = η 20 j := fun j => (k9.1.2.2.2.1 20 _ (zinr_not (by decide +kernel))).trans (v510 j)
    have fr20_9 : ∀ j, η9 20 j = η 20 j := v511
    have v512 : ∀ j, η10 20 j = η 20 j := fun j => (k10.1.2.2.2.1 20 _ (zinr_not (by decide +kernel))).trans (v511 j)
    have fr20_10 : ∀ j, η10 20 j = η 20 j := v512
    have v513 : ∀ j, η11 20 j = η 20 j := fun j => (k11.1.2.2.2.1 20 _ (zinr_not (by decide +kernel))).trans (v512 j)
    have fr20_11 : ∀ j, η11 20 j = η 20 j := v513
    have v514 : ∀ j, η12 20 j = η 20 j := fun j => (k12.1.2.2.2.1 20 _ (zinr_not (by decide +kernel))).trans (v513 j)
    have fr20_12 : ∀ j, η12 20 j = η 20 j := v514
    have v515 : ∀ j, η13 20 j = η 20 j := fun j => (k13.1.2.2.2.1 20 _ (zinr_not (by decide +kernel))).trans (v514 j)
    have fr20_13 : ∀ j, η13 20 j = η 20 j := v515
    have v516 : ∀ j, η14 20 j = η 20 j := fun j => (k14.1.2.2.2.1 20 _ (zinr_not (by decide +kernel))).trans (v515 j)
    have fr20_14 : ∀ j, η14 20 j = η 20 j := v516
    have v517 : ∀ j, η15 20 j = η 20 j := fun j => (k15.1.2.2.2.1 20 _ (zinr_not (by decide +kernel))).trans (v516 j)
    have fr20_15 : ∀ j, η15 20 j = η 20 j := v517
    have v518 : ∀ j, η16 20 j = η 20 j := fun j => (k16.1.2.2.2.1 20 _ (zinr_not (by decide +kernel))).trans (v517 j)
    have fr20_16 : ∀ j, η16 20 j = η 20 j := v518
    have v519 : ∀ j, η17 20 j = η 20 j := fun j => by rw [eη17]; exact (zup_ne (fun e _ => absurd e (by decide))).trans (v518 j)
    have fr20_17 : ∀ j, η17 20 j = η 20 j := v519
    have v520 : ∀ j, η18 20 j = η 20 j := fun j => by rw [eη18]; exact (zup_ne (fun e _ => absurd e (by decide))).trans (v519 j)
    have fr20_18 : ∀ j, η18 20 j = η 20 j := v520
    have v521 : ∀ j, η19 20 j = η 20 j := fun j => by rw [eη19]; exact (zup_ne (fun e _ => absurd e (by decide))).trans (v520 j)
    have fr20_19 : ∀ j, η19 20 j = η 20 j := v521
    have v522 : ∀ j, η20 20 j = η 20 j := fun j => (k26.1.2.2.2.1 20 _ (zinr_not (by decide +kernel))).trans (v521 j)
    have fr20_20 : ∀ j, η20 20 j = η 20 j := v522
    have v523 : ∀ j, η21 20 j = η 20 j := fun j => (k27.1.2.2.2.1 20 _ (zinr_not (by decide +kernel))).trans (v522 j)
    have fr20_21 : ∀ j, η21 20 j = η 20 j := v523
    have v524 : ∀ j, η22 20 j = η 20 j := fun j => (k28.1.2.2.2.1 20 _ (zinr_not (by decide +kernel))).trans (v523 j)
    have fr20_22 : ∀ j, η22 20 j = η 20 j := v524
    have fr20_23 : ∀ j, η23 20 j = η23 20 j := fun _ => rfl
    have v526 : ∀ j, η24 20 j = η23 20 j := fun j => k30.1.2.2.2.1 20 _ (zinr_not (by decide +kernel))
    have fr20_24 : ∀ j, η24 20 j = η23 20 j := v526
    have v527 : ∀ j, η25 20 j = η23 20 j := fun j => (k31.1.2.2.2.1 20 _ (zinr_not (by decide +kernel))).trans (v526 j)
    have fr20_25 : ∀ j, η25 20 j = η23 20 j := v527
    have fr21_0 : ∀ j, η 21 j = η 21 j := fun _ => rfl
    have v528 : ∀ j, η1 21 j = η 21 j := fun j => by rw [eη1]; exact zup_ne (fun e _ => absurd e (by decide))
    have fr21_1 : ∀ j, η1 21 j = η 21 j := v528
    have v529 : ∀ j, η2 21 j = η 21 j := fun j => by rw [eη2]; exact (zup_ne (fun e _ => absurd e (by decide))).trans (v528 j)
    have fr21_2 : ∀ j, η2 21 j = η 21 j := v529
    have v530 : ∀ j, η3 21 j = η 21 j := fun j => by rw [eη3]; exact (zup_ne (fun e _ => absurd e (by decide))).trans (v529 j)
    have fr21_3 : ∀ j, η3 21 j = η 21 j := v530
    have v531 : ∀ j, η4 21 j = η 21 j := fun j => by rw [eη4]; exact (zup_ne (fun e _ => absurd e (by decide))).trans (v530 j)
    have fr21_4 : ∀ j, η4 21 j = η 21 j := v531
    have v532 : ∀ j, η5 21 j = η 21 j := fun j => (k5.1.2.2.2.1 21 _ (zinr_not (by decide +kernel))).trans (v531 j)
    have fr21_5 : ∀ j, η5 21 j = η 21 j := v532
    have v533 : ∀ j, η6 21 j = η 21 j := fun j => (k6.1.2.2.2.1 21 _ (zinr_not (by decide +kernel))).trans (v532 j)
    have fr21_6 : ∀ j, η6 21 j = η 21 j := v533
    have v534 : ∀ j, η7 21 j = η 21 j := fun j => (k7.1.2.2.2.1 21 _ (zinr_not (by decide +kernel))).trans (v533 j)
    have fr21_7 : ∀ j, η7 21 j = η 21 j := v534
    have v535 : ∀ j, η8 21 j = η 21 j := fun j => (k8.1.2.2.2.1 21 _ (zinr_not (by decide +kernel))).trans (v534 j)
    have fr21_8 : ∀ j, η8 21 j = η 21 j := v535
    have v536 : ∀ j, η9 21 j = η 21 j := fun j => (k9.1.2.2.2.1 21 _ (zinr_not (by decide +kernel))).trans (v535 j)
    have fr21_9 : ∀ j, η9 21 j = η 21 j := v536
    have v537 : ∀ j, η10 21 j = η 21 j := fun j => (k10.1.2.2.2.1 21 _ (zinr_not (by decide +kernel))).trans (v536 j)
    have fr21_10 : ∀ j, η10 21 j = η 21 j := v537
    have v538 : ∀ j, η11 21 j = η 21 j := fun j => (k11.1.2.2.2.1 21 _ (zinr_not (by decide +kernel))).trans (v537 j)
    have fr21_11 : ∀ j, η11 21 j = η 21 j := v538
    have v539 : ∀ j, η12 21 j = η 21 j := fun j => (k12.1.2.2.2.1 21 _ (zinr_not (by decide +kernel))).trans (v538 j)
    have fr21_12 : ∀ j, η12 21 j = η 21 j := v539
    have v540 : ∀ j, η13 21 j = η 21 j := fun j => (k13.1.2.2.2.1 21 _ (zinr_not (by decide +kernel))).trans (v539 j)
    have fr21_13 : ∀ j, η13 21 j = η 21 j := v540
    have v541 : ∀ j, η14 21 j = η 21 j := fun j => (k14.1.2.2.2.1 21 _ (zinr_not (by decide +kernel))).trans (v540 j)
    have fr21_14 : ∀ j, η14 21 j = η 21 j := v541
    have v542 : ∀ j, η15 21 j = η 21 j := fun j => (k15.1.2.2.2.1 21 _ (zinr_not (by decide +kernel))).trans (v541 j)
    have fr21_15 : ∀ j, η15 21 j = η 21 j := v542
    have v543 : ∀ j, η16 21 j = η 21 j := fun j => (k16.1.2.2.2.1 21 _ (zinr_not (by decide +kernel))).trans (v542 j)
    have fr21_16 : ∀ j, η16 21 j = η 21 j := v543
    have v544 : ∀ j, η17 21 j = η 21 j := fun j => by rw [eη17]; exact (zup_ne (fun e _ => absurd e (by decide))).trans (v543 j)
    have fr21_17 : ∀ j, η17 21 j = η 21 j := v544
    have v545 : ∀ j, η18 21 j = η 21 j := fun j => by rw [eη18]; exact (zup_ne (fun e _ => absurd e (by decide))).trans (v544 j)
    have fr21_18 : ∀ j, η18 21 j = η 21 j := v545
    have v546 : ∀ j, η19 21 j = η 21 j := fun j => by rw [eη19]; exact (zup_ne (fun e _ => absurd e (by decide))).trans (v545 j)
    have fr21_19 : ∀ j, η19 21 j = η 21 j := v546
    have v547 : ∀ j, η20 21 j = η 21 j := fun j => (k26.1.2.2.2.1 21 _ (zinr_not (by decide +kernel))).trans (v546 j)
    have fr21_20 : ∀ j, η20 21 j = η 21 j := v547
    have v548 : ∀ j, η21 21 j = η 21 j := fun j => (k27.1.2.2.2.1 21 _ (zinr_not (by decide +kernel))).trans (v547 j)
    have fr21_21 : ∀ j, η21 21 j = η 21 j := v548
    have v549 : ∀ j, η22 21 j = η 21 j := fun j => (k28.1.2.2.2.1 21 _ (zinr_not (by decide +kernel))).trans (v548 j)
    have fr21_22 : ∀ j, η22 21 j = η 21 j := v549
    have v550 : ∀ j, η23 21 j = η 21 j := fun j => (k29.1.2.2.2.1 21 _ (zinr_not (by decide +kernel))).trans (v549 j)
    have fr21_23 : ∀ j, η23 21 j = η 21 j := v550
    have fr21_24 : ∀ j, η24 21 j = η24 21 j := fun _ => rfl
    have v552 : ∀ j, η25 21 j = η24 21 j := fun j => k31.1.2.2.2.1 21 _ (zinr_not (by decide +kernel))
    have fr21_25 : ∀ j, η25 21 j = η24 21 j := v552
    have fr4 : ∀ j, η25 4 j = η5 4 j := v152
    have fr5 : ∀ j, η25 5 j = η6 5 j := v177
    have fr6 : ∀ j, η25 6 j = η7 6 j := v202
    have fr7 : ∀ j, η25 7 j = η8 7 j := v227
    have fr8 : ∀ j, η25 8 j = η9 8 j := v252
    have fr9 : ∀ j, η25 9 j = η10 9 j := v277
    have fr10 : ∀ j, η25 10 j = η11 10 j := v302
    have fr11 : ∀ j, η25 11 j = η12 11 j := v327
    have fr12 : ∀ j, η25 12 j = η13 12 j := v352
    have fr13 : ∀ j, η25 13 j = η14 13 j := v377
    have fr14 : ∀ j, η25 14 j = η15 14 j := v402
    have fr15 : ∀ j, η25 15 j = η16 15 j := v427
    have fr17 : ∀ j, η25 17 j = η20 17 j := v452
    have fr18 : ∀ j, η25 18 j = η21 18 j := v477
    have fr19 : ∀ j, η25 19 j = η22 19 j := v502
    have fr20 : ∀ j, η25 20 j = η23 20 j := v527
    have fr21 : ∀ j, η25 21 j = η24 21 j := v552
    have v553 : zEq (η17 16 0) (x18) := by rw [eη17]; exact zup_eq
    have v554 : zEq (η18 16 0) (x18) := by rw [eη18]; exact (zup_ne (fun _ e => absurd e (by decide))).trans v553
    have v555 : zEq (η19 16 0) (x18) := by rw [eη19]; exact (zup_ne (fun _ e => absurd e (by decide))).trans v554
    have v556 : zEq (η20 16 0) (x18) := (k26.1.2.2.2.1 16 0 (by decide +kernel)).trans v555
    have v557 : zEq (η21 16 0) (x18) := (k27.1.2.2.2.1 16 0 (by decide +kernel)).trans v556
    have v558 : zEq (η22 16 0) (x18) := (k28.1.2.2.2.1 16 0 (by decide +kernel)).trans v557
    have v559 : zEq (η23 16 0) (x18) := (k29.1.2.2.2.1 16 0 (by decide +kernel)).trans v558
    have v560 : zEq (η24 16 0) (x18) := (k30.1.2.2.2.1 16 0 (by decide +kernel)).trans v559
    have v561 : zEq (η25 16 0) (x18) := (k31.1.2.2.2.1 16 0 (by decide +kernel)).trans v560
    have f16_0 : η25 16 0 = x18 := v561
    have v562 : zEq (η18 16 1) (x21) := by rw [eη18]; exact zup_eq
    have v563 : zEq (η19 16 1) (x21) := by rw [eη19]; exact (zup_ne (fun _ e => absurd e (by decide))).trans v562
    have v564 : zEq (η20 16 1) (x21) := (k26.1.2.2.2.1 16 1 (by decide +kernel)).trans v563
    have v565 : zEq (η21 16 1) (x21) := (k27.1.2.2.2.1 16 1 (by decide +kernel)).trans v564
    have v566 : zEq (η22 16 1) (x21) := (k28.1.2.2.2.1 16 1 (by decide +kernel)).trans v565
    have v567 : zEq (η23 16 1) (x21) := (k29.1.2.2.2.1 16 1 (by decide +kernel)).trans v566
    have v568 : zEq (η24 16 1) (x21) := (k30.1.2.2.2.1 16 1 (by decide +kernel)).trans v567
    have v569 : zEq (η25 16 1) (x21) := (k31.1.2.2.2.1 16 1 (by decide +kernel)).trans v568
    have f16_1 : η25 16 1 = x21 := v569
    have v570 : zEq (η19 16 2) (x24) := by rw [eη19]; exact zup_eq
    have v571 : zEq (η20 16 2) (x24) := (k26.1.2.2.2.1 16 2 (by decide +kernel)).trans v570
    have v572 : zEq (η21 16 2) (x24) := (k27.1.2.2.2.1 16 2 (by decide +kernel)).trans v571
    have v573 : zEq (η22 16 2) (x24) := (k28.1.2.2.2.1 16 2 (by decide +kernel)).trans v572
    have v574 : zEq (η23 16 2) (x24) := (k29.1.2.2.2.1 16 2 (by decide +kernel)).trans v573
    have v575 : zEq (η24 16 2) (x24) := (k30.1.2.2.2.1 16 2 (by decide +kernel)).trans v574
    have v576 : zEq (η25 16 2) (x24) := (k31.1.2.2.2.1 16 2 (by decide +kernel)).trans v575
    have f16_2 : η25 16 2 = x24 := v576
    have v577 : zEq (η17 16 3) (η 16 3) := by rw [eη17]; exact (zup_ne (fun _ e => absurd e (by decide))).trans v36
    have v578 : zEq (η18 16 3) (η 16 3) := by rw [eη18]; exact (zup_ne (fun _ e => absurd e (by decide))).trans v577
    have v579 : zEq (η19 16 3) (η 16 3) := by rw [eη19]; exact (zup_ne (fun _ e => absurd e (by decide))).trans v578
    have v580 : zEq (η20 16 3) (η 16 3) := (k26.1.2.2.2.1 16 3 (by decide +kernel)).trans v579
    have v581 : zEq (η21 16 3) (η 16 3) := (k27.1.2.2.2.1 16 3 (by decide +kernel)).trans v580
    have v582 : zEq (η22 16 3) (η 16 3) := (k28.1.2.2.2.1 16 3 (by decide +kernel)).trans v581
    have v583 : zEq (η23 16 3) (η 16 3) := (k29.1.2.2.2.1 16 3 (by decide +kernel)).trans v582
    have v584 : zEq (η24 16 3) (η 16 3) := (k30.1.2.2.2.1 16 3 (by decide +kernel)).trans v583
    have v585 : zEq (η25 16 3) (η 16 3) := (k31.1.2.2.2.1 16 3 (by decide +kernel)).trans v584
    have f16_3 : η25 16 3 = η 16 3 := v585
    have v586 : zEq (η18 16 4) (η 16 4) := by rw [eη18]; exact (zup_ne (fun _ e => absurd e (by decide))).trans v71
    have v587 : zEq (η19 16 4) (η 16 4) := by rw [eη19]; exact (zup_ne (fun _ e => absurd e (by decide))).trans v586
    have v588 : zEq (η20 16 4) (η 16 4) := (k26.1.2.2.2.1 16 4 (by decide +kernel)).trans v587
    have v589 : zEq (η21 16 4) (η 16 4) := (k27.1.2.2.2.1 16 4 (by decide +kernel)).trans v588
    have v590 : zEq (η22 16 4) (η 16 4) := (k28.1.2.2.2.1 16 4 (by decide +kernel)).trans v589
    have v591 : zEq (η23 16 4) (η 16 4) := (k29.1.2.2.2.1 16 4 (by decide +kernel)).trans v590
    have v592 : zEq (η24 16 4) (η 16 4) := (k30.1.2.2.2.1 16 4 (by decide +kernel)).trans v591
    have v593 : zEq (η25 16 4) (η 16 4) := (k31.1.2.2.2.1 16 4 (by decide +kernel)).trans v592
    have f16_4 : η25 16 4 = η 16 4 := v593
    have v594 : zEq (η19 16 5) (η 16 5) := by rw [eη19]; exact (zup_ne (fun _ e => absurd e (by decide))).trans v108
    have v595 : zEq (η20 16 5) (η 16 5) := (k26.1.2.2.2.1 16 5 (by decide +kernel)).trans v594
    have v596 : zEq (η21 16 5) (η 16 5) := (k27.1.2.2.2.1 16 5 (by decide +kernel)).trans v595
    have v597 : zEq (η22 16 5) (η 16 5) := (k28.1.2.2.2.1 16 5 (by decide +kernel)).trans v596
    have v598 : zEq (η23 16 5) (η 16 5) := (k29.1.2.2.2.1 16 5 (by decide +kernel)).trans v597
    have v599 : zEq (η24 16 5) (η 16 5) := (k30.1.2.2.2.1 16 5 (by decide +kernel)).trans v598
    have v600 : zEq (η25 16 5) (η 16 5) := (k31.1.2.2.2.1 16 5 (by decide +kernel)).trans v599
    have f16_5 : η25 16 5 = η 16 5 := v600
    have v601 : zEq (η1 0 12) (x1) := by rw [eη1]; exact zup_eq
    have v602 : zEq (η2 0 12) (x1) := by rw [eη2]; exact (zup_ne (fun _ e => absurd e (by decide))).trans v601
    have v603 : zEq (η3 0 12) (x1) := by rw [eη3]; exact (zup_ne (fun _ e => absurd e (by decide))).trans v602
    have v604 : zEq (η4 0 12) (x1) := by rw [eη4]; exact (zup_ne (fun _ e => absurd e (by decide))).trans v603
    have v605 : zEq (η5 0 12) (x1) := (k5.1.2.2.2.1 0 12 (by decide +kernel)).trans v604
    have v606 : zEq (η6 0 12) (x1) := (k6.1.2.2.2.1 0 12 (by decide +kernel)).trans v605
    have v607 : zEq (η7 0 12) (x1) := (k7.1.2.2.2.1 0 12 (by decide +kernel)).trans v606
    have v608 : zEq (η8 0 12) (x1) := (k8.1.2.2.2.1 0 12 (by decide +kernel)).trans v607
    have v609 : zEq (η9 0 12) (x1) := (k9.1.2.2.2.1 0 12 (by decide +kernel)).trans v608
    have v610 : zEq (η10 0 12) (x1) := (k10.1.2.2.2.1 0 12 (by decide +kernel)).trans v609
    have v611 : zEq (η11 0 12) (x1) := (k11.1.2.2.2.1 0 12 (by decide +kernel)).trans v610
    have v612 : zEq (η12 0 12) (x1) := (k12.1.2.2.2.1 0 12 (by decide +kernel)).trans v611
    have v613 : zEq (η13 0 12) (x1) := (k13.1.2.2.2.1 0 12 (by decide +kernel)).trans v612
    have v614 : zEq (η14 0 12) (x1) := (k14.1.2.2.2.1 0 12 (by decide +kernel)).trans v613
    have v615 : zEq (η15 0 12) (x1) := (k15.1.2.2.2.1 0 12 (by decide +kernel)).trans v614
    have v616 : zEq (η16 0 12) (x1) := (k16.1.2.2.2.1 0 12 (by decide +kernel)).trans v615
    have v617 : zEq (η17 0 12) (x1) := by rw [eη17]; exact (zup_ne (fun e _ => absurd e (by decide))).trans v616
    have v618 : zEq (η18 0 12) (x1) := by rw [eη18]; exact (zup_ne (fun e _ => absurd e (by decide))).trans v617
    have v619 : zEq (η19 0 12) (x1) := by rw [eη19]; exact (zup_ne (fun e _ => absurd e (by decide))).trans v618
    have v620 : zEq (η20 0 12) (x1) := (k26.1.2.2.2.1 0 12 (by decide +kernel)).trans v619
    have v621 : zEq (η21 0 12) (x1) := (k27.1.2.2.2.1 0 12 (by decide +kernel)).trans v620
    have v622 : zEq (η22 0 12) (x1) := (k28.1.2.2.2.1 0 12 (by decide +kernel)).trans v621
    have v623 : zEq (η23 0 12) (x1) := (k29.1.2.2.2.1 0 12 (by decide +kernel)).trans v622
    have v624 : zEq (η24 0 12) (x1) := (k30.1.2.2.2.1 0 12 (by decide +kernel)).trans v623
    have v625 : zEq (η25 0 12) (x1) := (k31.1.2.2.2.1 0 12 (by decide +kernel)).trans v624
    have f0_12 : η25 0 12 = x1 := v625
    have v626 : zEq (η2 0 13) (x2) := by rw [eη2]; exact zup_eq
    have v627 : zEq (η3 0 13) (x2) := by rw [eη3]; exact (zup_ne (fun _ e => absurd e (by decide))).trans v626
    have v628 : zEq (η4 0 13) (x2) := by rw [eη4]; exact (zup_ne (fun _ e => absurd e (by decide))).trans v627
    have v629 : zEq (η5 0 13) (x2) := (k5.1.2.2.2.1 0 13 (by decide +kernel)).trans v628
    have v630 : zEq (η6 0 13) (x2) := (k6.1.2.2.2.1 0 13 (by decide +kernel)).trans v629
    have v631 : zEq (η7 0 13) (x2) := (k7.1.2.2.2.1 0 13 (by decide +kernel)).trans v630
    have v632 : zEq (η8 0 13) (x2) := (k8.1.2.2.2.1 0 13 (by decide +kernel)).trans v631
    have v633 : zEq (η9 0 13) (x2) := (k9.1.2.2.2.1 0 13 (by decide +kernel)).trans v632
    have v634 : zEq (η10 0 13) (x2) := (k10.1.2.2.2.1 0 13 (by decide +kernel)).trans v633
    have v635 : zEq (η11 0 13) (x2) := (k11.1.2.2.2.1 0 13 (by decide +kernel)).trans v634
    have v636 : zEq (η12 0 13) (x2) := (k12.1.2.2.2.1 0 13 (by decide +kernel)).trans v635
    have v637 : zEq (η13 0 13) (x2) := (k13.1.2.2.2.1 0 13 (by decide +kernel)).trans v636
    have v638 : zEq (η14 0 13) (x2) := (k14.1.2.2.2.1 0 13 (by decide +kernel)).trans v637
    have v639 : zEq (η15 0 13) (x2) := (k15.1.2.2.2.1 0 13 (by decide +kernel)).trans v638
    have v640 : zEq (η16 0 13) (x2) := (k16.1.2.2.2.1 0 13 (by decide +kernel)).trans v639
    have v641 : zEq (η17 0 13) (x2) := by rw [eη17]; exact (zup_ne (fun e _ => absurd e (by decide))).trans v640
    have v642 : zEq (η18 0 13) (x2) := by rw [eη18]; exact (zup_ne (fun e _ => absurd e (by decide))).trans v641
    have v643 : zEq (η19 0 13) (x2) := by rw [eη19]; exact (zup_ne (fun e _ => absurd e (by decide))).trans v642
    have v644 : zEq (η20 0 13) (x2) := (k26.1.2.2.2.1 0 13 (by decide +kernel)).trans v643
    have v645 : zEq (η21 0 13) (x2) := (k27.1.2.2.2.1 0 13 (by decide +kernel)).trans v644
    have v646 : zEq (η22 0 13) (x2) := (k28.1.2.2.2.1 0 13 (by decide +kernel)).trans v645
    have v647 : zEq (η23 0 13) (x2) := (k29.1.2.2.2.1 0 13 (by decide +kernel)).trans v646
    have v648 : zEq (η24 0 13) (x2) := (k30.1.2.2.2.1 0 13 (by decide +kernel)).trans v647
    have v649 : zEq (η25 0 13) (x2) := (k31.1.2.2.2.1 0 13 (by decide +kernel)).trans v648
    have f0_13 : η25 0 13 = x2 := v649
    have v650 : zEq (η3 0 14) (x3) := by rw [eη3]; exact zup_eq
    have v651 : zEq (η4 0 14) (x3) := by rw [eη4]; exact (zup_ne (fun _ e => absurd e (by decide))).trans v650
    have v652 : zEq (η5 0 14) (x3) := (k5.1.2.2.2.1 0 14 (by decide +kernel)).trans v651
    have v653 : zEq (η6 0 14) (x3) := (k6.1.2.2.2.1 0 14 (by decide +kernel)).trans v652
    have v654 : zEq (η7 0 14) (x3) := (k7.1.2.2.2.1 0 14 (by decide +kernel)).trans v653
    have v655 : zEq (η8 0 14) (x3) := (k8.1.2.2.2.1 0 14 (by decide +kernel)).trans v654
    have v656 : zEq (η9 0 14) (x3) := (k9.1.2.2.2.1 0 14 (by decide +kernel)).trans v655
    have v657 : zEq (η10 0 14) (x3) := (k10.1.2.2.2.1 0 14 (by decide +kernel)).trans v656
    have v658 : zEq (η11 0 14) (x3) := (k11.1.2.2.2.1 0 14 (by decide +kernel)).trans v657
    have v659 : zEq (η12 0 14) (x3) := (k12.1.2.2.2.1 0 14 (by decide +kernel)).trans v658
    have v660 : zEq (η13 0 14) (x3) := (k13.1.2.2.2.1 0 14 (by decide +kernel)).trans v659
    have v661 : zEq (η14 0 14) (x3) := (k14.1.2.2.2.1 0 14 (by decide +kernel)).trans v660
    have v662 : zEq (η15 0 14) (x3) := (k15.1.2.2.2.1 0 14 (by decide +kernel)).trans v661
    have v663 : zEq (η16 0 14) (x3) := (k16.1.2.2.2.1 0 14 (by decide +kernel)).trans v662
    have v664 : zEq (η17 0 14) (x3) := by rw [eη17]; exact (zup_ne (fun e _ => absurd e (by decide))).trans v663
    have v665 : zEq (η18 0 14) (x3) := by rw [eη18]; exact (zup_ne (fun e _ => absurd e (by decide))).trans v664
    have v666 : zEq (η19 0 14) (x3) := by rw [eη19]; exact (zup_ne (fun e _ => absurd e (by decide))).trans v665
    have v667 : zEq (η20 0 14) (x3) := (k26.1.2.2.2.1 0 14 (by decide +kernel)).trans v666
    have v668 : zEq (η21 0 14) (x3) := (k27.1.2.2.2.1 0 14 (by decide +kernel)).trans v667
    have v669 : zEq (η22 0 14) (x3) := (k28.1.2.2.2.1 0 14 (by decide +kernel)).trans v668
    have v670 : zEq (η23 0 14) (x3) := (k29.1.2.2.2.1 0 14 (by decide +kernel)).trans v669
    have v671 : zEq (η24 0 14) (x3) := (k30.1.2.2.2.1 0 14 (by decide +kernel)).trans v670
    have v672 : zEq (η25 0 14) (x3) := (k31.1.2.2.2.1 0 14 (by decide +kernel)).trans v671
    have f0_14 : η25 0 14 = x3 := v672
    have v673 : zEq (η4 0 15) (x4) := by rw [eη4]; exact zup_eq
    have v674 : zEq (η5 0 15) (x4) := (k5.1.2.2.2.1 0 15 (by decide +kernel)).trans v673
    have v675 : zEq (η6 0 15) (x4) := (k6.1.2.2.2.1 0 15 (by decide +kernel)).trans v674
    have v676 : zEq (η7 0 15) (x4) := (k7.1.2.2.2.1 0 15 (by decide +kernel)).trans v675
    have v677 : zEq (η8 0 15) (x4) := (k8.1.2.2.2.1 0 15 (by decide +kernel)).trans v676
    have v678 : zEq (η9 0 15) (x4) := (k9.1.2.2.2.1 0 15 (by decide +kernel)).trans v677
    have v679 : zEq (η10 0 15) (x4) := (k10.1.2.2.2.1 0 15 (by decide +kernel)).trans v678
    have v680 : zEq (η11 0 15) (x4) := (k11.1.2.2.2.1 0 15 (by decide +kernel)).trans v679
    have v681 : zEq (η12 0 15) (x4) := (k12.1.2.2.2.1 0 15 (by decide +kernel)).trans v680
    have v682 : zEq (η13 0 15) (x4) := (k13.1.2.2.2.1 0 15 (by decide +kernel)).trans v681
    have v683 : zEq (η14 0 15) (x4) := (k14.1.2.2.2.1 0 15 (by decide +kernel)).trans v682
    have v684 : zEq (η15 0 15) (x4) := (k15.1.2.2.2.1 0 15 (by decide +kernel)).trans v683
    have v685 : zEq (η16 0 15) (x4) := (k16.1.2.2.2.1 0 15 (by decide +kernel)).trans v684
    have v686 : zEq (η17 0 15) (x4) := by rw [eη17]; exact (zup_ne (fun e _ => absurd e (by decide))).trans v685
    have v687 : zEq (η18 0 15) (x4) := by rw [eη18]; exact (zup_ne (fun e _ => absurd e (by decide))).trans v686
    have v688 : zEq (η19 0 15) (x4) := by rw [eη19]; exact (zup_ne (fun e _ => absurd e (by decide))).trans v687
    have v689 : zEq (η20 0 15) (x4) := (k26.1.2.2.2.1 0 15 (by decide +kernel)).trans v688
    have v690 : zEq (η21 0 15) (x4) := (k27.1.2.2.2.1 0 15 (by decide +kernel)).trans v689
    have v691 : zEq (η22 0 15) (x4) := (k28.1.2.2.2.1 0 15 (by decide +kernel)).trans v690
    have v692 : zEq (η23 0 15) (x4) := (k29.1.2.2.2.1 0 15 (by decide +kernel)).trans v691
    have v693 : zEq (η24 0 15) (x4) := (k30.1.2.2.2.1 0 15 (by decide +kernel)).trans v692
    have v694 : zEq (η25 0 15) (x4) := (k31.1.2.2.2.1 0 15 (by decide +kernel)).trans v693
    have f0_15 : η25 0 15 = x4 := v694
    have v695 : zEq (η1 0 16) (η 0 16) := by rw [eη1]; exact (zup_ne (fun _ e => absurd e (by decide))).trans rfl
    have v696 : zEq (η2 0 16) (η 0 16) := by rw [eη2]; exact (zup_ne (fun _ e => absurd e (by decide))).trans v695
    have v697 : zEq (η3 0 16) (η 0 16) := by rw [eη3]; exact (zup_ne (fun _ e => absurd e (by decide))).trans v696
    have v698 : zEq (η4 0 16) (η 0 16) := by rw [eη4]; exact (zup_ne (fun _ e => absurd e (by decide))).trans v697
    have v699 : zEq (η5 0 16) (η 0 16) := (k5.1.2.2.2.1 0 16 (by decide +kernel)).trans v698
    have v700 : zEq (η6 0 16) (η 0 16) := (k6.1.2.2.2.1 0 16 (by decide +kernel)).trans v699
    have v701 : zEq (η7 0 16) (η 0 16) := (k7.1.2.2.2.1 0 16 (by decide +kernel)).trans v700
    have v702 : zEq (η8 0 16) (η 0 16) := (k8.1.2.2.2.1 0 16 (by decide +kernel)).trans v701
    have v703 : zEq (η9 0 16) (η 0 16) := (k9.1.2.2.2.1 0 16 (by decide +kernel)).trans v702
    have v704 : zEq (η10 0 16) (η 0 16) := (k10.1.2.2.2.1 0 16 (by decide +kernel)).trans v703
    have v705 : zEq (η11 0 16) (η 0 16) := (k11.1.2.2.2.1 0 16 (by decide +kernel)).trans v704
    have v706 : zEq (η12 0 16) (η 0 16) := (k12.1.2.2.2.1 0 16 (by decide +kernel)).trans v705
    have v707 : zEq (η13 0 16) (η 0 16) := (k13.1.2.2.2.1 0 16 (by decide +kernel)).trans v706
    have v708 : zEq (η14 0 16) (η 0 16) := (k14.1.2.2.2.1 0 16 (by decide +kernel)).trans v707
    have v709 : zEq (η15 0 16) (η 0 16) := (k15.1.2.2.2.1 0 16 (by decide +kernel)).trans v708
    have v710 : zEq (η16 0 16) (η 0 16) := (k16.1.2.2.2.1 0 16 (by decide +kernel)).trans v709
    have v711 : zEq (η17 0 16) (η 0 16) := by rw [eη17]; exact (zup_ne (fun e _ => absurd e (by decide))).trans v710
    have v712 : zEq (η18 0 16) (η 0 16) := by rw [eη18]; exact (zup_ne (fun e _ => absurd e (by decide))).trans v711
    have v713 : zEq (η19 0 16) (η 0 16) := by rw [eη19]; exact (zup_ne (fun e _ => absurd e (by decide))).trans v712
    have v714 : zEq (η20 0 16) (η 0 16) := (k26.1.2.2.2.1 0 16 (by decide +kernel)).trans v713
    have v715 : zEq (η21 0 16) (η 0 16) := (k27.1.2.2.2.1 0 16 (by decide +kernel)).trans v714
    have v716 : zEq (η22 0 16) (η 0 16) := (k28.1.2.2.2.1 0 16 (by decide +kernel)).trans v715
    have v717 : zEq (η23 0 16) (η 0 16) := (k29.1.2.2.2.1 0 16 (by decide +kernel)).trans v716
    have v718 : zEq (η24 0 16) (η 0 16) := (k30.1.2.2.2.1 0 16 (by decide +kernel)).trans v717
    have v719 : zEq (η25 0 16) (η 0 16) := (k31.1.2.2.2.1 0 16 (by decide +kernel)).trans v718
    have f0_16 : η25 0 16 = η 0 16 := v719
    have v720 : zEq (η2 0 17) (η 0 17) := by rw [eη2]; exact (zup_ne (fun _ e => absurd e (by decide))).trans v3
    have v721 : zEq (η3 0 17) (η 0 17) := by rw [eη3]; exact (zup_ne (fun _ e => absurd e (by decide))).trans v720
    have v722 : zEq (η4 0 17) (η 0 17) := by rw [eη4]; exact (zup_ne (fun _ e => absurd e (by decide))).trans v721
    have v723 : zEq (η5 0 17) (η 0 17) := (k5.1.2.2.2.1 0 17 (by decide +kernel)).trans v722
    have v724 : zEq (η6 0 17) (η 0 17) := (k6.1.2.2.2.1 0 17 (by decide +kernel)).trans v723
    have v725 : zEq (η7 0 17) (η 0 17) := (k7.1.2.2.2.1 0 17 (by decide +kernel)).trans v724
    have v726 : zEq (η8 0 17) (η 0 17) := (k8.1.2.2.2.1 0 17 (by decide +kernel)).trans v725
    have v727 : zEq (η9 0 17) (η 0 17) := (k9.1.2.2.2.1 0 17 (by decide +kernel)).trans v726
    have v728 : zEq (η10 0 17) (η 0 17) := (k10.1.2.2.2.1 0 17 (by decide +kernel)).trans v727
    have v729 : zEq (η11 0 17) (η 0 17) := (k11.1.2.2.2.1 0 17 (by decide +kernel)).trans v728
    have v730 : zEq (η12 0 17) (η 0 17) := (k12.1.2.2.2.1 0 17 (by decide +kernel)).trans v729
    have v731 : zEq (η13 0 17) (η 0 17) := (k13.1.2.2.2.1 0 17 (by decide +kernel)).trans v730
    have v732 : zEq (η14 0 17) (η 0 17) := (k14.1.2.2.2.1 0 17 (by decide +kernel)).trans v731
    have v733 : zEq (η15 0 17) (η 0 17) := (k15.1.2.2.2.1 0 17 (by decide +kernel)).trans v732
    have v734 : zEq (η16 0 17) (η 0 17) := (k16.1.2.2.2.1 0 17 (by decide +kernel)).trans v733
    have v735 : zEq (η17 0 17) (η 0 17) := by rw [eη17]; exact (zup_ne (fun e _ => absurd e (by decide))).trans v734
    have v736 : zEq (η18 0 17) (η 0 17) := by rw [eη18]; exact (zup_ne (fun e _ => absurd e (by decide))).trans v735
    have v737 : zEq (η19 0 17) (η 0 17) := by rw [eη19]; exact (zup_ne (fun e _ => absurd e (by decide))).trans v736
    have v738 : zEq (η20 0 17) (η 0 17) := (k26.1.2.2.2.1 0 17 (by decide +kernel)).trans v737
    have v739 : zEq (η21 0 17) (η 0 17) := (k27.1.2.2.2.1 0 17 (by decide +kernel)).trans v738
    have v740 : zEq (η22 0 17) (η 0 17) := (k28.1.2.2.2.1 0 17 (by decide +kernel)).trans v739
    have v741 : zEq (η23 0 17) (η 0 17) := (k29.1.2.2.2.1 0 17 (by decide +kernel)).trans v740
    have v742 : zEq (η24 0 17) (η 0 17) := (k30.1.2.2.2.1 0 17 (by decide +kernel)).trans v741
    have v743 : zEq (η25 0 17) (η 0 17) := (k31.1.2.2.2.1 0 17 (by decide +kernel)).trans v742
    have f0_17 : η25 0 17 = η 0 17 := v743
    have v744 : zEq (η3 0 18) (η 0 18) := by rw [eη3]; exact (zup_ne (fun _ e => absurd e (by decide))).trans v8
    have v745 : zEq (η4 0 18) (η 0 18) := by rw [eη4]; exact (zup_ne (fun _ e => absurd e (by decide))).trans v744
    have v746 : zEq (η5 0 18) (η 0 18) := (k5.1.2.2.2.1 0 18 (by decide +kernel)).trans v745
    have v747 : zEq (η6 0 18) (η 0 18) := (k6.1.2.2.2.1 0 18 (by decide +kernel)).trans v746
    have v748 : zEq (η7 0 18) (η 0 18) := (k7.1.2.2.2.1 0 18 (by decide +kernel)).trans v747
    have v749 : zEq (η8 0 18) (η 0 18) := (k8.1.2.2.2.1 0 18 (by decide +kernel)).trans v748
    have v750 : zEq (η9 0 18) (η 0 18) := (k9.1.2.2.2.1 0 18 (by decide +kernel)).trans v749
    have v751 : zEq (η10 0 18) (η 0 18) := (k10.1.2.2.2.1 0 18 (by decide +kernel)).trans v750
    have v752 : zEq (η11 0 18) (η 0 18) := (k11.1.2.2.2.1 0 18 (by decide +kernel)).trans v751
    have v753 : zEq (η12 0 18) (η 0 18) := (k12.1.2.2.2.1 0 18 (by decide +kernel)).trans v752
    have v754 : zEq (η13 0 18) (η 0 18) := (k13.1.2.2.2.1 0 18 (by decide +kernel)).trans v753
    have v755 : zEq (η14 0 18) (η 0 18) := (k14.1.2.2.2.1 0 18 (by decide +kernel)).trans v754
    have v756 : zEq (η15 0 18) (η 0 18) := (k15.1.2.2.2.1 0 18 (by decide +kernel)).trans v755
    have v757 : zEq (η16 0 18) (η 0 18) := (k16.1.2.2.2.1 0 18 (by decide +kernel)).trans v756
    have v758 : zEq (η17 0 18) (η 0 18) := by rw [eη17]; exact (zup_ne (fun e _ => absurd e (by decide))).trans v757
    have v759 : zEq (η18 0 18) (η 0 18) := by rw [eη18]; exact (zup_ne (fun e _ => absurd e (by decide))).trans v758
    have v760 : zEq (η19 0 18) (η 0 18) := by rw [eη19]; exact (zup_ne (fun e _ => absurd e (by decide))).trans v759
    have v761 : zEq (η20 0 18) (η 0 18) := (k26.1.2.2.2.1 0 18 (by decide +kernel)).trans v760
    have v762 : zEq (η21 0 18) (η 0 18) := (k27.1.2.2.2.1 0 18 (by decide +kernel)).trans v761
    have v763 : zEq (η22 0 18) (η 0 18) := (k28.1.2.2.2.1 0 18 (by decide +kernel)).trans v762
    have v764 : zEq (η23 0 18) (η 0 18) := (k29.1.2.2.2.1 0 18 (by decide +kernel)).trans v763
    have v765 : zEq (η24 0 18) (η 0 18) := (k30.1.2.2.2.1 0 18 (by decide +kernel)).trans v764
    have v766 : zEq (η25 0 18) (η 0 18) := (k31.1.2.2.2.1 0 18 (by decide +kernel)).trans v765
    have f0_18 : η25 0 18 = η 0 18 := v766
    have v767 : zEq (η4 0 19) (η 0 19) := by rw [eη4]; exact (zup_ne (fun _ e => absurd e (by decide))).trans v15
    have v768 : zEq (η5 0 19) (η 0 19) := (k5.1.2.2.2.1 0 19 (by decide +kernel)).trans v767
    have v769 : zEq (η6 0 19) (η 0 19) := (k6.1.2.2.2.1 0 19 (by decide +kernel)).trans v768
    have v770 : zEq (η7 0 19) (η 0 19) := (k7.1.2.2.2.1 0 19 (by decide +kernel)).trans v769
    have v771 : zEq (η8 0 19) (η 0 19) := (k8.1.2.2.2.1 0 19 (by decide +kernel)).trans v770
    have v772 : zEq (η9 0 19) (η 0 19) := (k9.1.2.2.2.1 0 19 (by decide +kernel)).trans v771
    have v773 : zEq (η10 0 19) (η 0 19) := (k10.1.2.2.2.1 0 19 (by decide +kernel)).trans v772
    have v774 : zEq (η11 0 19) (η 0 19) := (k11.1.2.2.2.1 0 19 (by decide +kernel)).trans v773
    have v775 : zEq (η12 0 19) (η 0 19) := (k12.1.2.2.2.1 0 19 (by decide +kernel)).trans v774
    have v776 : zEq (η13 0 19) (η 0 19) := (k13.1.2.2.2.1 0 19 (by decide +kernel)).trans v775
    have v777 : zEq (η14 0 19) (η 0 19) := (k14.1.2.2.2.1 0 19 (by decide +kernel)).trans v776
    have v778 : zEq (η15 0 19) (η 0 19) := (k15.1.2.2.2.1 0 19 (by decide +kernel)).trans v777
    have v779 : zEq (η16 0 19) (η 0 19) := (k16.1.2.2.2.1 0 19 (by decide +kernel)).trans v778
    have v780 : zEq (η17 0 19) (η 0 19) := by rw [eη17]; exact (zup_ne (fun e _ => absurd e (by decide))).trans v779
    have v781 : zEq (η18 0 19) (η 0 19) := by rw [eη18]; exact (zup_ne (fun e _ => absurd e (by decide))).trans v780
    have v782 : zEq (η19 0 19) (η 0 19) := by rw [eη19]; exact (zup_ne (fun e _ => absurd e (by decide))).trans v781
    have v783 : zEq (η20 0 19) (η 0 19) := (k26.1.2.2.2.1 0 19 (by decide +kernel)).trans v782
    have v784 : zEq (η21 0 19) (η 0 19) := (k27.1.2.2.2.1 0 19 (by decide +kernel)).trans v783
    have v785 : zEq (η22 0 19) (η 0 19) := (k28.1.2.2.2.1 0 19 (by decide +kernel)).trans v784
    have v786 : zEq (η23 0 19) (η 0 19) := (k29.1.2.2.2.1 0 19 (by decide +kernel)).trans v785
    have v787 : zEq (η24 0 19) (η 0 19) := (k30.1.2.2.2.1 0 19 (by decide +kernel)).trans v786
    have v788 : zEq (η25 0 19) (η 0 19) := (k31.1.2.2.2.1 0 19 (by decide +kernel)).trans v787
    have f0_19 : η25 0 19 = η 0 19 := v788
    have t4 : ∀ j, j < 4 → η25 4 j = η 4 (4 + j) := fun j hj => by rw [fr4, k5.2.1 j hj, fr4_4]
    have t7 : ∀ j, j < 4 → η25 7 j = η 7 (4 + j) := fun j hj => by rw [fr7, k8.2.1 j hj, fr7_7]
    have t8 : ∀ j, j < 4 → η25 8 j = η 8 (4 + j) := fun j hj => by rw [fr8, k9.2.1 j hj, fr8_8]
    have t9 : ∀ j, j < 4 → η25 9 j = η 9 (4 + j) := fun j hj => by rw [fr9, k10.2.1 j hj, fr9_9]
    have t10 : ∀ j, j < 4 → η25 10 j = η 10 (4 + j) := fun j hj => by rw [fr10, k11.2.1 j hj, fr10_10]
    have t11 : ∀ j, j < 4 → η25 11 j = η 11 (4 + j) := fun j hj => by rw [fr11, k12.2.1 j hj, fr11_11]
    have t12 : ∀ j, j < 4 → η25 12 j = η 12 (4 + j) := fun j hj => by rw [fr12, k13.2.1 j hj, fr12_12]
    have t13 : ∀ j, j < 4 → η25 13 j = η 13 (4 + j) := fun j hj => by rw [fr13, k14.2.1 j hj, fr13_13]
    have t14 : ∀ j, j < 4 → η25 14 j = η 14 (4 + j) := fun j hj => by rw [fr14, k15.2.1 j hj, fr14_14]
    have t15 : ∀ j, j < 4 → η25 15 j = η 15 (4 + j) := fun j hj => by rw [fr15, k16.2.1 j hj, fr15_15]
    have t5 : ∀ j, j < 12 → η25 5 j = η 5 (12 + j) := fun j hj => by rw [fr5, k6.2.1 j hj, fr5_5]
    have t6 : ∀ j, j < 12 → η25 6 j = η 6 (12 + j) := fun j hj => by rw [fr6, k7.2.1 j hj, fr6_6]
    have t17 : ∀ j, j < 3 → η25 17 j = η 17 (3 + j) := fun j hj => by rw [fr17, k26.2.1 j hj, fr17_19]
    have t18 : ∀ j, j < 3 → η25 18 j = η 18 (3 + j) := fun j hj => by rw [fr18, k27.2.1 j hj, fr18_20]
    have t19 : ∀ j, j < 64 → η25 19 j = η 19 (64 + j) := fun j hj => by rw [fr19, k28.2.1 j hj, fr19_21]
    have t20 : ∀ j, j < 64 → η25 20 j = η 20 (64 + j) := fun j hj => by rw [fr20, k29.2.1 j hj, fr20_22]
    have t21 : ∀ j, j < 64 → η25 21 j = η 21 (64 + j) := fun j hj => by rw [fr21, k30.2.1 j hj, fr21_23]
    refine ⟨?_, y31⟩
    refine ⟨show η25 0 12 = η 0 16 by apply Int.le_antisymm <;> omega, show η25 0 13 = η 0 17 by apply Int.le_antisymm <;> omega, show η25 0 14 = η 0 18 by apply Int.le_antisymm <;> omega, show η25 0 15 = η 0 19 by apply Int.le_antisymm <;> omega, t4, t7, t8, t9, t10, t11, t12, t13, t14, t15, t5, t6, t17, t18, t19, t20, t21, fun j hj => ?_⟩
    match j, hj with
    | 0, _ => exact show η25 16 0 = η 16 3 by apply Int.le_antisymm <;> omega
    | 1, _ => exact show η25 16 1 = η 16 4 by apply Int.le_antisymm <;> omega
    | 2, _ => exact show η25 16 2 = η 16 5 by apply Int.le_antisymm <;> omega
    | k + 3, h => omega
