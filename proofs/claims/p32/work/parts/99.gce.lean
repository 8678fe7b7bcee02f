set_option maxHeartbeats 8000000 in
theorem zle_leafRead {ro : Nat → List Int32} : zMet pr_P pr_K pr_df ro (sm_X0 1 6) 2 147 tm_le [(.inr (.inr (.inl (nat_lit 0))))] 2 [(nat_lit 0, nat_lit 0, nat_lit 1), (nat_lit 0, nat_lit 3, nat_lit 2), (nat_lit 0, nat_lit 20, nat_lit 3), (nat_lit 0, nat_lit 21, nat_lit 4), (nat_lit 0, nat_lit 22, nat_lit 5), (nat_lit 0, nat_lit 23, nat_lit 6), (nat_lit 0, nat_lit 24, nat_lit 7), (nat_lit 0, nat_lit 25, nat_lit 8), (nat_lit 0, nat_lit 26, nat_lit 9), (nat_lit 0, nat_lit 27, nat_lit 10), (nat_lit 0, nat_lit 28, nat_lit 11), (nat_lit 0, nat_lit 29, nat_lit 12), (nat_lit 0, nat_lit 30, nat_lit 13), (nat_lit 0, nat_lit 31, nat_lit 14), (nat_lit 0, nat_lit 32, nat_lit 15), (nat_lit 0, nat_lit 33, nat_lit 16), (nat_lit 0, nat_lit 34, nat_lit 17), (nat_lit 0, nat_lit 35, nat_lit 18), (nat_lit 0, nat_lit 36, nat_lit 19), (nat_lit 0, nat_lit 37, nat_lit 20), (nat_lit 0, nat_lit 38, nat_lit 21), (nat_lit 0, nat_lit 39, nat_lit 22), (nat_lit 0, nat_lit 40, nat_lit 23), (nat_lit 0, nat_lit 47, nat_lit 24), (nat_lit 0, nat_lit 48, nat_lit 25), (nat_lit 0, nat_lit 50, nat_lit 26), (nat_lit 0, nat_lit 51, nat_lit 27), (nat_lit 0, nat_lit 52, nat_lit 28), (nat_lit 0, nat_lit 53, nat_lit 29), (nat_lit 0, nat_lit 54, nat_lit 30), (nat_lit 0, nat_lit 55, nat_lit 31), (nat_lit 0, nat_lit 56, nat_lit 32), (nat_lit 0, nat_lit 57, nat_lit 33), (nat_lit 0, nat_lit 58, nat_lit 34), (nat_lit 0, nat_lit 59, nat_lit 35), (nat_lit 0, nat_lit 72, nat_lit 36), (nat_lit 0, nat_lit 73, nat_lit 37), (nat_lit 0, nat_lit 76, nat_lit 38), (nat_lit 0, nat_lit 77, nat_lit 39), (nat_lit 0, nat_lit 79, nat_lit 40), (nat_lit 0, nat_lit 81, nat_lit 41), (nat_lit 0, nat_lit 82, nat_lit 42)] [] (fun xs η => sP wl_le zTr zPle_leafRead xs η ∧ pPle_leafRead xs η) (fun xs η y η' => sQ wl_le zTr zOle_leafRead zMle_leafRead xs η y η' ∧ pQle_leafRead xs η y η') :=
  zmet_alt (zmea_gen (mi := (nat_lit 0, nat_lit 1, nat_lit 8, nat_lit 2, nat_lit 2, tX8_leafRead)) (cd := [(nat_lit 126, nat_lit 0, nat_lit 0, [(.inr (.inr (.inl (nat_lit 0)))), (.inl (nat_lit 1, (.ofNat (nat_lit 0))))], nat_lit 2, [(nat_lit 0, nat_lit 0, nat_lit 1), (nat_lit 0, nat_lit 3, nat_lit 2), (nat_lit 0, nat_lit 20, nat_lit 3), (nat_lit 0, nat_lit 21, nat_lit 4), (nat_lit 0, nat_lit 22, nat_lit 5), (nat_lit 0, nat_lit 23, nat_lit 6), (nat_lit 0, nat_lit 24, nat_lit 7), (nat_lit 0, nat_lit 25, nat_lit 8), (nat_lit 0, nat_lit 26, nat_lit 9), (nat_lit 0, nat_lit 27, nat_lit 10), (nat_lit 0, nat_lit 28, nat_lit 11), (nat_lit 0, nat_lit 29, nat_lit 12), (nat_lit 0, nat_lit 30, nat_lit 13), (nat_lit 0, nat_lit 31, nat_lit 14), (nat_lit 0, nat_lit 32, nat_lit 15), (nat_lit 0, nat_lit 33, nat_lit 16), (nat_lit 0, nat_lit 34, nat_lit 17), (nat_lit 0, nat_lit 35, nat_lit 18), (nat_lit 0, nat_lit 36, nat_lit 19), (nat_lit 0, nat_lit 37, nat_lit 20), (nat_lit 0, nat_lit 38, nat_lit 21), (nat_lit 0, nat_lit 39, nat_lit 22), (nat_lit 0, nat_lit 40, nat_lit 23), (nat_lit 0, nat_lit 47, nat_lit 24), (nat_lit 0, nat_lit 48, nat_lit 25), (nat_lit 0, nat_lit 50, nat_lit 26), (nat_lit 0, nat_lit 51, nat_lit 27), (nat_lit 0, nat_lit 52, nat_lit 28), (nat_lit 0, nat_lit 53, nat_lit 29), (nat_lit 0, nat_lit 54, nat_lit 30), (nat_lit 0, nat_lit 55, nat_lit 31), (nat_lit 0, nat_lit 56, nat_lit 32), (nat_lit 0, nat_lit 57, nat_lit 33), (nat_lit 0, nat_lit 58, nat_lit 34), (nat_lit 0, nat_lit 59, nat_lit 35), (nat_lit 0, nat_lit 72, nat_lit 36), (nat_lit 0, nat_lit 73, nat_lit 37), (nat_lit 0, nat_lit 76, nat_lit 38), (nat_lit 0, nat_lit 77, nat_lit 39), (nat_lit 0, nat_lit 79, nat_lit 40), (nat_lit 0, nat_lit 81, nat_lit 41), (nat_lit 0, nat_lit 82, nat_lit 42)], []), (nat_lit 118, nat_lit 1, nat_lit 0, [(.inr (.inr (.inl (nat_lit 0)))), (.inl (nat_lit 1, (.ofNat (nat_lit 0))))], nat_lit 2, [(nat_lit 0, nat_lit 0, nat_lit 1), (nat_lit 0, nat_lit 3, nat_lit 2), (nat_lit 0, nat_lit 20, nat_lit 3), (nat_lit 0, nat_lit 21, nat_lit 4), (nat_lit 0, nat_lit 22, nat_lit 5), (nat_lit 0, nat_lit 23, nat_lit 6), (nat_lit 0, nat_lit 24, nat_lit 7), (nat_lit 0, nat_lit 25, nat_lit 8), (nat_lit 0, nat_lit 26, nat_lit 9), (nat_lit 0, nat_lit 27, nat_lit 10), (nat_lit 0, nat_lit 28, nat_lit 11), (nat_lit 0, nat_lit 29, nat_lit 12), (nat_lit 0, nat_lit 30, nat_lit 13), (nat_lit 0, nat_lit 31, nat_lit 14), (nat_lit 0, nat_lit 32, nat_lit 15), (nat_lit 0, nat_lit 33, nat_lit 16), (nat_lit 0, nat_lit 34, nat_lit 17), (nat_lit 0, nat_lit 35, nat_lit 18), (nat_lit 0, nat_lit 36, nat_lit 19), (nat_lit 0, nat_lit 37, nat_lit 20), (nat_lit 0, nat_lit 38, nat_lit 21), (nat_lit 0, nat_lit 39, nat_lit 22), (nat_lit 0, nat_lit 40, nat_lit 23), (nat_lit 0, nat_lit 47, nat_lit 24), (nat_lit 0, nat_lit 48, nat_lit 25), (nat_lit 0, nat_lit 50, nat_lit 26), (nat_lit 0, nat_lit 51, nat_lit 27), (nat_lit 0, nat_lit 52, nat_lit 28), (nat_lit 0, nat_lit 53, nat_lit 29), (nat_lit 0, nat_lit 54, nat_lit 30), (nat_lit 0, nat_lit 55, nat_lit 31), (nat_lit 0, nat_lit 56, nat_lit 32), (nat_lit 0, nat_lit 57, nat_lit 33), (nat_lit 0, nat_lit 58, nat_lit 34), (nat_lit 0, nat_lit 59, nat_lit 35), (nat_lit 0, nat_lit 72, nat_lit 36), (nat_lit 0, nat_lit 73, nat_lit 37), (nat_lit 0, nat_lit 76, nat_lit 38), (nat_lit 0, nat_lit 77, nat_lit 39), (nat_lit 0, nat_lit 79, nat_lit 40), (nat_lit 0, nat_lit 81, nat_lit 41), (nat_lit 0, nat_lit 82, nat_lit 42)], []), (nat_lit 145, nat_lit 2, nat_lit 0, [(.inr (.inr (.inl (nat_lit 0)))), (.inl (nat_lit 0, (.ofNat (nat_lit 0))))], nat_lit 0, [(nat_lit 0, nat_lit 0, nat_lit 1), (nat_lit 0, nat_lit 3, nat_lit 2), (nat_lit 0, nat_lit 20, nat_lit 3), (nat_lit 0, nat_lit 21, nat_lit 4), (nat_lit 0, nat_lit 22, nat_lit 5), (nat_lit 0, nat_lit 23, nat_lit 6), (nat_lit 0, nat_lit 24, nat_lit 7), (nat_lit 0, nat_lit 25, nat_lit 8), (nat_lit 0, nat_lit 26, nat_lit 9), (nat_lit 0, nat_lit 27, nat_lit 10), (nat_lit 0, nat_lit 28, nat_lit 11), (nat_lit 0, nat_lit 29, nat_lit 12), (nat_lit 0, nat_lit 30, nat_lit 13), (nat_lit 0, nat_lit 31, nat_lit 14), (nat_lit 0, nat_lit 32, nat_lit 15), (nat_lit 0, nat_lit 33, nat_lit 16), (nat_lit 0, nat_lit 34, nat_lit 17), (nat_lit 0, nat_lit 35, nat_lit 18), (nat_lit 0, nat_lit 36, nat_lit 19), (nat_lit 0, nat_lit 37, nat_lit 20), (nat_lit 0, nat_lit 38, nat_lit 21), (nat_lit 0, nat_lit 39, nat_lit 22), (nat_lit 0, nat_lit 40, nat_lit 23), (nat_lit 0, nat_lit 47, nat_lit 24), (nat_lit 0, nat_lit 48, nat_lit 25), (nat_lit 0, nat_lit 50, nat_lit 26), (nat_lit 0, nat_lit 51, nat_lit 27), (nat_lit 0, nat_lit 52, nat_lit 28), (nat_lit 0, nat_lit 53, nat_lit 29), (nat_lit 0, nat_lit 54, nat_lit 30), (nat_lit 0, nat_lit 55, nat_lit 31), (nat_lit 0, nat_lit 56, nat_lit 32), (nat_lit 0, nat_lit 57, nat_lit 33), (nat_lit 0, nat_lit 58, nat_lit 34), (nat_lit 0, nat_lit 59, nat_lit 35), (nat_lit 0, nat_lit 72, nat_lit 36), (nat_lit 0, nat_lit 73, nat_lit 37), (nat_lit 0, nat_lit 76, nat_lit 38), (nat_lit 0, nat_lit 77, nat_lit 39), (nat_lit 0, nat_lit 79, nat_lit 40), (nat_lit 0, nat_lit 81, nat_lit 41), (nat_lit 0, nat_lit 82, nat_lit 42)], []), (nat_lit 122, nat_lit 3, nat_lit 1, [(.inr (.inr (.inl (nat_lit 0))))], nat_lit 0, [(nat_lit 0, nat_lit 0, nat_lit 1), (nat_lit 0, nat_lit 3, nat_lit 2), (nat_lit 0, nat_lit 20, nat_lit 3), (nat_lit 0, nat_lit 21, nat_lit 4), (nat_lit 0, nat_lit 22, nat_lit 5), (nat_lit 0, nat_lit 23, nat_lit 6), (nat_lit 0, nat_lit 24, nat_lit 7), (nat_lit 0, nat_lit 25, nat_lit 8), (nat_lit 0, nat_lit 26, nat_lit 9), (nat_lit 0, nat_lit 27, nat_lit 10), (nat_lit 0, nat_lit 28, nat_lit 11), (nat_lit 0, nat_lit 29, nat_lit 12), (nat_lit 0, nat_lit 30, nat_lit 13), (nat_lit 0, nat_lit 31, nat_lit 14), (nat_lit 0, nat_lit 32, nat_lit 15), (nat_lit 0, nat_lit 33, nat_lit 16), (nat_lit 0, nat_lit 34, nat_lit 17), (nat_lit 0, nat_lit 35, nat_lit 18), (nat_lit 0, nat_lit 36, nat_lit 19), (nat_lit 0, nat_lit 37, nat_lit 20), (nat_lit 0, nat_lit 38, nat_lit 21), (nat_lit 0, nat_lit 39, nat_lit 22), (nat_lit 0, nat_lit 40, nat_lit 23), (nat_lit 0, nat_lit 47, nat_lit 24), (nat_lit 0, nat_lit 48, nat_lit 25), (nat_lit 0, nat_lit 50, nat_lit 26), (nat_lit 0, nat_lit 51, nat_lit 27), (nat_lit 0, nat_lit 52, nat_lit 28), (nat_lit 0, nat_lit 53, nat_lit 29), (nat_lit 0, nat_lit 54, nat_lit 30), (nat_lit 0, nat_lit 55, nat_lit 31), (nat_lit 0, nat_lit 56, nat_lit 32), (nat_lit 0, nat_lit 57, nat_lit 33), (nat_lit 0, nat_lit 58, nat_lit 34), (nat_lit 0, nat_lit 59, nat_lit 35), (nat_lit 0, nat_lit 72, nat_lit 36), (nat_lit 0, nat_lit 73, nat_lit 37), (nat_lit 0, nat_lit 76, nat_lit 38), (nat_lit 0, nat_lit 77, nat_lit 39), (nat_lit 0, nat_lit 79, nat_lit 40), (nat_lit 0, nat_lit 81, nat_lit 41), (nat_lit 0, nat_lit 82, nat_lit 42)], []), (nat_lit 125, nat_lit 4, nat_lit 0, [(.inr (.inr (.inl (nat_lit 0)))), (.inl (nat_lit 1, (.ofNat (nat_lit 0))))], nat_lit 2, [(nat_lit 0, nat_lit 0, nat_lit 1), (nat_lit 0, nat_lit 3, nat_lit 2), (nat_lit 0, nat_lit 20, nat_lit 3), (nat_lit 0, nat_lit 21, nat_lit 4), (nat_lit 0, nat_lit 22, nat_lit 5), (nat_lit 0, nat_lit 23, nat_lit 6), (nat_lit 0, nat_lit 24, nat_lit 7), (nat_lit 0, nat_lit 25, nat_lit 8), (nat_lit 0, nat_lit 26, nat_lit 9), (nat_lit 0, nat_lit 27, nat_lit 10), (nat_lit 0, nat_lit 28, nat_lit 11), (nat_lit 0, nat_lit 29, nat_lit 12), (nat_lit 0, nat_lit 30, nat_lit 13), (nat_lit 0, nat_lit 31, nat_lit 14), (nat_lit 0, nat_lit 32, nat_lit 15), (nat_lit 0, nat_lit 33, nat_lit 16), (nat_lit 0, nat_lit 34, nat_lit 17), (nat_lit 0, nat_lit 35, nat_lit 18), (nat_lit 0, nat_lit 36, nat_lit 19), (nat_lit 0, nat_lit 37, nat_lit 20), (nat_lit 0, nat_lit 38, nat_lit 21), (nat_lit 0, nat_lit 39, nat_lit 22), (nat_lit 0, nat_lit 40, nat_lit 23), (nat_lit 0, nat_lit 47, nat_lit 24), (nat_lit 0, nat_lit 48, nat_lit 25), (nat_lit 0, nat_lit 50, nat_lit 26), (nat_lit 0, nat_lit 51, nat_lit 27), (nat_lit 0, nat_lit 52, nat_lit 28), (nat_lit 0, nat_lit 53, nat_lit 29), (nat_lit 0, nat_lit 54, nat_lit 30), (nat_lit 0, nat_lit 55, nat_lit 31), (nat_lit 0, nat_lit 56, nat_lit 32), (nat_lit 0, nat_lit 57, nat_lit 33), (nat_lit 0, nat_lit 58, nat_lit 34), (nat_lit 0, nat_lit 59, nat_lit 35), (nat_lit 0, nat_lit 72, nat_lit 36), (nat_lit 0, nat_lit 73, nat_lit 37), (nat_lit 0, nat_lit 76, nat_lit 38), (nat_lit 0, nat_lit 77, nat_lit 39), (nat_lit 0, nat_lit 79, nat_lit 40), (nat_lit 0, nat_lit 81, nat_lit 41), (nat_lit 0, nat_lit 82, nat_lit 42)], []), (nat_lit 144, nat_lit 5, nat_lit 1, [(.inr (.inr (.inl (nat_lit 0))))], nat_lit 2, [(nat_lit 0, nat_lit 0, nat_lit 1), (nat_lit 0, nat_lit 3, nat_lit 2), (nat_lit 0, nat_lit 20, nat_lit 3), (nat_lit 0, nat_lit 21, nat_lit 4), (nat_lit 0, nat_lit 22, nat_lit 5), (nat_lit 0, nat_lit 23, nat_lit 6), (nat_lit 0, nat_lit 24, nat_lit 7), (nat_lit 0, nat_lit 25, nat_lit 8), (nat_lit 0, nat_lit 26, nat_lit 9), (nat_lit 0, nat_lit 27, nat_lit 10), (nat_lit 0, nat_lit 28, nat_lit 11), (nat_lit 0, nat_lit 29, nat_lit 12), (nat_lit 0, nat_lit 30, nat_lit 13), (nat_lit 0, nat_lit 31, nat_lit 14), (nat_lit 0, nat_lit 32, nat_lit 15), (nat_lit 0, nat_lit 33, nat_lit 16), (nat_lit 0, nat_lit 34, nat_lit 17), (nat_lit 0, nat_lit 35, nat_lit 18), (nat_lit 0, nat_lit 36, nat_lit 19), (nat_lit 0, nat_lit 37, nat_lit 20), (nat_lit 0, nat_lit 38, nat_lit 21), (nat_lit 0, nat_lit 39, nat_lit 22), (nat_lit 0, nat_lit 40, nat_lit 23), (nat_lit 0, nat_lit 47, nat_lit 24), (nat_lit 0, nat_lit 48, nat_lit 25), (nat_lit 0, nat_lit 50, nat_lit 26), (nat_lit 0, nat_lit 51, nat_lit 27), (nat_lit 0, nat_lit 52, nat_lit 28), (nat_lit 0, nat_lit 53, nat_lit 29), (nat_lit 0, nat_lit 54, nat_lit 30), (nat_lit 0, nat_lit 55, nat_lit 31), (nat_lit 0, nat_lit 56, nat_lit 32), (nat_lit 0, nat_lit 57, nat_lit 33), (nat_lit 0, nat_lit 58, nat_lit 34), (nat_lit 0, nat_lit 59, nat_lit 35), (nat_lit 0, nat_lit 72, nat_lit 36), (nat_lit 0, nat_lit 73, nat_lit 37), (nat_lit 0, nat_lit 76, nat_lit 38), (nat_lit 0, nat_lit 77, nat_lit 39), (nat_lit 0, nat_lit 79, nat_lit 40), (nat_lit 0, nat_lit 81, nat_lit 41), (nat_lit 0, nat_lit 82, nat_lit 42)], []), (nat_lit 145, nat_lit 6, nat_lit 0, [(.inr (.inr (.inl (nat_lit 0)))), (.inl (nat_lit 0, (.ofNat (nat_lit 2))))], nat_lit 0, [(nat_lit 0, nat_lit 0, nat_lit 1), (nat_lit 0, nat_lit 3, nat_lit 2), (nat_lit 0, nat_lit 20, nat_lit 3), (nat_lit 0, nat_lit 21, nat_lit 4), (nat_lit 0, nat_lit 22, nat_lit 5), (nat_lit 0, nat_lit 23, nat_lit 6), (nat_lit 0, nat_lit 24, nat_lit 7), (nat_lit 0, nat_lit 25, nat_lit 8), (nat_lit 0, nat_lit 26, nat_lit 9), (nat_lit 0, nat_lit 27, nat_lit 10), (nat_lit 0, nat_lit 28, nat_lit 11), (nat_lit 0, nat_lit 29, nat_lit 12), (nat_lit 0, nat_lit 30, nat_lit 13), (nat_lit 0, nat_lit 31, nat_lit 14), (nat_lit 0, nat_lit 32, nat_lit 15), (nat_lit 0, nat_lit 33, nat_lit 16), (nat_lit 0, nat_lit 34, nat_lit 17), (nat_lit 0, nat_lit 35, nat_lit 18), (nat_lit 0, nat_lit 36, nat_lit 19), (nat_lit 0, nat_lit 37, nat_lit 20), (nat_lit 0, nat_lit 38, nat_lit 21), (nat_lit 0, nat_lit 39, nat_lit 22), (nat_lit 0, nat_lit 40, nat_lit 23), (nat_lit 0, nat_lit 47, nat_lit 24), (nat_lit 0, nat_lit 48, nat_lit 25), (nat_lit 0, nat_lit 50, nat_lit 26), (nat_lit 0, nat_lit 51, nat_lit 27), (nat_lit 0, nat_lit 52, nat_lit 28), (nat_lit 0, nat_lit 53, nat_lit 29), (nat_lit 0, nat_lit 54, nat_lit 30), (nat_lit 0, nat_lit 55, nat_lit 31), (nat_lit 0, nat_lit 56, nat_lit 32), (nat_lit 0, nat_lit 57, nat_lit 33), (nat_lit 0, nat_lit 58, nat_lit 34), (nat_lit 0, nat_lit 59, nat_lit 35), (nat_lit 0, nat_lit 72, nat_lit 36), (nat_lit 0, nat_lit 73, nat_lit 37), (nat_lit 0, nat_lit 76, nat_lit 38), (nat_lit 0, nat_lit 77, nat_lit 39), (nat_lit 0, nat_lit 79, nat_lit 40), (nat_lit 0, nat_lit 81, nat_lit 41), (nat_lit 0, nat_lit 82, nat_lit 42)], []), (nat_lit 146, nat_lit 7, nat_lit 0, [(.inr (.inr (.inl (nat_lit 0))))], nat_lit 1, [(nat_lit 0, nat_lit 0, nat_lit 1), (nat_lit 0, nat_lit 3, nat_lit 2), (nat_lit 0, nat_lit 20, nat_lit 3), (nat_lit 0, nat_lit 21, nat_lit 4), (nat_lit 0, nat_lit 22, nat_lit 5), (nat_lit 0, nat_lit 23, nat_lit 6), (nat_lit 0, nat_lit 24, nat_lit 7), (nat_lit 0, nat_lit 25, nat_lit 8), (nat_lit 0, nat_lit 26, nat_lit 9), (nat_lit 0, nat_lit 27, nat_lit 10), (nat_lit 0, nat_lit 28, nat_lit 11), (nat_lit 0, nat_lit 29, nat_lit 12), (nat_lit 0, nat_lit 30, nat_lit 13), (nat_lit 0, nat_lit 31, nat_lit 14), (nat_lit 0, nat_lit 32, nat_lit 15), (nat_lit 0, nat_lit 33, nat_lit 16), (nat_lit 0, nat_lit 34, nat_lit 17), (nat_lit 0, nat_lit 35, nat_lit 18), (nat_lit 0, nat_lit 36, nat_lit 19), (nat_lit 0, nat_lit 37, nat_lit 20), (nat_lit 0, nat_lit 38, nat_lit 21), (nat_lit 0, nat_lit 39, nat_lit 22), (nat_lit 0, nat_lit 40, nat_lit 23), (nat_lit 0, nat_lit 47, nat_lit 24), (nat_lit 0, nat_lit 48, nat_lit 25), (nat_lit 0, nat_lit 50, nat_lit 26), (nat_lit 0, nat_lit 51, nat_lit 27), (nat_lit 0, nat_lit 52, nat_lit 28), (nat_lit 0, nat_lit 53, nat_lit 29), (nat_lit 0, nat_lit 54, nat_lit 30), (nat_lit 0, nat_lit 55, nat_lit 31), (nat_lit 0, nat_lit 56, nat_lit 32), (nat_lit 0, nat_lit 57, nat_lit 33), (nat_lit 0, nat_lit 58, nat_lit 34), (nat_lit 0, nat_lit 59, nat_lit 35), (nat_lit 0, nat_lit 72, nat_lit 36), (nat_lit 0, nat_lit 73, nat_lit 37), (nat_lit 0, nat_lit 76, nat_lit 38), (nat_lit 0, nat_lit 77, nat_lit 39), (nat_lit 0, nat_lit 79, nat_lit 40), (nat_lit 0, nat_lit 81, nat_lit 41), (nat_lit 0, nat_lit 82, nat_lit 42)], []), (nat_lit 141, nat_lit 8, nat_lit 0, [(.inr (.inr (.inl (nat_lit 0)))), (.inl (nat_lit 1, (.ofNat (nat_lit 0)))), (.inl (nat_lit 2, (.ofNat (nat_lit 0)))), (.inl (nat_lit 3, (.ofNat (nat_lit 0))))], nat_lit 0, [(nat_lit 0, nat_lit 0, nat_lit 1), (nat_lit 0, nat_lit 3, nat_lit 2), (nat_lit 0, nat_lit 20, nat_lit 3), (nat_lit 0, nat_lit 21, nat_lit 4), (nat_lit 0, nat_lit 22, nat_lit 5), (nat_lit 0, nat_lit 23, nat_lit 6), (nat_lit 0, nat_lit 24, nat_lit 7), (nat_lit 0, nat_lit 25, nat_lit 8), (nat_lit 0, nat_lit 26, nat_lit 9), (nat_lit 0, nat_lit 27, nat_lit 10), (nat_lit 0, nat_lit 28, nat_lit 11), (nat_lit 0, nat_lit 29, nat_lit 12), (nat_lit 0, nat_lit 30, nat_lit 13), (nat_lit 0, nat_lit 31, nat_lit 14), (nat_lit 0, nat_lit 32, nat_lit 15), (nat_lit 0, nat_lit 33, nat_lit 16), (nat_lit 0, nat_lit 34, nat_lit 17), (nat_lit 0, nat_lit 35, nat_lit 18), (nat_lit 0, nat_lit 36, nat_lit 19), (nat_lit 0, nat_lit 37, nat_lit 20), (nat_lit 0, nat_lit 38, nat_lit 21), (nat_lit 0, nat_lit 39, nat_lit 22), (nat_lit 0, nat_lit 40, nat_lit 23), (nat_lit 0, nat_lit 47, nat_lit 24), (nat_lit 0, nat_lit 48, nat_lit 25), (nat_lit 0, nat_lit 50, nat_lit 26), (nat_lit 0, nat_lit 51, nat_lit 27), (nat_lit 0, nat_lit 52, nat_lit 28), (nat_lit 0, nat_lit 53, nat_lit 29), (nat_lit 0, nat_lit 54, nat_lit 30), (nat_lit 0, nat_lit 55, nat_lit 31), (nat_lit 0, nat_lit 56, nat_lit 32), (nat_lit 0, nat_lit 57, nat_lit 33), (nat_lit 0, nat_lit 58, nat_lit 34), (nat_lit 0, nat_lit 59, nat_lit 35), (nat_lit 0, nat_lit 72, nat_lit 36), (nat_lit 0, nat_lit 73, nat_lit 37), (nat_lit 0, nat_lit 76, nat_lit 38), (nat_lit 0, nat_lit 77, nat_lit 39), (nat_lit 0, nat_lit 79, nat_lit 40), (nat_lit 0, nat_lit 81, nat_lit 41), (nat_lit 0, nat_lit 82, nat_lit 42)], [])]) (cu := []) (cs := [(nat_lit 0, zPle_isSign, zOle_isSign, zMle_isSign), (nat_lit 1, zPle_wrong, zOle_wrong, zMle_wrong), (nat_lit 2, zPle_waitsFor0, zOle_waitsFor0, zMle_waitsFor0), (nat_lit 3, zPle_token, zOle_token, zMle_token), (nat_lit 4, zPle_isKey, zOle_isKey, zMle_isKey), (nat_lit 5, zPle_isCounted, zOle_isCounted, zMle_isCounted), (nat_lit 6, zPle_waitsFor2, zOle_waitsFor2, zMle_waitsFor2), (nat_lit 7, zPle_nameMet, zOle_nameMet, zMle_nameMet), (nat_lit 8, zPle_grown, zOle_grown, zMle_grown)]) (iv := zVle_leafRead) (po := [zOle_leafRead]) (pr := zPle_leafRead) (mods := zMle_leafRead) (D7 := zDle_leafRead) (D0 := zEle_leafRead) (Dm := zFle_leafRead) (f0 := 50) pCle_leafRead qCle_leafRead iCle_leafRead pPle_leafRead (fun xs η _ y η' => pQle_leafRead xs η y η') zX_low pr_mtR rfl (List.forall_mem_cons.mpr ⟨zle_isSign, List.forall_mem_cons.mpr ⟨zle_wrong, List.forall_mem_cons.mpr ⟨zle_waitsFor0, List.forall_mem_cons.mpr ⟨zle_token, List.forall_mem_cons.mpr ⟨zle_isKey, List.forall_mem_cons.mpr ⟨zle_isCounted, List.forall_mem_cons.mpr ⟨zle_waitsFor2, List.forall_mem_cons.mpr ⟨zle_nameMet, List.forall_mem_cons.mpr ⟨zle_grown, fun _ h => nomatch h⟩⟩⟩⟩⟩⟩⟩⟩⟩) (by decide +kernel) (by decide +kernel) (by decide +kernel)
    (by
      intro xs η hr hl hp hpp
      match xs, hl, hp, hpp with
      | [], _, hp, hpp =>
        refine List.forall_mem_cons.mpr ⟨?_, List.forall_mem_cons.mpr ⟨?_, List.forall_mem_cons.mpr ⟨?_, List.forall_mem_cons.mpr ⟨?_, List.forall_mem_cons.mpr ⟨?_, List.forall_mem_cons.mpr ⟨?_, List.forall_mem_cons.mpr ⟨?_, List.forall_mem_cons.mpr ⟨?_, List.forall_mem_cons.mpr ⟨?_, List.forall_mem_cons.mpr ⟨?_, List.forall_mem_cons.mpr ⟨?_, List.forall_mem_cons.mpr ⟨?_, List.forall_mem_cons.mpr ⟨?_, List.forall_mem_cons.mpr ⟨?_, List.forall_mem_cons.mpr ⟨?_, List.forall_mem_cons.mpr ⟨?_, List.forall_mem_cons.mpr ⟨?_, List.forall_mem_cons.mpr ⟨?_, List.forall_mem_cons.mpr ⟨?_, List.forall_mem_cons.mpr ⟨?_, List.forall_mem_cons.mpr ⟨?_, List.forall_mem_cons.mpr ⟨?_, List.forall_mem_cons.mpr ⟨?_, List.forall_mem_cons.mpr ⟨?_, List.forall_mem_cons.mpr ⟨?_, List.forall_mem_cons.mpr ⟨?_, List.forall_mem_cons.mpr ⟨?_, List.forall_mem_cons.mpr ⟨?_, List.forall_mem_cons.mpr ⟨?_, List.forall_mem_cons.mpr ⟨?_, List.forall_mem_cons.mpr ⟨?_, List.forall_mem_cons.mpr ⟨?_, List.forall_mem_cons.mpr ⟨?_, List.forall_mem_cons.mpr ⟨?_, List.forall_mem_cons.mpr ⟨?_, List.forall_mem_cons.mpr ⟨?_, List.forall_mem_cons.mpr ⟨?_, List.forall_mem_cons.mpr ⟨?_, List.forall_mem_cons.mpr ⟨?_, List.forall_mem_cons.mpr ⟨?_, List.forall_mem_cons.mpr ⟨?_, List.forall_mem_cons.mpr ⟨?_, fun _ h => nomatch h⟩⟩⟩⟩⟩⟩⟩⟩⟩⟩⟩⟩⟩⟩⟩⟩⟩⟩⟩⟩⟩⟩⟩⟩⟩⟩⟩⟩⟩⟩⟩⟩⟩⟩⟩⟩⟩⟩⟩⟩⟩⟩
        · exact zle_leafRead_o0 (ro := ro)  η hp hpp
        · exact zle_leafRead_o1 (ro := ro)  η hp hpp
        · exact zle_leafRead_o2 (ro := ro)  η hp hpp
        · exact zle_leafRead_o3 (ro := ro)  η hp hpp
        · exact zle_leafRead_o4 (ro := ro)  η hp hpp
        · exact zle_leafRead_o5 (ro := ro)  η hp hpp
        · exact zle_leafRead_o6 (ro := ro)  η hp hpp
        · exact zle_leafRead_o7 (ro := ro)  η hp hpp
        · exact zle_leafRead_o8 (ro := ro)  η hp hpp
        · exact zle_leafRead_o9 (ro := ro)  η hp hpp
        · exact zle_leafRead_o10 (ro := ro)  η hp hpp
        · exact zle_leafRead_o11 (ro := ro)  η hp hpp
        · exact zle_leafRead_o12 (ro := ro)  η hp hpp
        · exact zle_leafRead_o13 (ro := ro)  η hp hpp
        · exact zle_leafRead_o14 (ro := ro)  η hp hpp
        · exact zle_leafRead_o15 (ro := ro)  η hp hpp
        · exact zle_leafRead_o16 (ro := ro)  η hp hpp
        · exact zle_leafRead_o17 (ro := ro)  η hp hpp
        · exact zle_leafRead_o18 (ro := ro)  η hp hpp
        · exact zle_leafRead_o19 (ro := ro)  η hp hpp
        · exact zle_leafRead_o20 (ro := ro)  η hp hpp
        · exact zle_leafRead_o21 (ro := ro)  η hp hpp
        · exact zle_leafRead_o22 (ro := ro)  η hp hpp
        · exact zle_leafRead_o23 (ro := ro)  η hp hpp
        · exact zle_leafRead_o24 (ro := ro)  η hp hpp
        · exact zle_leafRead_o25 (ro := ro)  η hp hpp
        · exact zle_leafRead_o26 (ro := ro)  η hp hpp
        · exact zle_leafRead_o27 (ro := ro)  η hp hpp
        · exact zle_leafRead_o28 (ro := ro)  η hp hpp
        · exact zle_leafRead_o29 (ro := ro)  η hp hpp
        · exact zle_leafRead_o30 (ro := ro)  η hp hpp
        · exact zle_leafRead_o31 (ro := ro)  η hp hpp
        · exact zle_leafRead_o32 (ro := ro)  η hp hpp
        · exact zle_leafRead_o33 (ro := ro)  η hp hpp
        · exact zle_leafRead_o34 (ro := ro)  η hp hpp
        · exact zle_leafRead_o35 (ro := ro)  η hp hpp
        · exact zle_leafRead_o36 (ro := ro)  η hp hpp
        · exact zle_leafRead_o37 (ro := ro)  η hp hpp
        · exact zle_leafRead_o38 (ro := ro)  η hp hpp
        · exact zle_leafRead_o39 (ro := ro)  η hp hpp
        · exact zle_leafRead_o40 (ro := ro)  η hp hpp
        · exact zle_leafRead_o41 (ro := ro)  η hp hpp
      )
    (fun _ _ _ _ _ _ _ h => nomatch h)
    (fun _ h => nomatch h))
def zPle_signs : zPq := ([], [])
def zOle_signs : zPo := (((.ofNat (nat_lit 0)), (.ofNat (nat_lit 1))), [], [])
def zMle_signs : List zCe := [(nat_lit 0, nat_lit 44), (nat_lit 0, nat_lit 45), (nat_lit 0, nat_lit 42), (nat_lit 0, nat_lit 47), (nat_lit 0, nat_lit 46), (nat_lit 0, nat_lit 43), (nat_lit 0, nat_lit 20), (nat_lit 0, nat_lit 8), (nat_lit 0, nat_lit 9), (nat_lit 0, nat_lit 10), (nat_lit 0, nat_lit 11), (nat_lit 0, nat_lit 5), (nat_lit 0, nat_lit 6), (nat_lit 22, nat_lit 0), (nat_lit 19, nat_lit 0), (nat_lit 20, nat_lit 0), (nat_lit 21, nat_lit 0), (nat_lit 23, nat_lit 0)]
def pPle_signs : List Int → zE → Prop := fun _ η => G_l η ∧ η 0 45 = 0 ∧ 1 ≤ η 0 19
def oQle_signs : List Int → zE → Int → zE → Prop := fun _ η y η' => G0_l η' ∧ (¬ y = 0 → G_l η' ∧ 10 * (η' 0 6 - η' 0 7) + η' 0 8 < 10 * (η 0 6 - η 0 7) + η 0 8 ∧ (η' 0 45 = 0 → 1 ≤ η' 0 19))
def fQle_signs : List Int → zE → Int → zE → Prop := fun xs η y η' => y = (yq_sgn η).1 ∧ η' = (yq_sgn η).2
def pQle_signs : List Int → zE → Int → zE → Prop := fun xs η y η' => oQle_signs xs η y η' ∧ fQle_signs xs η y η'
def pCle_signs : Nat → List Int → zE → Prop := fun c => match c with
  | 0 => pPle_isSign
  | 1 => pPle_wrong
  | 2 => pPle_token
  | 3 => pPle_isKey
  | 4 => pPle_isCounted
  | 5 => pPle_waitsFor
  | 6 => pPle_rank
  | 7 => pPle_bind
  | _ => fun _ _ => True
def qCle_signs : Nat → List Int → zE → Int → zE → Prop := fun c => match c with
  | 0 => pQle_isSign
  | 1 => pQle_wrong
  | 2 => pQle_token
  | 3 => pQle_isKey
  | 4 => pQle_isCounted
  | 5 => pQle_waitsFor
  | 6 => pQle_rank
  | 7 => pQle_bind
  | _ => fun _ _ _ _ => True
def iCle_signs : List Int → zE → Nat → List Int → zE → Prop := fun xs η0 c => match c with
  | 0 => fun ys η => (G_l η ∧ η 0 45 = 0 ∧ 1 ≤ η 0 19 ∧ η 0 7 = η0 0 7 ∧ η 0 6 = η0 0 6 ∧ η 0 8 = η0 0 8) ∧ (yq_sgn η0 = yq_sgB (yq_sk η) η)
  | 1 => fun ys η => (G_l η ∧ η 0 45 = 0 ∧ 1 ≤ η 0 19 ∧ η 0 7 = η0 0 7 ∧ η 0 6 = η0 0 6 ∧ η 0 8 = η0 0 8 ∧ (ys.getD 0 0 = 0 ∨ (3 ≤ ys.getD 0 0 ∧ ¬ η 0 8 = 0))) ∧ (yq_sgn η0 = yq_sgB (ys.getD 0 0) η)
  | 2 => fun ys η => (G_l η ∧ η 0 45 = 0 ∧ 1 ≤ η 0 19 ∧ η 0 7 = η0 0 7 ∧ η 0 6 = η0 0 6 ∧ η 0 8 = η0 0 8 ∧ (ys.getD 0 0 = 0 ∨ (3 ≤ ys.getD 0 0 ∧ ¬ η 0 8 = 0))) ∧ (yq_sgn η0 = yq_sg2 (ys.getD 0 0) η)
  | 3 => fun ys η => (G_l η ∧ η 0 45 = 0 ∧ 1 ≤ η 0 19 ∧ η 0 7 = η0 0 7 ∧ η 0 6 = η0 0 6 ∧ η 0 8 = η0 0 8 ∧ (ys.getD 0 0 = 0 ∨ (3 ≤ ys.getD 0 0 ∧ ¬ η 0 8 = 0))) ∧ (yq_sgn η0 = yq_sg3 (ys.getD 0 0) η)
  | _ => fun _ _ => True
def zVle_signs : List zIv := [(nat_lit 0, ([], []), ((.ofNat (nat_lit 9)), [])), (nat_lit 1, ([((.ofNat (nat_lit 0)), (.ofNat (nat_lit 14)))], []), ((.ofNat (nat_lit 8)), [])), (nat_lit 2, ([((.ofNat (nat_lit 3)), (.ofNat (nat_lit 14)))], []), ((.ofNat (nat_lit 7)), [])), (nat_lit 3, ([((.ofNat (nat_lit 3)), (.ofNat (nat_lit 14)))], []), ((.ofNat (nat_lit 6)), []))]
def zUle_signs : List zCu := [(nat_lit 47, nat_lit 0, [(nat_lit 0, (.inr (.inr (.inl (nat_lit 0)))))], []), (nat_lit 148, nat_lit 1, [(nat_lit 0, (.inr (.inr (.inl (nat_lit 0))))), (nat_lit 1, (.inl (nat_lit 1, (.ofNat (nat_lit 0)))))], []), (nat_lit 178, nat_lit 2, [(nat_lit 0, (.inr (.inr (.inl (nat_lit 0))))), (nat_lit 1, (.inl (nat_lit 1, (.ofNat (nat_lit 0)))))], []), (nat_lit 217, nat_lit 3, [(nat_lit 0, (.inr (.inr (.inl (nat_lit 0))))), (nat_lit 1, (.inl (nat_lit 1, (.ofNat (nat_lit 0)))))], [])]
def zDle_signs : List (List zK) := [[(nat_lit 7, nat_lit 2, [(nat_lit 0, (.ofNat (nat_lit 1)))]), (nat_lit 8, nat_lit 2, []), (nat_lit 5, nat_lit 0, [(nat_lit 0, (.ofNat (nat_lit 0))), (nat_lit 0, (.ofNat (nat_lit 43))), (nat_lit 7, (.ofNat (nat_lit 0)))]), (nat_lit 0, nat_lit 2, [(nat_lit 6, (.ofNat (nat_lit 0))), (nat_lit 0, (.ofNat (nat_lit 1)))]), (nat_lit 4, nat_lit 0, [(nat_lit 0, (.ofNat (nat_lit 0))), (nat_lit 0, (.ofNat (nat_lit 43)))]), (nat_lit 5, nat_lit 0, [(nat_lit 0, (.ofNat (nat_lit 0))), (nat_lit 0, (.ofNat (nat_lit 41))), (nat_lit 5, (.ofNat (nat_lit 0)))]), (nat_lit 0, nat_lit 2, [(nat_lit 4, (.ofNat (nat_lit 0))), (nat_lit 0, (.ofNat (nat_lit 1)))]), (nat_lit 4, nat_lit 0, [(nat_lit 0, (.ofNat (nat_lit 0))), (nat_lit 0, (.ofNat (nat_lit 41)))]), (nat_lit 8, nat_lit 7, [(nat_lit 0, (.ofNat (nat_lit 1)))]), (nat_lit 6, nat_lit 4, [(nat_lit 2, (.ofNat (nat_lit 0))), (nat_lit 0, (.ofNat (nat_lit 0)))]), (nat_lit 4, nat_lit 0, [(nat_lit 0, (.ofNat (nat_lit 0))), (nat_lit 0, (.ofNat (nat_lit 43)))]), (nat_lit 6, nat_lit 1, [(nat_lit 1, (.ofNat (nat_lit 0))), (nat_lit 0, (.ofNat (nat_lit 0)))]), (nat_lit 8, nat_lit 0, [(nat_lit 0, (.ofNat (nat_lit 41)))])]]
def zEle_signs : List (List zK) := [[(nat_lit 13, nat_lit 0, [(nat_lit 0, (.ofNat (nat_lit 41)))])],
  [(nat_lit 12, nat_lit 0, []), (nat_lit 6, nat_lit 0, [(nat_lit 1, (.ofNat (nat_lit 0))), (nat_lit 0, (.ofNat (nat_lit 0)))]), (nat_lit 8, nat_lit 0, [(nat_lit 0, (.ofNat (nat_lit 41)))])],
  [(nat_lit 12, nat_lit 0, []), (nat_lit 6, nat_lit 5, [(nat_lit 2, (.ofNat (nat_lit 0))), (nat_lit 0, (.ofNat (nat_lit 0)))]), (nat_lit 4, nat_lit 0, [(nat_lit 0, (.ofNat (nat_lit 0))), (nat_lit 0, (.ofNat (nat_lit 43)))]), (nat_lit 6, nat_lit 1, [(nat_lit 1, (.ofNat (nat_lit 0))), (nat_lit 0, (.ofNat (nat_lit 0)))]), (nat_lit 8, nat_lit 0, [(nat_lit 0, (.ofNat (nat_lit 41)))])],
  [(nat_lit 13, nat_lit 7, [(nat_lit 0, (.ofNat (nat_lit 1)))]), (nat_lit 6, nat_lit 4, [(nat_lit 2, (.ofNat (nat_lit 0))), (nat_lit 0, (.ofNat (nat_lit 0)))]), (nat_lit 4, nat_lit 0, [(nat_lit 0, (.ofNat (nat_lit 0))), (nat_lit 0, (.ofNat (nat_lit 43)))]), (nat_lit 6, nat_lit 1, [(nat_lit 1, (.ofNat (nat_lit 0))), (nat_lit 0, (.ofNat (nat_lit 0)))]), (nat_lit 8, nat_lit 0, [(nat_lit 0, (.ofNat (nat_lit 41)))])],
  [(nat_lit 13, nat_lit 2, []), (nat_lit 5, nat_lit 0, [(nat_lit 0, (.ofNat (nat_lit 0))), (nat_lit 0, (.ofNat (nat_lit 43))), (nat_lit 7, (.ofNat (nat_lit 0)))]), (nat_lit 0, nat_lit 2, [(nat_lit 6, (.ofNat (nat_lit 0))), (nat_lit 0, (.ofNat (nat_lit 1)))]), (nat_lit 4, nat_lit 0, [(nat_lit 0, (.ofNat (nat_lit 0))), (nat_lit 0, (.ofNat (nat_lit 43)))]), (nat_lit 5, nat_lit 0, [(nat_lit 0, (.ofNat (nat_lit 0))), (nat_lit 0, (.ofNat (nat_lit 41))), (nat_lit 5, (.ofNat (nat_lit 0)))]), (nat_lit 0, nat_lit 2, [(nat_lit 4, (.ofNat (nat_lit 0))), (nat_lit 0, (.ofNat (nat_lit 1)))]), (nat_lit 4, nat_lit 0, [(nat_lit 0, (.ofNat (nat_lit 0))), (nat_lit 0, (.ofNat (nat_lit 41)))]), (nat_lit 8, nat_lit 7, [(nat_lit 0, (.ofNat (nat_lit 1)))]), (nat_lit 6, nat_lit 4, [(nat_lit 2, (.ofNat (nat_lit 0))), (nat_lit 0, (.ofNat (nat_lit 0)))]), (nat_lit 4, nat_lit 0, [(nat_lit 0, (.ofNat (nat_lit 0))), (nat_lit 0, (.ofNat (nat_lit 43)))]), (nat_lit 6, nat_lit 1, [(nat_lit 1, (.ofNat (nat_lit 0))), (nat_lit 0, (.ofNat (nat_lit 0)))]), (nat_lit 8, nat_lit 0, [(nat_lit 0, (.ofNat (nat_lit 41)))])],
  [(nat_lit 11, nat_lit 0, [(nat_lit 0, (.ofNat (nat_lit 1)))]), (nat_lit 8, nat_lit 2, []), (nat_lit 5, nat_lit 0, [(nat_lit 0, (.ofNat (nat_lit 0))), (nat_lit 0, (.ofNat (nat_lit 43))), (nat_lit 7, (.ofNat (nat_lit 0)))]), (nat_lit 0, nat_lit 2, [(nat_lit 6, (.ofNat (nat_lit 0))), (nat_lit 0, (.ofNat (nat_lit 1)))]), (nat_lit 4, nat_lit 0, [(nat_lit 0, (.ofNat (nat_lit 0))), (nat_lit 0, (.ofNat (nat_lit 43)))]), (nat_lit 5, nat_lit 0, [(nat_lit 0, (.ofNat (nat_lit 0))), (nat_lit 0, (.ofNat (nat_lit 41))), (nat_lit 5, (.ofNat (nat_lit 0)))]), (nat_lit 0, nat_lit 2, [(nat_lit 4, (.ofNat (nat_lit 0))), (nat_lit 0, (.ofNat (nat_lit 1)))]), (nat_lit 4, nat_lit 0, [(nat_lit 0, (.ofNat (nat_lit 0))), (nat_lit 0, (.ofNat (nat_lit 41)))]), (nat_lit 8, nat_lit 7, [(nat_lit 0, (.ofNat (nat_lit 1)))]), (nat_lit 6, nat_lit 4, [(nat_lit 2, (.ofNat (nat_lit 0))), (nat_lit 0, (.ofNat (nat_lit 0)))]), (nat_lit 4, nat_lit 0, [(nat_lit 0, (.ofNat (nat_lit 0))), (nat_lit 0, (.ofNat (nat_lit 43)))]), (nat_lit 6, nat_lit 1, [(nat_lit 1, (.ofNat (nat_lit 0))), (nat_lit 0, (.ofNat (nat_lit 0)))]), (nat_lit 8, nat_lit 0, [(nat_lit 0, (.ofNat (nat_lit 41)))])]]
def zFle_signs : List (List zK) := []
def zDle_signs_0 : List (List zK) := []
def zEle_signs_0 : List (List zK) := [[(nat_lit 13, nat_lit 3, [(nat_lit 0, (.ofNat (nat_lit 10)))])],
  [(nat_lit 13, nat_lit 3, [(nat_lit 0, (.ofNat (nat_lit 11)))]), (nat_lit 6, nat_lit 0, [(nat_lit 1, (.ofNat (nat_lit 0))), (nat_lit 0, (.ofNat (nat_lit 0)))]), (nat_lit 8, nat_lit 3, [(nat_lit 0, (.ofNat (nat_lit 10)))])],
  [(nat_lit 13, nat_lit 0, [(nat_lit 0, (.ofNat (nat_lit 43)))]), (nat_lit 6, nat_lit 1, [(nat_lit 3, (.ofNat (nat_lit 0))), (nat_lit 0, (.ofNat (nat_lit 5)))]), (nat_lit 4, nat_lit 0, [(nat_lit 0, (.ofNat (nat_lit 0))), (nat_lit 0, (.ofNat (nat_lit 8)))]), (nat_lit 6, nat_lit 0, [(nat_lit 2, (.ofNat (nat_lit 0))), (nat_lit 0, (.ofNat (nat_lit 0)))]), (nat_lit 8, nat_lit 3, [(nat_lit 0, (.ofNat (nat_lit 11)))]), (nat_lit 6, nat_lit 0, [(nat_lit 1, (.ofNat (nat_lit 0))), (nat_lit 0, (.ofNat (nat_lit 0)))]), (nat_lit 8, nat_lit 3, [(nat_lit 0, (.ofNat (nat_lit 10)))])],
  [(nat_lit 13, nat_lit 0, [(nat_lit 0, (.ofNat (nat_lit 45)))]), (nat_lit 6, nat_lit 0, [(nat_lit 4, (.ofNat (nat_lit 0))), (nat_lit 0, (.ofNat (nat_lit 0)))]), (nat_lit 8, nat_lit 0, [(nat_lit 0, (.ofNat (nat_lit 43)))]), (nat_lit 6, nat_lit 1, [(nat_lit 3, (.ofNat (nat_lit 0))), (nat_lit 0, (.ofNat (nat_lit 5)))]), (nat_lit 4, nat_lit 0, [(nat_lit 0, (.ofNat (nat_lit 0))), (nat_lit 0, (.ofNat (nat_lit 8)))]), (nat_lit 6, nat_lit 0, [(nat_lit 2, (.ofNat (nat_lit 0))), (nat_lit 0, (.ofNat (nat_lit 0)))]), (nat_lit 8, nat_lit 3, [(nat_lit 0, (.ofNat (nat_lit 11)))]), (nat_lit 6, nat_lit 0, [(nat_lit 1, (.ofNat (nat_lit 0))), (nat_lit 0, (.ofNat (nat_lit 0)))]), (nat_lit 8, nat_lit 3, [(nat_lit 0, (.ofNat (nat_lit 10)))])],
  [(nat_lit 13, nat_lit 0, [(nat_lit 0, (.ofNat (nat_lit 42)))]), (nat_lit 6, nat_lit 0, [(nat_lit 5, (.ofNat (nat_lit 0))), (nat_lit 0, (.ofNat (nat_lit 0)))]), (nat_lit 8, nat_lit 0, [(nat_lit 0, (.ofNat (nat_lit 45)))]), (nat_lit 6, nat_lit 0, [(nat_lit 4, (.ofNat (nat_lit 0))), (nat_lit 0, (.ofNat (nat_lit 0)))]), (nat_lit 8, nat_lit 0, [(nat_lit 0, (.ofNat (nat_lit 43)))]), (nat_lit 6, nat_lit 1, [(nat_lit 3, (.ofNat (nat_lit 0))), (nat_lit 0, (.ofNat (nat_lit 5)))]), (nat_lit 4, nat_lit 0, [(nat_lit 0, (.ofNat (nat_lit 0))), (nat_lit 0, (.ofNat (nat_lit 8)))]), (nat_lit 6, nat_lit 0, [(nat_lit 2, (.ofNat (nat_lit 0))), (nat_lit 0, (.ofNat (nat_lit 0)))]), (nat_lit 8, nat_lit 3, [(nat_lit 0, (.ofNat (nat_lit 11)))]), (nat_lit 6, nat_lit 0, [(nat_lit 1, (.ofNat (nat_lit 0))), (nat_lit 0, (.ofNat (nat_lit 0)))]), (nat_lit 8, nat_lit 3, [(nat_lit 0, (.ofNat (nat_lit 10)))])],
  [(nat_lit 13, nat_lit 0, [(nat_lit 0, (.ofNat (nat_lit 47)))]), (nat_lit 6, nat_lit 0, [(nat_lit 6, (.ofNat (nat_lit 0))), (nat_lit 0, (.ofNat (nat_lit 0)))]), (nat_lit 8, nat_lit 0, [(nat_lit 0, (.ofNat (nat_lit 42)))]), (nat_lit 6, nat_lit 0, [(nat_lit 5, (.ofNat (nat_lit 0))), (nat_lit 0, (.ofNat (nat_lit 0)))]), (nat_lit 8, nat_lit 0, [(nat_lit 0, (.ofNat (nat_lit 45)))]), (nat_lit 6, nat_lit 0, [(nat_lit 4, (.ofNat (nat_lit 0))), (nat_lit 0, (.ofNat (nat_lit 0)))]), (nat_lit 8, nat_lit 0, [(nat_lit 0, (.ofNat (nat_lit 43)))]), (nat_lit 6, nat_lit 1, [(nat_lit 3, (.ofNat (nat_lit 0))), (nat_lit 0, (.ofNat (nat_lit 5)))]), (nat_lit 4, nat_lit 0, [(nat_lit 0, (.ofNat (nat_lit 0))), (nat_lit 0, (.ofNat (nat_lit 8)))]), (nat_lit 6, nat_lit 0, [(nat_lit 2, (.ofNat (nat_lit 0))), (nat_lit 0, (.ofNat (nat_lit 0)))]), (nat_lit 8, nat_lit 3, [(nat_lit 0, (.ofNat (nat_lit 11)))]), (nat_lit 6, nat_lit 0, [(nat_lit 1, (.ofNat (nat_lit 0))), (nat_lit 0, (.ofNat (nat_lit 0)))]), (nat_lit 8, nat_lit 3, [(nat_lit 0, (.ofNat (nat_lit 10)))])],
  [(nat_lit 10, nat_lit 1, [(nat_lit 0, (.ofNat (nat_lit 0)))]), (nat_lit 6, nat_lit 0, [(nat_lit 7, (.ofNat (nat_lit 0))), (nat_lit 0, (.ofNat (nat_lit 0)))]), (nat_lit 8, nat_lit 0, [(nat_lit 0, (.ofNat (nat_lit 47)))]), (nat_lit 6, nat_lit 0, [(nat_lit 6, (.ofNat (nat_lit 0))), (nat_lit 0, (.ofNat (nat_lit 0)))]), (nat_lit 8, nat_lit 0, [(nat_lit 0, (.ofNat (nat_lit 42)))]), (nat_lit 6, nat_lit 0, [(nat_lit 5, (.ofNat (nat_lit 0))), (nat_lit 0, (.ofNat (nat_lit 0)))]), (nat_lit 8, nat_lit 0, [(nat_lit 0, (.ofNat (nat_lit 45)))]), (nat_lit 6, nat_lit 0, [(nat_lit 4, (.ofNat (nat_lit 0))), (nat_lit 0, (.ofNat (nat_lit 0)))]), (nat_lit 8, nat_lit 0, [(nat_lit 0, (.ofNat (nat_lit 43)))]), (nat_lit 6, nat_lit 1, [(nat_lit 3, (.ofNat (nat_lit 0))), (nat_lit 0, (.ofNat (nat_lit 5)))]), (nat_lit 4, nat_lit 0, [(nat_lit 0, (.ofNat (nat_lit 0))), (nat_lit 0, (.ofNat (nat_lit 8)))]), (nat_lit 6, nat_lit 0, [(nat_lit 2, (.ofNat (nat_lit 0))), (nat_lit 0, (.ofNat (nat_lit 0)))]), (nat_lit 8, nat_lit 3, [(nat_lit 0, (.ofNat (nat_lit 11)))]), (nat_lit 6, nat_lit 0, [(nat_lit 1, (.ofNat (nat_lit 0))), (nat_lit 0, (.ofNat (nat_lit 0)))]), (nat_lit 8, nat_lit 3, [(nat_lit 0, (.ofNat (nat_lit 10)))])],
  [(nat_lit 10, nat_lit 1, [(nat_lit 0, (.ofNat (nat_lit 14)))]), (nat_lit 6, nat_lit 1, [(nat_lit 7, (.ofNat (nat_lit 0))), (nat_lit 0, (.ofNat (nat_lit 0)))]), (nat_lit 8, nat_lit 0, [(nat_lit 0, (.ofNat (nat_lit 47)))]), (nat_lit 6, nat_lit 0, [(nat_lit 6, (.ofNat (nat_lit 0))), (nat_lit 0, (.ofNat (nat_lit 0)))]), (nat_lit 8, nat_lit 0, [(nat_lit 0, (.ofNat (nat_lit 42)))]), (nat_lit 6, nat_lit 0, [(nat_lit 5, (.ofNat (nat_lit 0))), (nat_lit 0, (.ofNat (nat_lit 0)))]), (nat_lit 8, nat_lit 0, [(nat_lit 0, (.ofNat (nat_lit 45)))]), (nat_lit 6, nat_lit 0, [(nat_lit 4, (.ofNat (nat_lit 0))), (nat_lit 0, (.ofNat (nat_lit 0)))]), (nat_lit 8, nat_lit 0, [(nat_lit 0, (.ofNat (nat_lit 43)))]), (nat_lit 6, nat_lit 1, [(nat_lit 3, (.ofNat (nat_lit 0))), (nat_lit 0, (.ofNat (nat_lit 5)))]), (nat_lit 4, nat_lit 0, [(nat_lit 0, (.ofNat (nat_lit 0))), (nat_lit 0, (.ofNat (nat_lit 8)))]), (nat_lit 6, nat_lit 0, [(nat_lit 2, (.ofNat (nat_lit 0))), (nat_lit 0, (.ofNat (nat_lit 0)))]), (nat_lit 8, nat_lit 3, [(nat_lit 0, (.ofNat (nat_lit 11)))]), (nat_lit 6, nat_lit 0, [(nat_lit 1, (.ofNat (nat_lit 0))), (nat_lit 0, (.ofNat (nat_lit 0)))]), (nat_lit 8, nat_lit 3, [(nat_lit 0, (.ofNat (nat_lit 10)))])],
  [(nat_lit 10, nat_lit 1, [(nat_lit 0, (.ofNat (nat_lit 13)))]), (nat_lit 6, nat_lit 1, [(nat_lit 6, (.ofNat (nat_lit 0))), (nat_lit 0, (.ofNat (nat_lit 0)))]), (nat_lit 8, nat_lit 0, [(nat_lit 0, (.ofNat (nat_lit 42)))]), (nat_lit 6, nat_lit 0, [(nat_lit 5, (.ofNat (nat_lit 0))), (nat_lit 0, (.ofNat (nat_lit 0)))]), (nat_lit 8, nat_lit 0, [(nat_lit 0, (.ofNat (nat_lit 45)))]), (nat_lit 6, nat_lit 0, [(nat_lit 4, (.ofNat (nat_lit 0))), (nat_lit 0, (.ofNat (nat_lit 0)))]), (nat_lit 8, nat_lit 0, [(nat_lit 0, (.ofNat (nat_lit 43)))]), (nat_lit 6, nat_lit 1, [(nat_lit 3, (.ofNat (nat_lit 0))), (nat_lit 0, (.ofNat (nat_lit 5)))]), (nat_lit 4, nat_lit 0, [(nat_lit 0, (.ofNat (nat_lit 0))), (nat_lit 0, (.ofNat (nat_lit 8)))]), (nat_lit 6, nat_lit 0, [(nat_lit 2, (.ofNat (nat_lit 0))), (nat_lit 0, (.ofNat (nat_lit 0)))]), (nat_lit 8, nat_lit 3, [(nat_lit 0, (.ofNat (nat_lit 11)))]), (nat_lit 6, nat_lit 0, [(nat_lit 1, (.ofNat (nat_lit 0))), (nat_lit 0, (.ofNat (nat_lit 0)))]), (nat_lit 8, nat_lit 3, [(nat_lit 0, (.ofNat (nat_lit 10)))])],
  [(nat_lit 10, nat_lit 1, [(nat_lit 0, (.ofNat (nat_lit 12)))]), (nat_lit 6, nat_lit 1, [(nat_lit 5, (.ofNat (nat_lit 0))), (nat_lit 0, (.ofNat (nat_lit 0)))]), (nat_lit 8, nat_lit 0, [(nat_lit 0, (.ofNat (nat_lit 45)))]), (nat_lit 6, nat_lit 0, [(nat_lit 4, (.ofNat (nat_lit 0))), (nat_lit 0, (.ofNat (nat_lit 0)))]), (nat_lit 8, nat_lit 0, [(nat_lit 0, (.ofNat (nat_lit 43)))]), (nat_lit 6, nat_lit 1, [(nat_lit 3, (.ofNat (nat_lit 0))), (nat_lit 0, (.ofNat (nat_lit 5)))]), (nat_lit 4, nat_lit 0, [(nat_lit 0, (.ofNat (nat_lit 0))), (nat_lit 0, (.ofNat (nat_lit 8)))]), (nat_lit 6, nat_lit 0, [(nat_lit 2, (.ofNat (nat_lit 0))), (nat_lit 0, (.ofNat (nat_lit 0)))]), (nat_lit 8, nat_lit 3, [(nat_lit 0, (.ofNat (nat_lit 11)))]), (nat_lit 6, nat_lit 0, [(nat_lit 1, (.ofNat (nat_lit 0))), (nat_lit 0, (.ofNat (nat_lit 0)))]), (nat_lit 8, nat_lit 3, [(nat_lit 0, (.ofNat (nat_lit 10)))])],
  [(nat_lit 10, nat_lit 1, [(nat_lit 0, (.ofNat (nat_lit 11)))]), (nat_lit 6, nat_lit 1, [(nat_lit 4, (.ofNat (nat_lit 0))), (nat_lit 0, (.ofNat (nat_lit 0)))]), (nat_lit 8, nat_lit 0, [(nat_lit 0, (.ofNat (nat_lit 43)))]), (nat_lit 6, nat_lit 1, [(nat_lit 3, (.ofNat (nat_lit 0))), (nat_lit 0, (.ofNat (nat_lit 5)))]), (nat_lit 4, nat_lit 0, [(nat_lit 0, (.ofNat (nat_lit 0))), (nat_lit 0, (.ofNat (nat_lit 8)))]), (nat_lit 6, nat_lit 0, [(nat_lit 2, (.ofNat (nat_lit 0))), (nat_lit 0, (.ofNat (nat_lit 0)))]), (nat_lit 8, nat_lit 3, [(nat_lit 0, (.ofNat (nat_lit 11)))]), (nat_lit 6, nat_lit 0, [(nat_lit 1, (.ofNat (nat_lit 0))), (nat_lit 0, (.ofNat (nat_lit 0)))]), (nat_lit 8, nat_lit 3, [(nat_lit 0, (.ofNat (nat_lit 10)))])],
  [(nat_lit 10, nat_lit 1, [(nat_lit 0, (.ofNat (nat_lit 4)))]), (nat_lit 6, nat_lit 1, [(nat_lit 2, (.ofNat (nat_lit 0))), (nat_lit 0, (.ofNat (nat_lit 0)))]), (nat_lit 8, nat_lit 3, [(nat_lit 0, (.ofNat (nat_lit 11)))]), (nat_lit 6, nat_lit 0, [(nat_lit 1, (.ofNat (nat_lit 0))), (nat_lit 0, (.ofNat (nat_lit 0)))]), (nat_lit 8, nat_lit 3, [(nat_lit 0, (.ofNat (nat_lit 10)))])],
  [(nat_lit 10, nat_lit 1, [(nat_lit 0, (.ofNat (nat_lit 3)))]), (nat_lit 6, nat_lit 1, [(nat_lit 1, (.ofNat (nat_lit 0))), (nat_lit 0, (.ofNat (nat_lit 0)))]), (nat_lit 8, nat_lit 3, [(nat_lit 0, (.ofNat (nat_lit 10)))])]]
def zFle_signs_0 : List (List zK) := [[(nat_lit 10, nat_lit 1, [(nat_lit 5, (.ofNat (nat_lit 0)))]), (nat_lit 0, nat_lit 1, [(nat_lit 0, (.ofNat (nat_lit 5))), (nat_lit 4, (.ofNat (nat_lit 0)))]), (nat_lit 4, nat_lit 0, [(nat_lit 0, (.ofNat (nat_lit 0))), (nat_lit 0, (.ofNat (nat_lit 9)))]), (nat_lit 6, nat_lit 0, [(nat_lit 3, (.ofNat (nat_lit 0))), (nat_lit 0, (.ofNat (nat_lit 5)))]), (nat_lit 4, nat_lit 0, [(nat_lit 0, (.ofNat (nat_lit 0))), (nat_lit 0, (.ofNat (nat_lit 8)))]), (nat_lit 6, nat_lit 0, [(nat_lit 2, (.ofNat (nat_lit 0))), (nat_lit 0, (.ofNat (nat_lit 0)))]), (nat_lit 8, nat_lit 3, [(nat_lit 0, (.ofNat (nat_lit 11)))]), (nat_lit 6, nat_lit 0, [(nat_lit 1, (.ofNat (nat_lit 0))), (nat_lit 0, (.ofNat (nat_lit 0)))]), (nat_lit 8, nat_lit 3, [(nat_lit 0, (.ofNat (nat_lit 10)))])]]
def zDle_signs_1 : List (List zK) := [[(nat_lit 7, nat_lit 2, [(nat_lit 2, (.ofNat (nat_lit 0)))]), (nat_lit 8, nat_lit 1, [(nat_lit 0, (.ofNat (nat_lit 1)))]), (nat_lit 6, nat_lit 0, [(nat_lit 1, (.ofNat (nat_lit 0))), (nat_lit 0, (.ofNat (nat_lit 0)))])]]
def zEle_signs_1 : List (List zK) := [[(nat_lit 13, nat_lit 6, [(nat_lit 1, (.ofNat (nat_lit 0)))]), (nat_lit 6, nat_lit 1, [(nat_lit 1, (.ofNat (nat_lit 0))), (nat_lit 0, (.ofNat (nat_lit 0)))])],
  [(nat_lit 13, nat_lit 6, [(nat_lit 1, (.ofNat (nat_lit 0)))]), (nat_lit 6, nat_lit 1, [(nat_lit 2, (.ofNat (nat_lit 0))), (nat_lit 0, (.ofNat (nat_lit 4)))]), (nat_lit 8, nat_lit 6, [(nat_lit 1, (.ofNat (nat_lit 0)))]), (nat_lit 6, nat_lit 1, [(nat_lit 1, (.ofNat (nat_lit 0))), (nat_lit 0, (.ofNat (nat_lit 0)))])],
  [(nat_lit 13, nat_lit 7, [(nat_lit 0, (.ofNat (nat_lit 5)))]), (nat_lit 6, nat_lit 0, [(nat_lit 2, (.ofNat (nat_lit 0))), (nat_lit 0, (.ofNat (nat_lit 4)))]), (nat_lit 8, nat_lit 6, [(nat_lit 1, (.ofNat (nat_lit 0)))]), (nat_lit 6, nat_lit 1, [(nat_lit 1, (.ofNat (nat_lit 0))), (nat_lit 0, (.ofNat (nat_lit 0)))])],
  [(nat_lit 13, nat_lit 1, [(nat_lit 0, (.ofNat (nat_lit 1)))]), (nat_lit 6, nat_lit 0, [(nat_lit 1, (.ofNat (nat_lit 0))), (nat_lit 0, (.ofNat (nat_lit 0)))])],
  [(nat_lit 11, nat_lit 0, [(nat_lit 2, (.ofNat (nat_lit 0)))]), (nat_lit 8, nat_lit 1, [(nat_lit 0, (.ofNat (nat_lit 1)))]), (nat_lit 6, nat_lit 0, [(nat_lit 1, (.ofNat (nat_lit 0))), (nat_lit 0, (.ofNat (nat_lit 0)))])]]
def zFle_signs_1 : List (List zK) := [[(nat_lit 13, nat_lit 7, [(nat_lit 3, (.ofNat (nat_lit 0)))]), (nat_lit 8, nat_lit 6, [(nat_lit 1, (.ofNat (nat_lit 0)))]), (nat_lit 6, nat_lit 1, [(nat_lit 2, (.ofNat (nat_lit 0))), (nat_lit 0, (.ofNat (nat_lit 4)))]), (nat_lit 8, nat_lit 6, [(nat_lit 1, (.ofNat (nat_lit 0)))]), (nat_lit 6, nat_lit 1, [(nat_lit 1, (.ofNat (nat_lit 0))), (nat_lit 0, (.ofNat (nat_lit 0)))])],
  [(nat_lit 10, nat_lit 2, [(nat_lit 1, (.ofNat (nat_lit 0)))]), (nat_lit 8, nat_lit 7, [(nat_lit 3, (.ofNat (nat_lit 0)))]), (nat_lit 8, nat_lit 6, [(nat_lit 1, (.ofNat (nat_lit 0)))]), (nat_lit 6, nat_lit 1, [(nat_lit 2, (.ofNat (nat_lit 0))), (nat_lit 0, (.ofNat (nat_lit 4)))]), (nat_lit 8, nat_lit 6, [(nat_lit 1, (.ofNat (nat_lit 0)))]), (nat_lit 6, nat_lit 1, [(nat_lit 1, (.ofNat (nat_lit 0))), (nat_lit 0, (.ofNat (nat_lit 0)))])],
  [(nat_lit 10, nat_lit 2, [(nat_lit 1, (.ofNat (nat_lit 0)))]), (nat_lit 8, nat_lit 7, [(nat_lit 0, (.ofNat (nat_lit 5)))]), (nat_lit 6, nat_lit 0, [(nat_lit 2, (.ofNat (nat_lit 0))), (nat_lit 0, (.ofNat (nat_lit 4)))]), (nat_lit 8, nat_lit 6, [(nat_lit 1, (.ofNat (nat_lit 0)))]), (nat_lit 6, nat_lit 1, [(nat_lit 1, (.ofNat (nat_lit 0))), (nat_lit 0, (.ofNat (nat_lit 0)))])]]
def zDle_signs_2 : List (List zK) := [[(nat_lit 7, nat_lit 2, [(nat_lit 8, (.ofNat (nat_lit 0)))]), (nat_lit 8, nat_lit 1, [(nat_lit 0, (.ofNat (nat_lit 1)))]), (nat_lit 6, nat_lit 0, [(nat_lit 7, (.ofNat (nat_lit 0))), (nat_lit 0, (.ofNat (nat_lit 4)))]), (nat_lit 8, nat_lit 6, [(nat_lit 6, (.ofNat (nat_lit 0)))]), (nat_lit 4, nat_lit 0, [(nat_lit 22, (.ofNat (nat_lit 0))), (nat_lit 5, (.ofNat (nat_lit 0)))]), (nat_lit 0, nat_lit 2, [(nat_lit 4, (.ofNat (nat_lit 0))), (nat_lit 0, (.ofNat (nat_lit 1)))]), (nat_lit 4, nat_lit 0, [(nat_lit 0, (.ofNat (nat_lit 0))), (nat_lit 0, (.ofNat (nat_lit 41)))]), (nat_lit 6, nat_lit 4, [(nat_lit 3, (.ofNat (nat_lit 0))), (nat_lit 0, (.ofNat (nat_lit 0)))]), (nat_lit 4, nat_lit 0, [(nat_lit 0, (.ofNat (nat_lit 0))), (nat_lit 0, (.ofNat (nat_lit 41)))]), (nat_lit 6, nat_lit 0, [(nat_lit 2, (.ofNat (nat_lit 0))), (nat_lit 0, (.ofNat (nat_lit 4)))]), (nat_lit 8, nat_lit 6, [(nat_lit 1, (.ofNat (nat_lit 0)))])]]
def zEle_signs_2 : List (List zK) := [[(nat_lit 13, nat_lit 6, [(nat_lit 1, (.ofNat (nat_lit 0)))])],
  [(nat_lit 10, nat_lit 3, [(nat_lit 1, (.ofNat (nat_lit 0)))]), (nat_lit 6, nat_lit 1, [(nat_lit 2, (.ofNat (nat_lit 0))), (nat_lit 0, (.ofNat (nat_lit 4)))]), (nat_lit 8, nat_lit 6, [(nat_lit 1, (.ofNat (nat_lit 0)))])],
  [(nat_lit 10, nat_lit 3, [(nat_lit 1, (.ofNat (nat_lit 0)))]), (nat_lit 6, nat_lit 5, [(nat_lit 3, (.ofNat (nat_lit 0))), (nat_lit 0, (.ofNat (nat_lit 0)))]), (nat_lit 4, nat_lit 0, [(nat_lit 0, (.ofNat (nat_lit 0))), (nat_lit 0, (.ofNat (nat_lit 41)))]), (nat_lit 6, nat_lit 0, [(nat_lit 2, (.ofNat (nat_lit 0))), (nat_lit 0, (.ofNat (nat_lit 4)))]), (nat_lit 8, nat_lit 6, [(nat_lit 1, (.ofNat (nat_lit 0)))])],
  [(nat_lit 13, nat_lit 6, [(nat_lit 6, (.ofNat (nat_lit 0)))]), (nat_lit 4, nat_lit 0, [(nat_lit 22, (.ofNat (nat_lit 0))), (nat_lit 5, (.ofNat (nat_lit 0)))]), (nat_lit 0, nat_lit 2, [(nat_lit 4, (.ofNat (nat_lit 0))), (nat_lit 0, (.ofNat (nat_lit 1)))]), (nat_lit 4, nat_lit 0, [(nat_lit 0, (.ofNat (nat_lit 0))), (nat_lit 0, (.ofNat (nat_lit 41)))]), (nat_lit 6, nat_lit 4, [(nat_lit 3, (.ofNat (nat_lit 0))), (nat_lit 0, (.ofNat (nat_lit 0)))]), (nat_lit 4, nat_lit 0, [(nat_lit 0, (.ofNat (nat_lit 0))), (nat_lit 0, (.ofNat (nat_lit 41)))]), (nat_lit 6, nat_lit 0, [(nat_lit 2, (.ofNat (nat_lit 0))), (nat_lit 0, (.ofNat (nat_lit 4)))]), (nat_lit 8, nat_lit 6, [(nat_lit 1, (.ofNat (nat_lit 0)))])],
  [(nat_lit 10, nat_lit 3, [(nat_lit 1, (.ofNat (nat_lit 0)))]), (nat_lit 6, nat_lit 1, [(nat_lit 7, (.ofNat (nat_lit 0))), (nat_lit 0, (.ofNat (nat_lit 4)))]), (nat_lit 8, nat_lit 6, [(nat_lit 6, (.ofNat (nat_lit 0)))]), (nat_lit 4, nat_lit 0, [(nat_lit 22, (.ofNat (nat_lit 0))), (nat_lit 5, (.ofNat (nat_lit 0)))]), (nat_lit 0, nat_lit 2, [(nat_lit 4, (.ofNat (nat_lit 0))), (nat_lit 0, (.ofNat (nat_lit 1)))]), (nat_lit 4, nat_lit 0, [(nat_lit 0, (.ofNat (nat_lit 0))), (nat_lit 0, (.ofNat (nat_lit 41)))]), (nat_lit 6, nat_lit 4, [(nat_lit 3, (.ofNat (nat_lit 0))), (nat_lit 0, (.ofNat (nat_lit 0)))]), (nat_lit 4, nat_lit 0, [(nat_lit 0, (.ofNat (nat_lit 0))), (nat_lit 0, (.ofNat (nat_lit 41)))]), (nat_lit 6, nat_lit 0, [(nat_lit 2, (.ofNat (nat_lit 0))), (nat_lit 0, (.ofNat (nat_lit 4)))]), (nat_lit 8, nat_lit 6, [(nat_lit 1, (.ofNat (nat_lit 0)))])],
  [(nat_lit 13, nat_lit 1, [(nat_lit 0, (.ofNat (nat_lit 1)))]), (nat_lit 6, nat_lit 0, [(nat_lit 7, (.ofNat (nat_lit 0))), (nat_lit 0, (.ofNat (nat_lit 4)))]), (nat_lit 8, nat_lit 6, [(nat_lit 6, (.ofNat (nat_lit 0)))]), (nat_lit 4, nat_lit 0, [(nat_lit 22, (.ofNat (nat_lit 0))), (nat_lit 5, (.ofNat (nat_lit 0)))]), (nat_lit 0, nat_lit 2, [(nat_lit 4, (.ofNat (nat_lit 0))), (nat_lit 0, (.ofNat (nat_lit 1)))]), (nat_lit 4, nat_lit 0, [(nat_lit 0, (.ofNat (nat_lit 0))), (nat_lit 0, (.ofNat (nat_lit 41)))]), (nat_lit 6, nat_lit 4, [(nat_lit 3, (.ofNat (nat_lit 0))), (nat_lit 0, (.ofNat (nat_lit 0)))]), (nat_lit 4, nat_lit 0, [(nat_lit 0, (.ofNat (nat_lit 0))), (nat_lit 0, (.ofNat (nat_lit 41)))]), (nat_lit 6, nat_lit 0, [(nat_lit 2, (.ofNat (nat_lit 0))), (nat_lit 0, (.ofNat (nat_lit 4)))]), (nat_lit 8, nat_lit 6, [(nat_lit 1, (.ofNat (nat_lit 0)))])],
  [(nat_lit 11, nat_lit 0, [(nat_lit 8, (.ofNat (nat_lit 0)))]), (nat_lit 8, nat_lit 1, [(nat_lit 0, (.ofNat (nat_lit 1)))]), (nat_lit 6, nat_lit 0, [(nat_lit 7, (.ofNat (nat_lit 0))), (nat_lit 0, (.ofNat (nat_lit 4)))]), (nat_lit 8, nat_lit 6, [(nat_lit 6, (.ofNat (nat_lit 0)))]), (nat_lit 4, nat_lit 0, [(nat_lit 22, (.ofNat (nat_lit 0))), (nat_lit 5, (.ofNat (nat_lit 0)))]), (nat_lit 0, nat_lit 2, [(nat_lit 4, (.ofNat (nat_lit 0))), (nat_lit 0, (.ofNat (nat_lit 1)))]), (nat_lit 4, nat_lit 0, [(nat_lit 0, (.ofNat (nat_lit 0))), (nat_lit 0, (.ofNat (nat_lit 41)))]), (nat_lit 6, nat_lit 4, [(nat_lit 3, (.ofNat (nat_lit 0))), (nat_lit 0, (.ofNat (nat_lit 0)))]), (nat_lit 4, nat_lit 0, [(nat_lit 0, (.ofNat (nat_lit 0))), (nat_lit 0, (.ofNat (nat_lit 41)))]), (nat_lit 6, nat_lit 0, [(nat_lit 2, (.ofNat (nat_lit 0))), (nat_lit 0, (.ofNat (nat_lit 4)))]), (nat_lit 8, nat_lit 6, [(nat_lit 1, (.ofNat (nat_lit 0)))])]]
def zFle_signs_2 : List (List zK) := [[(nat_lit 7, nat_lit 0, [(nat_lit 5, (.ofNat (nat_lit 0))), (nat_lit 0, (.ofNat (nat_lit 96)))]), (nat_lit 0, nat_lit 2, [(nat_lit 4, (.ofNat (nat_lit 0))), (nat_lit 0, (.ofNat (nat_lit 1)))]), (nat_lit 4, nat_lit 0, [(nat_lit 0, (.ofNat (nat_lit 0))), (nat_lit 0, (.ofNat (nat_lit 41)))]), (nat_lit 6, nat_lit 4, [(nat_lit 3, (.ofNat (nat_lit 0))), (nat_lit 0, (.ofNat (nat_lit 0)))]), (nat_lit 4, nat_lit 0, [(nat_lit 0, (.ofNat (nat_lit 0))), (nat_lit 0, (.ofNat (nat_lit 41)))]), (nat_lit 6, nat_lit 0, [(nat_lit 2, (.ofNat (nat_lit 0))), (nat_lit 0, (.ofNat (nat_lit 4)))]), (nat_lit 8, nat_lit 6, [(nat_lit 1, (.ofNat (nat_lit 0)))])]]
def zDle_signs_3 : List (List zK) := [[(nat_lit 7, nat_lit 2, [(nat_lit 0, (.ofNat (nat_lit 1)))]), (nat_lit 8, nat_lit 5, [(nat_lit 1, (.ofNat (nat_lit 0)))]), (nat_lit 6, nat_lit 1, [(nat_lit 2, (.ofNat (nat_lit 0))), (nat_lit 0, (.ofNat (nat_lit 0)))]), (nat_lit 8, nat_lit 4, [])],
  [(nat_lit 7, nat_lit 2, [(nat_lit 0, (.ofNat (nat_lit 0)))]), (nat_lit 6, nat_lit 3, [(nat_lit 4, (.ofNat (nat_lit 0))), (nat_lit 0, (.ofNat (nat_lit 3)))]), (nat_lit 8, nat_lit 6, [(nat_lit 1, (.ofNat (nat_lit 0)))]), (nat_lit 5, nat_lit 1, [(nat_lit 0, (.ofNat (nat_lit 0))), (nat_lit 0, (.ofNat (nat_lit 45))), (nat_lit 0, (.ofNat (nat_lit 1)))]), (nat_lit 8, nat_lit 5, [(nat_lit 1, (.ofNat (nat_lit 0)))]), (nat_lit 6, nat_lit 1, [(nat_lit 2, (.ofNat (nat_lit 0))), (nat_lit 0, (.ofNat (nat_lit 0)))]), (nat_lit 8, nat_lit 4, [])],
  [(nat_lit 7, nat_lit 2, [(nat_lit 0, (.ofNat (nat_lit 1)))]), (nat_lit 8, nat_lit 2, []), (nat_lit 5, nat_lit 1, [(nat_lit 0, (.ofNat (nat_lit 0))), (nat_lit 0, (.ofNat (nat_lit 46))), (nat_lit 0, (.ofNat (nat_lit 0)))]), (nat_lit 6, nat_lit 3, [(nat_lit 4, (.ofNat (nat_lit 0))), (nat_lit 0, (.ofNat (nat_lit 3)))]), (nat_lit 8, nat_lit 6, [(nat_lit 1, (.ofNat (nat_lit 0)))]), (nat_lit 5, nat_lit 1, [(nat_lit 0, (.ofNat (nat_lit 0))), (nat_lit 0, (.ofNat (nat_lit 45))), (nat_lit 0, (.ofNat (nat_lit 1)))]), (nat_lit 8, nat_lit 5, [(nat_lit 1, (.ofNat (nat_lit 0)))]), (nat_lit 6, nat_lit 1, [(nat_lit 2, (.ofNat (nat_lit 0))), (nat_lit 0, (.ofNat (nat_lit 0)))]), (nat_lit 8, nat_lit 4, [])],
  [(nat_lit 7, nat_lit 2, [(nat_lit 0, (.ofNat (nat_lit 1)))]), (nat_lit 6, nat_lit 2, [(nat_lit 4, (.ofNat (nat_lit 0))), (nat_lit 0, (.ofNat (nat_lit 3)))]), (nat_lit 8, nat_lit 6, [(nat_lit 1, (.ofNat (nat_lit 0)))]), (nat_lit 5, nat_lit 1, [(nat_lit 0, (.ofNat (nat_lit 0))), (nat_lit 0, (.ofNat (nat_lit 45))), (nat_lit 0, (.ofNat (nat_lit 1)))]), (nat_lit 8, nat_lit 5, [(nat_lit 1, (.ofNat (nat_lit 0)))]), (nat_lit 6, nat_lit 1, [(nat_lit 2, (.ofNat (nat_lit 0))), (nat_lit 0, (.ofNat (nat_lit 0)))]), (nat_lit 8, nat_lit 4, [])],
  [(nat_lit 7, nat_lit 2, [(nat_lit 0, (.ofNat (nat_lit 1)))]), (nat_lit 8, nat_lit 2, []), (nat_lit 5, nat_lit 1, [(nat_lit 0, (.ofNat (nat_lit 0))), (nat_lit 0, (.ofNat (nat_lit 46))), (nat_lit 0, (.ofNat (nat_lit 1)))]), (nat_lit 6, nat_lit 2, [(nat_lit 4, (.ofNat (nat_lit 0))), (nat_lit 0, (.ofNat (nat_lit 3)))]), (nat_lit 8, nat_lit 6, [(nat_lit 1, (.ofNat (nat_lit 0)))]), (nat_lit 5, nat_lit 1, [(nat_lit 0, (.ofNat (nat_lit 0))), (nat_lit 0, (.ofNat (nat_lit 45))), (nat_lit 0, (.ofNat (nat_lit 1)))]), (nat_lit 8, nat_lit 5, [(nat_lit 1, (.ofNat (nat_lit 0)))]), (nat_lit 6, nat_lit 1, [(nat_lit 2, (.ofNat (nat_lit 0))), (nat_lit 0, (.ofNat (nat_lit 0)))]), (nat_lit 8, nat_lit 4, [])],
  [(nat_lit 7, nat_lit 2, [(nat_lit 0, (.ofNat (nat_lit 0)))]), (nat_lit 6, nat_lit 0, [(nat_lit 2, (.ofNat (nat_lit 0))), (nat_lit 0, (.ofNat (nat_lit 0)))]), (nat_lit 8, nat_lit 4, [])]]
def zEle_signs_3 : List (List zK) := [[(nat_lit 13, nat_lit 4, [])],
  [(nat_lit 13, nat_lit 5, [(nat_lit 1, (.ofNat (nat_lit 0)))]), (nat_lit 6, nat_lit 1, [(nat_lit 2, (.ofNat (nat_lit 0))), (nat_lit 0, (.ofNat (nat_lit 0)))]), (nat_lit 8, nat_lit 4, [])],
  [(nat_lit 13, nat_lit 6, [(nat_lit 1, (.ofNat (nat_lit 0)))]), (nat_lit 5, nat_lit 1, [(nat_lit 0, (.ofNat (nat_lit 0))), (nat_lit 0, (.ofNat (nat_lit 45))), (nat_lit 0, (.ofNat (nat_lit 1)))]), (nat_lit 8, nat_lit 5, [(nat_lit 1, (.ofNat (nat_lit 0)))]), (nat_lit 6, nat_lit 1, [(nat_lit 2, (.ofNat (nat_lit 0))), (nat_lit 0, (.ofNat (nat_lit 0)))]), (nat_lit 8, nat_lit 4, [])],
  [(nat_lit 13, nat_lit 2, []), (nat_lit 5, nat_lit 1, [(nat_lit 0, (.ofNat (nat_lit 0))), (nat_lit 0, (.ofNat (nat_lit 46))), (nat_lit 0, (.ofNat (nat_lit 0)))]), (nat_lit 6, nat_lit 3, [(nat_lit 4, (.ofNat (nat_lit 0))), (nat_lit 0, (.ofNat (nat_lit 3)))]), (nat_lit 8, nat_lit 6, [(nat_lit 1, (.ofNat (nat_lit 0)))]), (nat_lit 5, nat_lit 1, [(nat_lit 0, (.ofNat (nat_lit 0))), (nat_lit 0, (.ofNat (nat_lit 45))), (nat_lit 0, (.ofNat (nat_lit 1)))]), (nat_lit 8, nat_lit 5, [(nat_lit 1, (.ofNat (nat_lit 0)))]), (nat_lit 6, nat_lit 1, [(nat_lit 2, (.ofNat (nat_lit 0))), (nat_lit 0, (.ofNat (nat_lit 0)))]), (nat_lit 8, nat_lit 4, [])],
  [(nat_lit 11, nat_lit 0, [(nat_lit 0, (.ofNat (nat_lit 1)))]), (nat_lit 8, nat_lit 2, []), (nat_lit 5, nat_lit 1, [(nat_lit 0, (.ofNat (nat_lit 0))), (nat_lit 0, (.ofNat (nat_lit 46))), (nat_lit 0, (.ofNat (nat_lit 0)))]), (nat_lit 6, nat_lit 3, [(nat_lit 4, (.ofNat (nat_lit 0))), (nat_lit 0, (.ofNat (nat_lit 3)))]), (nat_lit 8, nat_lit 6, [(nat_lit 1, (.ofNat (nat_lit 0)))]), (nat_lit 5, nat_lit 1, [(nat_lit 0, (.ofNat (nat_lit 0))), (nat_lit 0, (.ofNat (nat_lit 45))), (nat_lit 0, (.ofNat (nat_lit 1)))]), (nat_lit 8, nat_lit 5, [(nat_lit 1, (.ofNat (nat_lit 0)))]), (nat_lit 6, nat_lit 1, [(nat_lit 2, (.ofNat (nat_lit 0))), (nat_lit 0, (.ofNat (nat_lit 0)))]), (nat_lit 8, nat_lit 4, [])],
  [(nat_lit 13, nat_lit 2, []), (nat_lit 5, nat_lit 1, [(nat_lit 0, (.ofNat (nat_lit 0))), (nat_lit 0, (.ofNat (nat_lit 46))), (nat_lit 0, (.ofNat (nat_lit 1)))]), (nat_lit 6, nat_lit 2, [(nat_lit 4, (.ofNat (nat_lit 0))), (nat_lit 0, (.ofNat (nat_lit 3)))]), (nat_lit 8, nat_lit 6, [(nat_lit 1, (.ofNat (nat_lit 0)))]), (nat_lit 5, nat_lit 1, [(nat_lit 0, (.ofNat (nat_lit 0))), (nat_lit 0, (.ofNat (nat_lit 45))), (nat_lit 0, (.ofNat (nat_lit 1)))]), (nat_lit 8, nat_lit 5, [(nat_lit 1, (.ofNat (nat_lit 0)))]), (nat_lit 6, nat_lit 1, [(nat_lit 2, (.ofNat (nat_lit 0))), (nat_lit 0, (.ofNat (nat_lit 0)))]), (nat_lit 8, nat_lit 4, [])],
  [(nat_lit 11, nat_lit 0, [(nat_lit 0, (.ofNat (nat_lit 1)))]), (nat_lit 8, nat_lit 2, []), (nat_lit 5, nat_lit 1, [(nat_lit 0, (.ofNat (nat_lit 0))), (nat_lit 0, (.ofNat (nat_lit 46))), (nat_lit 0, (.ofNat (nat_lit 1)))]), (nat_lit 6, nat_lit 2, [(nat_lit 4, (.ofNat (nat_lit 0))), (nat_lit 0, (.ofNat (nat_lit 3)))]), (nat_lit 8, nat_lit 6, [(nat_lit 1, (.ofNat (nat_lit 0)))]), (nat_lit 5, nat_lit 1, [(nat_lit 0, (.ofNat (nat_lit 0))), (nat_lit 0, (.ofNat (nat_lit 45))), (nat_lit 0, (.ofNat (nat_lit 1)))]), (nat_lit 8, nat_lit 5, [(nat_lit 1, (.ofNat (nat_lit 0)))]), (nat_lit 6, nat_lit 1, [(nat_lit 2, (.ofNat (nat_lit 0))), (nat_lit 0, (.ofNat (nat_lit 0)))]), (nat_lit 8, nat_lit 4, [])],
  [(nat_lit 11, nat_lit 0, [(nat_lit 0, (.ofNat (nat_lit 0)))]), (nat_lit 6, nat_lit 0, [(nat_lit 2, (.ofNat (nat_lit 0))), (nat_lit 0, (.ofNat (nat_lit 0)))]), (nat_lit 8, nat_lit 4, [])]]
def zFle_signs_3 : List (List zK) := []
set_option maxHeartbeats 8000000 in
theorem zle_signs_o0 {ro : Nat → List Int32} (η : zE) (hp : sP wl_le zTr zPle_signs [] η) (hpp : pPle_signs [] η) : ((gC2 wl_le [(nat_lit 0, zPle_isSign, zOle_isSign, zMle_isSign), (nat_lit 1, zPle_wrong, zOle_wrong, zMle_wrong), (nat_lit 2, zPle_token, zOle_token, zMle_token), (nat_lit 3, zPle_isKey, zOle_isKey, zMle_isKey), (nat_lit 4, zPle_isCounted, zOle_isCounted, zMle_isCounted), (nat_lit 5, zPle_waitsFor, zOle_waitsFor, zMle_waitsFor), (nat_lit 6, zPle_rank, zOle_rank, zMle_rank), (nat_lit 7, zPle_bind, zOle_bind, zMle_bind)] pCle_signs qCle_signs) 0).1 [41] η := by
  have hw : η 0 45 = 0 := hpp.2.1
  have hr1 : 1 ≤ η 0 19 := hpp.2.2
  have bd43 : (0 : Int) ≤ η 0 43 ∧ η 0 43 ≤ 8 := wf_ok (a := 43) (b := 43) (z := (0, 8)) hp.1 (by decide +kernel) (Nat.le_refl _) (Nat.le_refl _)
  have bd44 : (0 : Int) ≤ η 0 44 ∧ η 0 44 ≤ 64 := wf_ok (a := 44) (b := 44) (z := (0, 64)) hp.1 (by decide +kernel) (Nat.le_refl _) (Nat.le_refl _)
  have bd19 : (0 : Int) ≤ η 0 19 ∧ η 0 19 ≤ 64 := wf_ok (a := 19) (b := 19) (z := (0, 64)) hp.1 (by decide +kernel) (Nat.le_refl _) (Nat.le_refl _)
  have fmE : zFm zMle_signs η η := zFm_rf
  have fr22_0 : ∀ j, η 22 j = η 22 j := fun _ => rfl
  have fr22 : ∀ j, η 22 j = η 22 j := fun _ => rfl
  have f0_41 : η 0 41 = η 0 41 := rfl
  have w0_0_43 : (0 : Int) ≤ η 0 43 ∧ η 0 43 ≤ 8 := wf_ok (a := 43) (b := 43) (z := (0, 8)) hp.1 (by decide +kernel) (Nat.le_refl _) (Nat.le_refl _)
  have f0_43 : η 0 43 = η 0 43 := rfl
  have f0_42 : η 0 42 = η 0 42 := rfl
  have f0_45 : η 0 45 = η 0 45 := rfl
  have w0_0_19 : (0 : Int) ≤ η 0 19 ∧ η 0 19 ≤ 64 := wf_ok (a := 19) (b := 19) (z := (0, 64)) hp.1 (by decide +kernel) (Nat.le_refl _) (Nat.le_refl _)
  have f0_19 : η 0 19 = η 0 19 := rfl
  have w0_0_44 : (0 : Int) ≤ η 0 44 ∧ η 0 44 ≤ 64 := wf_ok (a := 44) (b := 44) (z := (0, 64)) hp.1 (by decide +kernel) (Nat.le_refl _) (Nat.le_refl _)
  have f0_44 : η 0 44 = η 0 44 := rfl
  have w0_0_7 : (0 : Int) ≤ η 0 7 ∧ η 0 7 ≤ 700 := wf_ok (a := 7) (b := 7) (z := (0, 700)) hp.1 (by decide +kernel) (Nat.le_refl _) (Nat.le_refl _)
  have f0_7 : η 0 7 = η 0 7 := rfl
  have w0_0_6 : (0 : Int) ≤ η 0 6 ∧ η 0 6 ≤ 700 := wf_ok (a := 6) (b := 6) (z := (0, 700)) hp.1 (by decide +kernel) (Nat.le_refl _) (Nat.le_refl _)
  have f0_6 : η 0 6 = η 0 6 := rfl
  have w0_0_8 : (0 : Int) ≤ η 0 8 ∧ η 0 8 ≤ 6 := wf_ok (a := 8) (b := 8) (z := (0, 6)) hp.1 (by decide +kernel) (Nat.le_refl _) (Nat.le_refl _)
  have f0_8 : η 0 8 = η 0 8 := rfl
  have wbE : wB wl_le zTr η := hp.1
  
  have I0 : H_l 0 0 0 η := hpp.1
  exact I0
set_option maxHeartbeats 8000000 in
theorem zle_signs_o1 {ro : Nat → List Int32} (η : zE) (hp : sP wl_le zTr zPle_signs [] η) (hpp : pPle_signs [] η) : ∀ (x1 : Int) (η1 : zE), ((gC2 wl_le [(nat_lit 0, zPle_isSign, zOle_isSign, zMle_isSign), (nat_lit 1, zPle_wrong, zOle_wrong, zMle_wrong), (nat_lit 2, zPle_token, zOle_token, zMle_token), (nat_lit 3, zPle_isKey, zOle_isKey, zMle_isKey), (nat_lit 4, zPle_isCounted, zOle_isCounted, zMle_isCounted), (nat_lit 5, zPle_waitsFor, zOle_waitsFor, zMle_waitsFor), (nat_lit 6, zPle_rank, zOle_rank, zMle_rank), (nat_lit 7, zPle_bind, zOle_bind, zMle_bind)] pCle_signs qCle_signs) 0).2 [41] η x1 η1 → (x1 = 0) → (iCle_signs [] η) 0 [] η1 := by
  intro x1 η1 h1 c1
  have y1 : fQle_isSign [41] η x1 η1 := h1.2.2
  have k1 : sQ wl_le zTr zOle_isSign zMle_isSign [41] η x1 η1 ∧ oQle_isSign [41] η x1 η1 := ⟨h1.1, h1.2.1⟩
  refine yj_a ?_ ?_
  · have hw : η 0 45 = 0 := hpp.2.1
    have hr1 : 1 ≤ η 0 19 := hpp.2.2
    have bd43 : (0 : Int) ≤ η 0 43 ∧ η 0 43 ≤ 8 := wf_ok (a := 43) (b := 43) (z := (0, 8)) hp.1 (by decide +kernel) (Nat.le_refl _) (Nat.le_refl _)
    have bd44 : (0 : Int) ≤ η 0 44 ∧ η 0 44 ≤ 64 := wf_ok (a := 44) (b := 44) (z := (0, 64)) hp.1 (by decide +kernel) (Nat.le_refl _) (Nat.le_refl _)
    have bd19 : (0 : Int) ≤ η 0 19 ∧ η 0 19 ≤ 64 := wf_ok (a := 19) (b := 19) (z := (0, 64)) hp.1 (by decide +kernel) (Nat.le_refl _) (Nat.le_refl _)
    have y1 : fQle_isSign [41] η x1 η1 := h1.2.2
    have k1 : sQ wl_le zTr zOle_isSign zMle_isSign [41] η x1 η1 ∧ oQle_isSign [41] η x1 η1 := ⟨h1.1, h1.2.1⟩
    have w0_0_8 : (0 : Int) ≤ η 0 8 ∧ η 0 8 ≤ 6 := wf_ok (a := 8) (b := 8) (z := (0, 6)) hp.1 (by decide +kernel) (Nat.le_refl _) (Nat.le_refl _)
    have c0_0_8 : η 0 8 = η 0 8 := rfl
    have wb1 : wB wl_le zTr η1 := k1.1.1
    have bx1 : (0 : Int) ≤ x1 ∧ x1 ≤ 1 := k1.1.2.1
    have fm1 : zFm zMle_signs η η1 := zFm_tr2 zFm_rf k1.1.2.2.2.1 (by decide +kernel)
    have fmE : zFm zMle_signs η η1 := fm1
    have fr22_0 : ∀ j, η 22 j = η 22 j := fun _ => rfl
    have v1 : ∀ j, η1 22 j = η 22 j := fun j => k1.1.2.2.2.1 22 _ (zinr_not (by decide +kernel))
    have fr22_1 : ∀ j, η1 22 j = η 22 j := v1
    have fr22 : ∀ j, η1 22 j = η 22 j := v1
    have v3 : zEq (η1 0 41) (η 0 41) := (k1.1.2.2.2.1 0 41 (by decide +kernel)).trans rfl
    have f0_41 : η1 0 41 = η 0 41 := v3
    have w0_0_43 : (0 : Int) ≤ η 0 43 ∧ η 0 43 ≤ 8 := wf_ok (a := 43) (b := 43) (z := (0, 8)) hp.1 (by decide +kernel) (Nat.le_refl _) (Nat.le_refl _)
    have v5 : zEq (η1 0 43) (η 0 43) := (k1.1.2.2.2.1 0 43 (by decide +kernel)).trans rfl
    have f0_43 : η1 0 43 = η 0 43 := v5
    have v7 : zEq (η1 0 42) (η 0 42) := (k1.1.2.2.2.1 0 42 (by decide +kernel)).trans rfl
    have f0_42 : η1 0 42 = η 0 42 := v7
    have v9 : zEq (η1 0 45) (η 0 45) := (k1.1.2.2.2.1 0 45 (by decide +kernel)).trans rfl
    have f0_45 : η1 0 45 = η 0 45 := v9
    have w0_0_19 : (0 : Int) ≤ η 0 19 ∧ η 0 19 ≤ 64 := wf_ok (a := 19) (b := 19) (z := (0, 64)) hp.1 (by decide +kernel) (Nat.le_refl _) (Nat.le_refl _)
    have v11 : zEq (η1 0 19) (η 0 19) := (k1.1.2.2.2.1 0 19 (by decide +kernel)).trans rfl
    have f0_19 : η1 0 19 = η 0 19 := v11
    have w0_0_44 : (0 : Int) ≤ η 0 44 ∧ η 0 44 ≤ 64 := wf_ok (a := 44) (b := 44) (z := (0, 64)) hp.1 (by decide +kernel) (Nat.le_refl _) (Nat.le_refl _)
    have v13 : zEq (η1 0 44) (η 0 44) := (k1.1.2.2.2.1 0 44 (by decide +kernel)).trans rfl
    have f0_44 : η1 0 44 = η 0 44 := v13
    have w0_0_7 : (0 : Int) ≤ η 0 7 ∧ η 0 7 ≤ 700 := wf_ok (a := 7) (b := 7) (z := (0, 700)) hp.1 (by decide +kernel) (Nat.le_refl _) (Nat.le_refl _)
    have v15 : zEq (η1 0 7) (η 0 7) := (k1.1.2.2.2.1 0 7 (by decide +kernel)).trans rfl
    have f0_7 : η1 0 7 = η 0 7 := v15
    have w0_0_6 : (0 : Int) ≤ η 0 6 ∧ η 0 6 ≤ 700 := wf_ok (a := 6) (b := 6) (z := (0, 700)) hp.1 (by decide +kernel) (Nat.le_refl _) (Nat.le_refl _)
    have v17 : zEq (η1 0 6) (η 0 6) := (k1.1.2.2.2.1 0 6 (by decide +kernel)).trans rfl
    have f0_6 : η1 0 6 = η 0 6 := v17
    have v18 : zEq (η1 0 8) (η 0 8) := (k1.1.2.2.2.1 0 8 (by decide +kernel)).trans rfl
    have f0_8 : η1 0 8 = η 0 8 := v18
    have wbE : wB wl_le zTr η1 := wb1
    
    have I0 : H_l 0 0 0 η := hpp.1
    have I1 : H_l 0 0 0 η1 := k1.2.1
    exact ⟨I1, show η1 0 45 = 0 by apply Int.le_antisymm <;> omega, show 1 ≤ η1 0 19 by omega, show η1 0 7 = η 0 7 by apply Int.le_antisymm <;> omega, show η1 0 6 = η 0 6 by apply Int.le_antisymm <;> omega, show η1 0 8 = η 0 8 by apply Int.le_antisymm <;> omega⟩
  · show yq_sgn η = yq_sgB (yq_sk η1) η1
    obtain ⟨a1, b1⟩ : x1 = (yq_isS 41 η) ∧ η1 = η := y1
    clear k1 h1
    subst a1; subst b1
    unfold yq_sgn
    (repeat' split) <;> first | (exfalso; omega) | exact ⟨rfl, rfl⟩ | rfl
set_option maxHeartbeats 8000000 in
theorem zle_signs_o2 {ro : Nat → List Int32} (η : zE) (hp : sP wl_le zTr zPle_signs [] η) (hpp : pPle_signs [] η) : ∀ (x1 : Int) (η1 : zE), ((gC2 wl_le [(nat_lit 0, zPle_isSign, zOle_isSign, zMle_isSign), (nat_lit 1, zPle_wrong, zOle_wrong, zMle_wrong), (nat_lit 2, zPle_token, zOle_token, zMle_token), (nat_lit 3, zPle_isKey, zOle_isKey, zMle_isKey), (nat_lit 4, zPle_isCounted, zOle_isCounted, zMle_isCounted), (nat_lit 5, zPle_waitsFor, zOle_waitsFor, zMle_waitsFor), (nat_lit 6, zPle_rank, zOle_rank, zMle_rank), (nat_lit 7, zPle_bind, zOle_bind, zMle_bind)] pCle_signs qCle_signs) 0).2 [41] η x1 η1 → (¬ x1 = 0) → ∀ x2 : Int, x2 = η1 0 (Int.toNat 43) → zok 0 x2 → (x2 ≤ 0) → (iCle_signs [] η) 0 [] η1 := by
  intro x1 η1 h1 c1 x2 e2 r2 c2
  have y1 : fQle_isSign [41] η x1 η1 := h1.2.2
  have k1 : sQ wl_le zTr zOle_isSign zMle_isSign [41] η x1 η1 ∧ oQle_isSign [41] η x1 η1 := ⟨h1.1, h1.2.1⟩
  refine yj_a ?_ ?_
  · have hw : η 0 45 = 0 := hpp.2.1
    have hr1 : 1 ≤ η 0 19 := hpp.2.2
    have bd43 : (0 : Int) ≤ η 0 43 ∧ η 0 43 ≤ 8 := wf_ok (a := 43) (b := 43) (z := (0, 8)) hp.1 (by decide +kernel) (Nat.le_refl _) (Nat.le_refl _)
    have bd44 : (0 : Int) ≤ η 0 44 ∧ η 0 44 ≤ 64 := wf_ok (a := 44) (b := 44) (z := (0, 64)) hp.1 (by decide +kernel) (Nat.le_refl _) (Nat.le_refl _)
    have bd19 : (0 : Int) ≤ η 0 19 ∧ η 0 19 ≤ 64 := wf_ok (a := 19) (b := 19) (z := (0, 64)) hp.1 (by decide +kernel) (Nat.le_refl _) (Nat.le_refl _)
    have y1 : fQle_isSign [41] η x1 η1 := h1.2.2
    have k1 : sQ wl_le zTr zOle_isSign zMle_isSign [41] η x1 η1 ∧ oQle_isSign [41] η x1 η1 := ⟨h1.1, h1.2.1⟩
    have w0_0_8 : (0 : Int) ≤ η 0 8 ∧ η 0 8 ≤ 6 := wf_ok (a := 8) (b := 8) (z := (0, 6)) hp.1 (by decide +kernel) (Nat.le_refl _) (Nat.le_refl _)
    have c0_0_8 : η 0 8 = η 0 8 := rfl
    have wb1 : wB wl_le zTr η1 := k1.1.1
    have bx1 : (0 : Int) ≤ x1 ∧ x1 ≤ 1 := k1.1.2.1
    have w0_0_43 : (0 : Int) ≤ η 0 43 ∧ η 0 43 ≤ 8 := wf_ok (a := 43) (b := 43) (z := (0, 8)) hp.1 (by decide +kernel) (Nat.le_refl _) (Nat.le_refl _)
    have v2 : zEq (η1 0 43) (η 0 43) := (k1.1.2.2.2.1 0 43 (by decide +kernel)).trans rfl
    replace e2 : x2 = η 0 43 := e2.trans v2
    have fm1 : zFm zMle_signs η η1 := zFm_tr2 zFm_rf k1.1.2.2.2.1 (by decide +kernel)
    have fmE : zFm zMle_signs η η1 := fm1
    have fr22_0 : ∀ j, η 22 j = η 22 j := fun _ => rfl
    have v3 : ∀ j, η1 22 j = η 22 j := fun j => k1.1.2.2.2.1 22 _ (zinr_not (by decide +kernel))
    have fr22_1 : ∀ j, η1 22 j = η 22 j := v3
    have fr22 : ∀ j, η1 22 j = η 22 j := v3
    have v5 : zEq (η1 0 41) (η 0 41) := (k1.1.2.2.2.1 0 41 (by decide +kernel)).trans rfl
    have f0_41 : η1 0 41 = η 0 41 := v5
    have f0_43 : η1 0 43 = η 0 43 := v2
    have v7 : zEq (η1 0 42) (η 0 42) := (k1.1.2.2.2.1 0 42 (by decide +kernel)).trans rfl
    have f0_42 : η1 0 42 = η 0 42 := v7
    have v9 : zEq (η1 0 45) (η 0 45) := (k1.1.2.2.2.1 0 45 (by decide +kernel)).trans rfl
    have f0_45 : η1 0 45 = η 0 45 := v9
    have w0_0_19 : (0 : Int) ≤ η 0 19 ∧ η 0 19 ≤ 64 := wf_ok (a := 19) (b := 19) (z := (0, 64)) hp.1 (by decide +kernel) (Nat.le_refl _) (Nat.le_refl _)
    have v11 : zEq (η1 0 19) (η 0 19) := (k1.1.2.2.2.1 0 19 (by decide +kernel)).trans rfl
    have f0_19 : η1 0 19 = η 0 19 := v11
    have w0_0_44 : (0 : Int) ≤ η 0 44 ∧ η 0 44 ≤ 64 := wf_ok (a := 44) (b := 44) (z := (0, 64)) hp.1 (by decide +kernel) (Nat.le_refl _) (Nat.le_refl _)
    have v13 : zEq (η1 0 44) (η 0 44) := (k1.1.2.2.2.1 0 44 (by decide +kernel)).trans rfl
    have f0_44 : η1 0 44 = η 0 44 := v13
    have w0_0_7 : (0 : Int) ≤ η 0 7 ∧ η 0 7 ≤ 700 := wf_ok (a := 7) (b := 7) (z := (0, 700)) hp.1 (by decide +kernel) (Nat.le_refl _) (Nat.le_refl _)
    have v15 : zEq (η1 0 7) (η 0 7) := (k1.1.2.2.2.1 0 7 (by decide +kernel)).trans rfl
    have f0_7 : η1 0 7 = η 0 7 := v15
    have w0_0_6 : (0 : Int) ≤ η 0 6 ∧ η 0 6 ≤ 700 := wf_ok (a := 6) (b := 6) (z := (0, 700)) hp.1 (by decide +kernel) (Nat.le_refl _) (Nat.le_refl _)
    have v17 : zEq (η1 0 6) (η 0 6) := (k1.1.2.2.2.1 0 6 (by decide +kernel)).trans rfl
    have f0_6 : η1 0 6 = η 0 6 := v17
    have v18 : zEq (η1 0 8) (η 0 8) := (k1.1.2.2.2.1 0 8 (by decide +kernel)).trans rfl
    have f0_8 : η1 0 8 = η 0 8 := v18
    have wbE : wB wl_le zTr η1 := wb1
    
    have I0 : H_l 0 0 0 η := hpp.1
    have I1 : H_l 0 0 0 η1 := k1.2.1
    have qk1 : η 0 8 = 4 := k1.2.2 c1
    exact ⟨I1, show η1 0 45 = 0 by apply Int.le_antisymm <;> omega, show 1 ≤ η1 0 19 by omega, show η1 0 7 = η 0 7 by apply Int.le_antisymm <;> omega, show η1 0 6 = η 0 6 by apply Int.le_antisymm <;> omega, show η1 0 8 = η 0 8 by apply Int.le_antisymm <;> omega⟩
  · show yq_sgn η = yq_sgB (yq_sk η1) η1
    obtain ⟨a1, b1⟩ : x1 = (yq_isS 41 η) ∧ η1 = η := y1
    clear k1 h1
    have e2 : x2 = η1 0 43 := e2
    clear r2
    subst a1; subst b1
    subst e2
    unfold yq_sgn
    (repeat' split) <;> first | (exfalso; omega) | exact ⟨rfl, rfl⟩ | rfl
set_option maxHeartbeats 8000000 in
theorem zle_signs_o3 {ro : Nat → List Int32} (η : zE) (hp : sP wl_le zTr zPle_signs [] η) (hpp : pPle_signs [] η) : ∀ (x1 : Int) (η1 : zE), ((gC2 wl_le [(nat_lit 0, zPle_isSign, zOle_isSign, zMle_isSign), (nat_lit 1, zPle_wrong, zOle_wrong, zMle_wrong), (nat_lit 2, zPle_token, zOle_token, zMle_token), (nat_lit 3, zPle_isKey, zOle_isKey, zMle_isKey), (nat_lit 4, zPle_isCounted, zOle_isCounted, zMle_isCounted), (nat_lit 5, zPle_waitsFor, zOle_waitsFor, zMle_waitsFor), (nat_lit 6, zPle_rank, zOle_rank, zMle_rank), (nat_lit 7, zPle_bind, zOle_bind, zMle_bind)] pCle_signs qCle_signs) 0).2 [41] η x1 η1 → (¬ x1 = 0) → ∀ x2 : Int, x2 = η1 0 (Int.toNat 43) → zok 0 x2 → (0 < x2) → ((gC2 wl_le [(nat_lit 0, zPle_isSign, zOle_isSign, zMle_isSign), (nat_lit 1, zPle_wrong, zOle_wrong, zMle_wrong), (nat_lit 2, zPle_token, zOle_token, zMle_token), (nat_lit 3, zPle_isKey, zOle_isKey, zMle_isKey), (nat_lit 4, zPle_isCounted, zOle_isCounted, zMle_isCounted), (nat_lit 5, zPle_waitsFor, zOle_waitsFor, zMle_waitsFor), (nat_lit 6, zPle_rank, zOle_rank, zMle_rank), (nat_lit 7, zPle_bind, zOle_bind, zMle_bind)] pCle_signs qCle_signs) 7).1 [1] η1 := by
  have hw : η 0 45 = 0 := hpp.2.1
  have hr1 : 1 ≤ η 0 19 := hpp.2.2
  have bd43 : (0 : Int) ≤ η 0 43 ∧ η 0 43 ≤ 8 := wf_ok (a := 43) (b := 43) (z := (0, 8)) hp.1 (by decide +kernel) (Nat.le_refl _) (Nat.le_refl _)
  have bd44 : (0 : Int) ≤ η 0 44 ∧ η 0 44 ≤ 64 := wf_ok (a := 44) (b := 44) (z := (0, 64)) hp.1 (by decide +kernel) (Nat.le_refl _) (Nat.le_refl _)
  have bd19 : (0 : Int) ≤ η 0 19 ∧ η 0 19 ≤ 64 := wf_ok (a := 19) (b := 19) (z := (0, 64)) hp.1 (by decide +kernel) (Nat.le_refl _) (Nat.le_refl _)
  intro x1 η1 h1 c1 x2 e2 r2 c2
  have y1 : fQle_isSign [41] η x1 η1 := h1.2.2
  have k1 : sQ wl_le zTr zOle_isSign zMle_isSign [41] η x1 η1 ∧ oQle_isSign [41] η x1 η1 := ⟨h1.1, h1.2.1⟩
  have w0_0_8 : (0 : Int) ≤ η 0 8 ∧ η 0 8 ≤ 6 := wf_ok (a := 8) (b := 8) (z := (0, 6)) hp.1 (by decide +kernel) (Nat.le_refl _) (Nat.le_refl _)
  have c0_0_8 : η 0 8 = η 0 8 := rfl
  have wb1 : wB wl_le zTr η1 := k1.1.1
  have bx1 : (0 : Int) ≤ x1 ∧ x1 ≤ 1 := k1.1.2.1
  have w0_0_43 : (0 : Int) ≤ η 0 43 ∧ η 0 43 ≤ 8 := wf_ok (a := 43) (b := 43) (z := (0, 8)) hp.1 (by decide +kernel) (Nat.le_refl _) (Nat.le_refl _)
  have v2 : zEq (η1 0 43) (η 0 43) := (k1.1.2.2.2.1 0 43 (by decide +kernel)).trans rfl
  replace e2 : x2 = η 0 43 := e2.trans v2
  have fm1 : zFm zMle_signs η η1 := zFm_tr2 zFm_rf k1.1.2.2.2.1 (by decide +kernel)
  have fmE : zFm zMle_signs η η1 := fm1
  have fr22_0 : ∀ j, η 22 j = η 22 j := fun _ => rfl
  have v3 : ∀ j, η1 22 j = η 22 j := fun j => k1.1.2.2.2.1 22 _ (zinr_not (by decide +kernel))
  have fr22_1 : ∀ j, η1 22 j = η 22 j := v3
  have fr22 : ∀ j, η1 22 j = η 22 j := v3
  have v5 : zEq (η1 0 41) (η 0 41) := (k1.1.2.2.2.1 0 41 (by decide +kernel)).trans rfl
  have f0_41 : η1 0 41 = η 0 41 := v5
  have f0_43 : η1 0 43 = η 0 43 := v2
  have v7 : zEq (η1 0 42) (η 0 42) := (k1.1.2.2.2.1 0 42 (by decide +kernel)).trans rfl
  have f0_42 : η1 0 42 = η 0 42 := v7
  have v9 : zEq (η1 0 45) (η 0 45) := (k1.1.2.2.2.1 0 45 (by decide +kernel)).trans rfl
  have f0_45 : η1 0 45 = η 0 45 := v9
  have w0_0_19 : (0 : Int) ≤ η 0 19 ∧ η 0 19 ≤ 64 := wf_ok (a := 19) (b := 19) (z := (0, 64)) hp.1 (by decide +kernel) (Nat.le_refl _) (Nat.le_refl _)
  have v11 : zEq (η1 0 19) (η 0 19) := (k1.1.2.2.2.1 0 19 (by decide +kernel)).trans rfl
  have f0_19 : η1 0 19 = η 0 19 := v11
  have w0_0_44 : (0 : Int) ≤ η 0 44 ∧ η 0 44 ≤ 64 := wf_ok (a := 44) (b := 44) (z := (0, 64)) hp.1 (by decide +kernel) (Nat.le_refl _) (Nat.le_refl _)
  have v13 : zEq (η1 0 44) (η 0 44) := (k1.1.2.2.2.1 0 44 (by decide +kernel)).trans rfl
  have f0_44 : η1 0 44 = η 0 44 := v13
  have w0_0_7 : (0 : Int) ≤ η 0 7 ∧ η 0 7 ≤ 700 := wf_ok (a := 7) (b := 7) (z := (0, 700)) hp.1 (by decide +kernel) (Nat.le_refl _) (Nat.le_refl _)
  have v15 : zEq (η1 0 7) (η 0 7) := (k1.1.2.2.2.1 0 7 (by decide +kernel)).trans rfl
  have f0_7 : η1 0 7 = η 0 7 := v15
  have w0_0_6 : (0 : Int) ≤ η 0 6 ∧ η 0 6 ≤ 700 := wf_ok (a := 6) (b := 6) (z := (0, 700)) hp.1 (by decide +kernel) (Nat.le_refl _) (Nat.le_refl _)
  have v17 : zEq (η1 0 6) (η 0 6) := (k1.1.2.2.2.1 0 6 (by decide +kernel)).trans rfl
  have f0_6 : η1 0 6 = η 0 6 := v17
  have v18 : zEq (η1 0 8) (η 0 8) := (k1.1.2.2.2.1 0 8 (by decide +kernel)).trans rfl
  have f0_8 : η1 0 8 = η 0 8 := v18
  have wbE : wB wl_le zTr η1 := wb1
  
  have I0 : H_l 0 0 0 η := hpp.1
  have I1 : H_l 0 0 0 η1 := k1.2.1
  have qk1 : η 0 8 = 4 := k1.2.2 c1
  exact ⟨I1, show η1 0 45 = 0 by apply Int.le_antisymm <;> omega⟩
set_option maxHeartbeats 8000000 in
theorem zle_signs_o4 {ro : Nat → List Int32} (η : zE) (hp : sP wl_le zTr zPle_signs [] η) (hpp : pPle_signs [] η) : ∀ (x1 : Int) (η1 : zE), ((gC2 wl_le [(nat_lit 0, zPle_isSign, zOle_isSign, zMle_isSign), (nat_lit 1, zPle_wrong, zOle_wrong, zMle_wrong), (nat_lit 2, zPle_token, zOle_token, zMle_token), (nat_lit 3, zPle_isKey, zOle_isKey, zMle_isKey), (nat_lit 4, zPle_isCounted, zOle_isCounted, zMle_isCounted), (nat_lit 5, zPle_waitsFor, zOle_waitsFor, zMle_waitsFor), (nat_lit 6, zPle_rank, zOle_rank, zMle_rank), (nat_lit 7, zPle_bind, zOle_bind, zMle_bind)] pCle_signs qCle_signs) 0).2 [41] η x1 η1 → (¬ x1 = 0) → ∀ x2 : Int, x2 = η1 0 (Int.toNat 43) → zok 0 x2 → (0 < x2) → ∀ (x3 : Int) (η2 : zE), ((gC2 wl_le [(nat_lit 0, zPle_isSign, zOle_isSign, zMle_isSign), (nat_lit 1, zPle_wrong, zOle_wrong, zMle_wrong), (nat_lit 2, zPle_token, zOle_token, zMle_token), (nat_lit 3, zPle_isKey, zOle_isKey, zMle_isKey), (nat_lit 4, zPle_isCounted, zOle_isCounted, zMle_isCounted), (nat_lit 5, zPle_waitsFor, zOle_waitsFor, zMle_waitsFor), (nat_lit 6, zPle_rank, zOle_rank, zMle_rank), (nat_lit 7, zPle_bind, zOle_bind, zMle_bind)] pCle_signs qCle_signs) 7).2 [1] η1 x3 η2 → ∀ x4 : Int, x4 = η2 0 (Int.toNat 41) → zok 0 x4 → ∀ x5 : Int, x5 = zd 0 2 x4 1 → ∀ η3 : zE, η3 = zup η2 0 (Int.toNat 41) x5 → ∀ x6 : Int, x6 = η3 0 (Int.toNat 43) → zok 0 x6 → ∀ x7 : Int, x7 = zd 0 2 x6 1 → ∀ η4 : zE, η4 = zup η3 0 (Int.toNat 43) x7 → ((gC2 wl_le [(nat_lit 0, zPle_isSign, zOle_isSign, zMle_isSign), (nat_lit 1, zPle_wrong, zOle_wrong, zMle_wrong), (nat_lit 2, zPle_token, zOle_token, zMle_token), (nat_lit 3, zPle_isKey, zOle_isKey, zMle_isKey), (nat_lit 4, zPle_isCounted, zOle_isCounted, zMle_isCounted), (nat_lit 5, zPle_waitsFor, zOle_waitsFor, zMle_waitsFor), (nat_lit 6, zPle_rank, zOle_rank, zMle_rank), (nat_lit 7, zPle_bind, zOle_bind, zMle_bind)] pCle_signs qCle_signs) 2).1 [] η4 := by
  have hw : η 0 45 = 0 := hpp.2.1
  have hr1 : 1 ≤ η 0 19 := hpp.2.2
  have bd43 : (0 : Int) ≤ η 0 43 ∧ η 0 43 ≤ 8 := wf_ok (a := 43) (b := 43) (z := (0, 8)) hp.1 (by decide +kernel) (Nat.le_refl _) (Nat.le_refl _)
  have bd44 : (0 : Int) ≤ η 0 44 ∧ η 0 44 ≤ 64 := wf_ok (a := 44) (b := 44) (z := (0, 64)) hp.1 (by decide +kernel) (Nat.le_refl _) (Nat.le_refl _)
  have bd19 : (0 : Int) ≤ η 0 19 ∧ η 0 19 ≤ 64 := wf_ok (a := 19) (b := 19) (z := (0, 64)) hp.1 (by decide +kernel) (Nat.le_refl _) (Nat.le_refl _)
  intro x1 η1 h1 c1 x2 e2 r2 c2 x3 η2 h3 x4 e4 r4 x5 e5 η3 eη3 x6 e6 r6 x7 e7 η4 eη4
  replace e5 := zEq_i e5
  replace e7 := zEq_i e7
  have y1 : fQle_isSign [41] η x1 η1 := h1.2.2
  have k1 : sQ wl_le zTr zOle_isSign zMle_isSign [41] η x1 η1 ∧ oQle_isSign [41] η x1 η1 := ⟨h1.1, h1.2.1⟩
  have y3 : fQle_bind [1] η1 x3 η2 := h3.2.2
  have k3 : sQ wl_le zTr zOle_bind zMle_bind [1] η1 x3 η2 ∧ oQle_bind [1] η1 x3 η2 := ⟨h3.1, h3.2.1⟩
  have w0_0_8 : (0 : Int) ≤ η 0 8 ∧ η 0 8 ≤ 6 := wf_ok (a := 8) (b := 8) (z := (0, 6)) hp.1 (by decide +kernel) (Nat.le_refl _) (Nat.le_refl _)
  have c0_0_8 : η 0 8 = η 0 8 := rfl
  have wb1 : wB wl_le zTr η1 := k1.1.1
  have bx1 : (0 : Int) ≤ x1 ∧ x1 ≤ 1 := k1.1.2.1
  have w0_0_43 : (0 : Int) ≤ η 0 43 ∧ η 0 43 ≤ 8 := wf_ok (a := 43) (b := 43) (z := (0, 8)) hp.1 (by decide +kernel) (Nat.le_refl _) (Nat.le_refl _)
  have v2 : zEq (η1 0 43) (η 0 43) := (k1.1.2.2.2.1 0 43 (by decide +kernel)).trans rfl
  replace e2 : x2 = η 0 43 := e2.trans v2
  have v3 : zEq (η1 0 8) (η 0 8) := (k1.1.2.2.2.1 0 8 (by decide +kernel)).trans rfl
  have c1_0_8 : η1 0 8 = η 0 8 := v3
  have w0_0_19 : (0 : Int) ≤ η 0 19 ∧ η 0 19 ≤ 64 := wf_ok (a := 19) (b := 19) (z := (0, 64)) hp.1 (by decide +kernel) (Nat.le_refl _) (Nat.le_refl _)
  have v5 : zEq (η1 0 19) (η 0 19) := (k1.1.2.2.2.1 0 19 (by decide +kernel)).trans rfl
  have c1_0_19 : η1 0 19 = η 0 19 := v5
  have wb2 : wB wl_le zTr η2 := k3.1.1
  have bx3 : (0 : Int) ≤ x3 ∧ x3 ≤ 0 := k3.1.2.1
  have v6 : zEq (η2 0 43) (η 0 43) := (k3.1.2.2.2.1 0 43 (by decide +kernel)).trans v2
  have pb2 : η2 0 43 = η 0 43 := v6
  have pw2 : 1 ≤ η2 0 41 ∧ η2 22 (η2 0 41 - 1).toNat ≤ 1 := by
    obtain ⟨j1, j2, j3, j4⟩ := k3.2.1.2
    rcases k3.2.2.1 rfl with h | h
    · exfalso
      rw [h] at j2
      have : cz_l η2 (Int.toNat 0) = 0 := rfl
      omega
    · refine ⟨?_, h⟩
      by_cases q : η2 0 41 = 0
      · exfalso
        rw [q] at j2
        have : cz_l η2 (Int.toNat 0) = 0 := rfl
        omega
      · omega
  have pq2 : η2 0 41 ≤ 96 := by
    obtain ⟨j1, j2, j3, j4⟩ := k3.2.1.2
    have b1 : (0 : Int) ≤ η2 0 44 ∧ η2 0 44 ≤ 64 := wf_ok (a := 44) (b := 44) (z := (0, 64)) k3.1.1 (by decide +kernel) (Nat.le_refl _) (Nat.le_refl _)
    have b2 : (0 : Int) ≤ η2 0 43 ∧ η2 0 43 ≤ 8 := wf_ok (a := 43) (b := 43) (z := (0, 8)) k3.1.1 (by decide +kernel) (Nat.le_refl _) (Nat.le_refl _)
    have b3 : (0 : Int) ≤ η2 0 19 ∧ η2 0 19 ≤ 64 := wf_ok (a := 19) (b := 19) (z := (0, 64)) k3.1.1 (by decide +kernel) (Nat.le_refl _) (Nat.le_refl _)
    omega
  replace e4 : x4 = η2 0 41 := e4
  replace r4 : -2147483648 ≤ x4 ∧ x4 ≤ 2147483647 := r4
  first
  | replace e5 : x5 = x4 - 1 := zd_s2 (zEq_o e5) (by clear e5; exact ⟨by omega, by omega⟩)
  | clear e5
  have c2_0_41 : η2 0 41 = η2 0 41 := rfl
  have wb3 : wB wl_le zTr η3 := by rw [eη3]; exact wk_ok (a := 41) (b := 41) (z := ((-2147483648), 2147483647)) zTr_k (GR := []) wb2 (by decide +kernel) (by decide) (by decide) (show ((-2147483648) : Int) ≤ x5 by omega) (show x5 ≤ (2147483647 : Int) by omega)
  have v8 : zEq (η3 0 43) (η 0 43) := by rw [eη3]; exact (zup_ne (fun _ e => absurd e (by decide))).trans v6
  replace e6 : x6 = η 0 43 := e6.trans v8
  first
  | replace e7 : x7 = x6 - 1 := zd_s2 (zEq_o e7) (by clear e7; exact ⟨by omega, by omega⟩)
  | clear e7
  have c3_0_43 : η3 0 43 = η 0 43 := v8
  have wb4 : wB wl_le zTr η4 := by rw [eη4]; exact wk_ok (a := 43) (b := 43) (z := (0, 8)) zTr_k (GR := []) wb3 (by decide +kernel) (by decide) (by decide) (show (0 : Int) ≤ x7 by omega) (show x7 ≤ (8 : Int) by omega)
  have fm1 : zFm zMle_signs η η1 := zFm_tr2 zFm_rf k1.1.2.2.2.1 (by decide +kernel)
  have fm2 : zFm zMle_signs η η2 := zFm_tr2 fm1 k3.1.2.2.2.1 (by decide +kernel)
  have fm3 : zFm zMle_signs η η3 := by rw [eη3]; exact zFm_up fm2 rfl
  have fm4 : zFm zMle_signs η η4 := by rw [eη4]; exact zFm_up fm3 rfl
  have fmE : zFm zMle_signs η η4 := fm4
  have fr22_0 : ∀ j, η 22 j = η 22 j := fun _ => rfl
  have v9 : ∀ j, η1 22 j = η 22 j := fun j => k1.1.2.2.2.1 22 _ (zinr_not (by decide +kernel))
  have fr22_1 : ∀ j, η1 22 j = η 22 j := v9
  have v10 : ∀ j, η2 22 j = η 22 j := fun j => (k3.1.2.2.2.1 22 _ (zinr_not (by decide +kernel))).trans (v9 j)
  have fr22_2 : ∀ j, η2 22 j = η 22 j := v10
  have v11 : ∀ j, η3 22 j = η 22 j := fun j => by rw [eη3]; exact (zup_ne (fun e _ => absurd e (by decide))).trans (v10 j)
  have fr22_3 : ∀ j, η3 22 j = η 22 j := v11
  have v12 : ∀ j, η4 22 j = η 22 j := fun j => by rw [eη4]; exact (zup_ne (fun e _ => absurd e (by decide))).trans (v11 j)
  have fr22_4 : ∀ j, η4 22 j = η 22 j := v12
  have fr22 : ∀ j, η4 22 j = η 22 j := v12
  have v13 : zEq (η3 0 41) (x5) := by rw [eη3]; exact zup_eq
  have v14 : zEq (η4 0 41) (x5) := by rw [eη4]; exact (zup_ne (fun _ e => absurd e (by decide))).trans v13
  have f0_41 : η4 0 41 = x5 := v14
  have v15 : zEq (η4 0 43) (x7) := by rw [eη4]; exact zup_eq
  have f0_43 : η4 0 43 = x7 := v15
  have v17 : zEq (η3 0 42) (η2 0 42) := by rw [eη3]; exact (zup_ne (fun _ e => absurd e (by decide))).trans rfl
  have v18 : zEq (η4 0 42) (η2 0 42) := by rw [eη4]; exact (zup_ne (fun _ e => absurd e (by decide))).trans v17
  have f0_42 : η4 0 42 = η2 0 42 := v18
  have v20 : zEq (η1 0 45) (η 0 45) := (k1.1.2.2.2.1 0 45 (by decide +kernel)).trans rfl
  have v21 : zEq (η2 0 45) (η 0 45) := (k3.1.2.2.2.1 0 45 (by decide +kernel)).trans v20
  have v22 : zEq (η3 0 45) (η 0 45) := by rw [eη3]; exact (zup_ne (fun _ e => absurd e (by decide))).trans v21
  have v23 : zEq (η4 0 45) (η 0 45) := by rw [eη4]; exact (zup_ne (fun _ e => absurd e (by decide))).trans v22
  have f0_45 : η4 0 45 = η 0 45 := v23
  have w2_0_19 : (0 : Int) ≤ η2 0 19 ∧ η2 0 19 ≤ 64 := wf_ok (a := 19) (b := 19) (z := (0, 64)) k3.1.1 (by decide +kernel) (Nat.le_refl _) (Nat.le_refl _)
  have v25 : zEq (η3 0 19) (η2 0 19) := by rw [eη3]; exact (zup_ne (fun _ e => absurd e (by decide))).trans rfl
  have v26 : zEq (η4 0 19) (η2 0 19) := by rw [eη4]; exact (zup_ne (fun _ e => absurd e (by decide))).trans v25
  have f0_19 : η4 0 19 = η2 0 19 := v26
  have w0_0_44 : (0 : Int) ≤ η 0 44 ∧ η 0 44 ≤ 64 := wf_ok (a := 44) (b := 44) (z := (0, 64)) hp.1 (by decide +kernel) (Nat.le_refl _) (Nat.le_refl _)
  have v28 : zEq (η1 0 44) (η 0 44) := (k1.1.2.2.2.1 0 44 (by decide +kernel)).trans rfl
  have v29 : zEq (η2 0 44) (η 0 44) := (k3.1.2.2.2.1 0 44 (by decide +kernel)).trans v28
  have v30 : zEq (η3 0 44) (η 0 44) := by rw [eη3]; exact (zup_ne (fun _ e => absurd e (by decide))).trans v29
  have v31 : zEq (η4 0 44) (η 0 44) := by rw [eη4]; exact (zup_ne (fun _ e => absurd e (by decide))).trans v30
  have f0_44 : η4 0 44 = η 0 44 := v31
  have w0_0_7 : (0 : Int) ≤ η 0 7 ∧ η 0 7 ≤ 700 := wf_ok (a := 7) (b := 7) (z := (0, 700)) hp.1 (by decide +kernel) (Nat.le_refl _) (Nat.le_refl _)
  have v33 : zEq (η1 0 7) (η 0 7) := (k1.1.2.2.2.1 0 7 (by decide +kernel)).trans rfl
  have v34 : zEq (η2 0 7) (η 0 7) := (k3.1.2.2.2.1 0 7 (by decide +kernel)).trans v33
  have v35 : zEq (η3 0 7) (η 0 7) := by rw [eη3]; exact (zup_ne (fun _ e => absurd e (by decide))).trans v34
  have v36 : zEq (η4 0 7) (η 0 7) := by rw [eη4]; exact (zup_ne (fun _ e => absurd e (by decide))).trans v35
  have f0_7 : η4 0 7 = η 0 7 := v36
  have w0_0_6 : (0 : Int) ≤ η 0 6 ∧ η 0 6 ≤ 700 := wf_ok (a := 6) (b := 6) (z := (0, 700)) hp.1 (by decide +kernel) (Nat.le_refl _) (Nat.le_refl _)
  have v38 : zEq (η1 0 6) (η 0 6) := (k1.1.2.2.2.1 0 6 (by decide +kernel)).trans rfl
  have v39 : zEq (η2 0 6) (η 0 6) := (k3.1.2.2.2.1 0 6 (by decide +kernel)).trans v38
  have v40 : zEq (η3 0 6) (η 0 6) := by rw [eη3]; exact (zup_ne (fun _ e => absurd e (by decide))).trans v39
  have v41 : zEq (η4 0 6) (η 0 6) := by rw [eη4]; exact (zup_ne (fun _ e => absurd e (by decide))).trans v40
  have f0_6 : η4 0 6 = η 0 6 := v41
  have v42 : zEq (η2 0 8) (η 0 8) := (k3.1.2.2.2.1 0 8 (by decide +kernel)).trans v3
  have v43 : zEq (η3 0 8) (η 0 8) := by rw [eη3]; exact (zup_ne (fun _ e => absurd e (by decide))).trans v42
  have v44 : zEq (η4 0 8) (η 0 8) := by rw [eη4]; exact (zup_ne (fun _ e => absurd e (by decide))).trans v43
  have f0_8 : η4 0 8 = η 0 8 := v44
  have wbE : wB wl_le zTr η4 := wb4
  
  have I0 : H_l 0 0 0 η := hpp.1
  have I1 : H_l 0 0 0 η1 := k1.2.1
  have qk1 : η 0 8 = 4 := k1.2.2 c1
  have I2 : H_l 0 0 0 η2 := k3.2.1
  have qb3 : η1 0 19 ≤ η2 0 19 := k3.2.2.2
  have I3 : H_l 0 1 0 η3 := by rw [eη3]; exact h_eq (wa_pop I2 (pw2).1 (pw2).2 (by apply Int.le_antisymm <;> omega)) rfl (by apply Int.le_antisymm <;> omega) rfl
  have I4 : H_l 0 0 0 η4 := by rw [eη4]; exact h_eq (br_dn I3 (by apply Int.le_antisymm <;> omega)) rfl (by apply Int.le_antisymm <;> omega) rfl
  exact I4
set_option maxHeartbeats 8000000 in
theorem zle_signs_o5 {ro : Nat → List Int32} (η : zE) (hp : sP wl_le zTr zPle_signs [] η) (hpp : pPle_signs [] η) : ∀ (x1 : Int) (η1 : zE), ((gC2 wl_le [(nat_lit 0, zPle_isSign, zOle_isSign, zMle_isSign), (nat_lit 1, zPle_wrong, zOle_wrong, zMle_wrong), (nat_lit 2, zPle_token, zOle_token, zMle_token), (nat_lit 3, zPle_isKey, zOle_isKey, zMle_isKey), (nat_lit 4, zPle_isCounted, zOle_isCounted, zMle_isCounted), (nat_lit 5, zPle_waitsFor, zOle_waitsFor, zMle_waitsFor), (nat_lit 6, zPle_rank, zOle_rank, zMle_rank), (nat_lit 7, zPle_bind, zOle_bind, zMle_bind)] pCle_signs qCle_signs) 0).2 [41] η x1 η1 → (¬ x1 = 0) → ∀ x2 : Int, x2 = η1 0 (Int.toNat 43) → zok 0 x2 → (0 < x2) → ∀ (x3 : Int) (η2 : zE), ((gC2 wl_le [(nat_lit 0, zPle_isSign, zOle_isSign, zMle_isSign), (nat_lit 1, zPle_wrong, zOle_wrong, zMle_wrong), (nat_lit 2, zPle_token, zOle_token, zMle_token), (nat_lit 3, zPle_isKey, zOle_isKey, zMle_isKey), (nat_lit 4, zPle_isCounted, zOle_isCounted, zMle_isCounted), (nat_lit 5, zPle_waitsFor, zOle_waitsFor, zMle_waitsFor), (nat_lit 6, zPle_rank, zOle_rank, zMle_rank), (nat_lit 7, zPle_bind, zOle_bind, zMle_bind)] pCle_signs qCle_signs) 7).2 [1] η1 x3 η2 → ∀ x4 : Int, x4 = η2 0 (Int.toNat 41) → zok 0 x4 → ∀ x5 : Int, x5 = zd 0 2 x4 1 → ∀ η3 : zE, η3 = zup η2 0 (Int.toNat 41) x5 → ∀ x6 : Int, x6 = η3 0 (Int.toNat 43) → zok 0 x6 → ∀ x7 : Int, x7 = zd 0 2 x6 1 → ∀ η4 : zE, η4 = zup η3 0 (Int.toNat 43) x7 → ∀ (x8 : Int) (η5 : zE), ((gC2 wl_le [(nat_lit 0, zPle_isSign, zOle_isSign, zMle_isSign), (nat_lit 1, zPle_wrong, zOle_wrong, zMle_wrong), (nat_lit 2, zPle_token, zOle_token, zMle_token), (nat_lit 3, zPle_isKey, zOle_isKey, zMle_isKey), (nat_lit 4, zPle_isCounted, zOle_isCounted, zMle_isCounted), (nat_lit 5, zPle_waitsFor, zOle_waitsFor, zMle_waitsFor), (nat_lit 6, zPle_rank, zOle_rank, zMle_rank), (nat_lit 7, zPle_bind, zOle_bind, zMle_bind)] pCle_signs qCle_signs) 2).2 [] η4 x8 η5 → (fun (_ : Nat) (y : Int) (η' : zE) => pQle_signs [] η y η') 0 1 η5 := by
  intro x1 η1 h1 c1 x2 e2 r2 c2 x3 η2 h3 x4 e4 r4 x5 e5 η3 eη3 x6 e6 r6 x7 e7 η4 eη4 x8 η5 h8
  have y1 : fQle_isSign [41] η x1 η1 := h1.2.2
  have k1 : sQ wl_le zTr zOle_isSign zMle_isSign [41] η x1 η1 ∧ oQle_isSign [41] η x1 η1 := ⟨h1.1, h1.2.1⟩
  have y3 : fQle_bind [1] η1 x3 η2 := h3.2.2
  have k3 : sQ wl_le zTr zOle_bind zMle_bind [1] η1 x3 η2 ∧ oQle_bind [1] η1 x3 η2 := ⟨h3.1, h3.2.1⟩
  have y8 : fQle_token [] η4 x8 η5 := h8.2.2
  have k8 : sQ wl_le zTr zOle_token zMle_token [] η4 x8 η5 ∧ oQle_token [] η4 x8 η5 := ⟨h8.1, h8.2.1⟩
  refine yj_a ?_ ?_
  · have hw : η 0 45 = 0 := hpp.2.1
    have hr1 : 1 ≤ η 0 19 := hpp.2.2
    have bd43 : (0 : Int) ≤ η 0 43 ∧ η 0 43 ≤ 8 := wf_ok (a := 43) (b := 43) (z := (0, 8)) hp.1 (by decide +kernel) (Nat.le_refl _) (Nat.le_refl _)
    have bd44 : (0 : Int) ≤ η 0 44 ∧ η 0 44 ≤ 64 := wf_ok (a := 44) (b := 44) (z := (0, 64)) hp.1 (by decide +kernel) (Nat.le_refl _) (Nat.le_refl _)
    have bd19 : (0 : Int) ≤ η 0 19 ∧ η 0 19 ≤ 64 := wf_ok (a := 19) (b := 19) (z := (0, 64)) hp.1 (by decide +kernel) (Nat.le_refl _) (Nat.le_refl _)
    replace e5 := zEq_i e5
    replace e7 := zEq_i e7
    have y1 : fQle_isSign [41] η x1 η1 := h1.2.2
    have k1 : sQ wl_le zTr zOle_isSign zMle_isSign [41] η x1 η1 ∧ oQle_isSign [41] η x1 η1 := ⟨h1.1, h1.2.1⟩
    have y3 : fQle_bind [1] η1 x3 η2 := h3.2.2
    have k3 : sQ wl_le zTr zOle_bind zMle_bind [1] η1 x3 η2 ∧ oQle_bind [1] η1 x3 η2 := ⟨h3.1, h3.2.1⟩
    have y8 : fQle_token [] η4 x8 η5 := h8.2.2
    have k8 : sQ wl_le zTr zOle_token zMle_token [] η4 x8 η5 ∧ oQle_token [] η4 x8 η5 := ⟨h8.1, h8.2.1⟩
    have w0_0_8 : (0 : Int) ≤ η 0 8 ∧ η 0 8 ≤ 6 := wf_ok (a := 8) (b := 8) (z := (0, 6)) hp.1 (by decide +kernel) (Nat.le_refl _) (Nat.le_refl _)
    have c0_0_8 : η 0 8 = η 0 8 := rfl
    have wb1 : wB wl_le zTr η1 := k1.1.1
    have bx1 : (0 : Int) ≤ x1 ∧ x1 ≤ 1 := k1.1.2.1
    have w0_0_43 : (0 : Int) ≤ η 0 43 ∧ η 0 43 ≤ 8 := wf_ok (a := 43) (b := 43) (z := (0, 8)) hp.1 (by decide +kernel) (Nat.le_refl _) (Nat.le_refl _)
    have v2 : zEq (η1 0 43) (η 0 43) := (k1.1.2.2.2.1 0 43 (by decide +kernel)).trans rfl
    replace e2 : x2 = η 0 43 := e2.trans v2
    have v3 : zEq (η1 0 8) (η 0 8) := (k1.1.2.2.2.1 0 8 (by decide +kernel)).trans rfl
    have c1_0_8 : η1 0 8 = η 0 8 := v3
    have w0_0_19 : (0 : Int) ≤ η 0 19 ∧ η 0 19 ≤ 64 := wf_ok (a := 19) (b := 19) (z := (0, 64)) hp.1 (by decide +kernel) (Nat.le_refl _) (Nat.le_refl _)
    have v5 : zEq (η1 0 19) (η 0 19) := (k1.1.2.2.2.1 0 19 (by decide +kernel)).trans rfl
    have c1_0_19 : η1 0 19 = η 0 19 := v5
    have wb2 : wB wl_le zTr η2 := k3.1.1
    have bx3 : (0 : Int) ≤ x3 ∧ x3 ≤ 0 := k3.1.2.1
    have v6 : zEq (η2 0 43) (η 0 43) := (k3.1.2.2.2.1 0 43 (by decide +kernel)).trans v2
    have pb2 : η2 0 43 = η 0 43 := v6
    have pw2 : 1 ≤ η2 0 41 ∧ η2 22 (η2 0 41 - 1).toNat ≤ 1 := by
      obtain ⟨j1, j2, j3, j4⟩ := k3.2.1.2
      rcases k3.2.2.1 rfl with h | h
      · exfalso
        rw [h] at j2
        have : cz_l η2 (Int.toNat 0) = 0 := rfl
        omega
      · refine ⟨?_, h⟩
        by_cases q : η2 0 41 = 0
        · exfalso
          rw [q] at j2
          have : cz_l η2 (Int.toNat 0) = 0 := rfl
          omega
        · omega
    have pq2 : η2 0 41 ≤ 96 := by
      obtain ⟨j1, j2, j3, j4⟩ := k3.2.1.2
      have b1 : (0 : Int) ≤ η2 0 44 ∧ η2 0 44 ≤ 64 := wf_ok (a := 44) (b := 44) (z := (0, 64)) k3.1.1 (by decide +kernel) (Nat.le_refl _) (Nat.le_refl _)
      have b2 : (0 : Int) ≤ η2 0 43 ∧ η2 0 43 ≤ 8 := wf_ok (a := 43) (b := 43) (z := (0, 8)) k3.1.1 (by decide +kernel) (Nat.le_refl _) (Nat.le_refl _)
      have b3 : (0 : Int) ≤ η2 0 19 ∧ η2 0 19 ≤ 64 := wf_ok (a := 19) (b := 19) (z := (0, 64)) k3.1.1 (by decide +kernel) (Nat.le_refl _) (Nat.le_refl _)
      omega
    replace e4 : x4 = η2 0 41 := e4
    replace r4 : -2147483648 ≤ x4 ∧ x4 ≤ 2147483647 := r4
    first
    | replace e5 : x5 = x4 - 1 := zd_s2 (zEq_o e5) (by clear e5; exact ⟨by omega, by omega⟩)
    | clear e5
    have c2_0_41 : η2 0 41 = η2 0 41 := rfl
    have wb3 : wB wl_le zTr η3 := by rw [eη3]; exact wk_ok (a := 41) (b := 41) (z := ((-2147483648), 2147483647)) zTr_k (GR := []) wb2 (by decide +kernel) (by decide) (by decide) (show ((-2147483648) : Int) ≤ x5 by omega) (show x5 ≤ (2147483647 : Int) by omega)
    have v8 : zEq (η3 0 43) (η 0 43) := by rw [eη3]; exact (zup_ne (fun _ e => absurd e (by decide))).trans v6
    replace e6 : x6 = η 0 43 := e6.trans v8
    first
    | replace e7 : x7 = x6 - 1 := zd_s2 (zEq_o e7) (by clear e7; exact ⟨by omega, by omega⟩)
    | clear e7
    have c3_0_43 : η3 0 43 = η 0 43 := v8
    have wb4 : wB wl_le zTr η4 := by rw [eη4]; exact wk_ok (a := 43) (b := 43) (z := (0, 8)) zTr_k (GR := []) wb3 (by decide +kernel) (by decide) (by decide) (show (0 : Int) ≤ x7 by omega) (show x7 ≤ (8 : Int) by omega)
    have w0_0_7 : (0 : Int) ≤ η 0 7 ∧ η 0 7 ≤ 700 := wf_ok (a := 7) (b := 7) (z := (0, 700)) hp.1 (by decide +kernel) (Nat.le_refl _) (Nat.le_refl _)
    have v10 : zEq (η1 0 7) (η 0 7) := (k1.1.2.2.2.1 0 7 (by decide +kernel)).trans rfl
    have v11 : zEq (η2 0 7) (η 0 7) := (k3.1.2.2.2.1 0 7 (by decide +kernel)).trans v10
    have v12 : zEq (η3 0 7) (η 0 7) := by rw [eη3]; exact (zup_ne (fun _ e => absurd e (by decide))).trans v11
    have v13 : zEq (η4 0 7) (η 0 7) := by rw [eη4]; exact (zup_ne (fun _ e => absurd e (by decide))).trans v12
    have c4_0_7 : η4 0 7 = η 0 7 := v13
    have w0_0_6 : (0 : Int) ≤ η 0 6 ∧ η 0 6 ≤ 700 := wf_ok (a := 6) (b := 6) (z := (0, 700)) hp.1 (by decide +kernel) (Nat.le_refl _) (Nat.le_refl _)
    have v15 : zEq (η1 0 6) (η 0 6) := (k1.1.2.2.2.1 0 6 (by decide +kernel)).trans rfl
    have v16 : zEq (η2 0 6) (η 0 6) := (k3.1.2.2.2.1 0 6 (by decide +kernel)).trans v15
    have v17 : zEq (η3 0 6) (η 0 6) := by rw [eη3]; exact (zup_ne (fun _ e => absurd e (by decide))).trans v16
    have v18 : zEq (η4 0 6) (η 0 6) := by rw [eη4]; exact (zup_ne (fun _ e => absurd e (by decide))).trans v17
    have c4_0_6 : η4 0 6 = η 0 6 := v18
    have v19 : zEq (η2 0 8) (η 0 8) := (k3.1.2.2.2.1 0 8 (by decide +kernel)).trans v3
    have v20 : zEq (η3 0 8) (η 0 8) := by rw [eη3]; exact (zup_ne (fun _ e => absurd e (by decide))).trans v19
    have v21 : zEq (η4 0 8) (η 0 8) := by rw [eη4]; exact (zup_ne (fun _ e => absurd e (by decide))).trans v20
    have c4_0_8 : η4 0 8 = η 0 8 := v21
    have wb5 : wB wl_le zTr η5 := k8.1.1
    have bx8 : (0 : Int) ≤ x8 ∧ x8 ≤ 0 := k8.1.2.1
    have fm1 : zFm zMle_signs η η1 := zFm_tr2 zFm_rf k1.1.2.2.2.1 (by decide +kernel)
    have fm2 : zFm zMle_signs η η2 := zFm_tr2 fm1 k3.1.2.2.2.1 (by decide +kernel)
    have fm3 : zFm zMle_signs η η3 := by rw [eη3]; exact zFm_up fm2 rfl
    have fm4 : zFm zMle_signs η η4 := by rw [eη4]; exact zFm_up fm3 rfl
    have fm5 : zFm zMle_signs η η5 := zFm_tr2 fm4 k8.1.2.2.2.1 (by decide +kernel)
    have fmE : zFm zMle_signs η η5 := fm5
    have fr22_0 : ∀ j, η 22 j = η 22 j := fun _ => rfl
    have v22 : ∀ j, η1 22 j = η 22 j := fun j => k1.1.2.2.2.1 22 _ (zinr_not (by decide +kernel))
    have fr22_1 : ∀ j, η1 22 j = η 22 j := v22
    have v23 : ∀ j, η2 22 j = η 22 j := fun j => (k3.1.2.2.2.1 22 _ (zinr_not (by decide +kernel))).trans (v22 j)
    have fr22_2 : ∀ j, η2 22 j = η 22 j := v23
    have v24 : ∀ j, η3 22 j = η 22 j := fun j => by rw [eη3]; exact (zup_ne (fun e _ => absurd e (by decide))).trans (v23 j)
    have fr22_3 : ∀ j, η3 22 j = η 22 j := v24
    have v25 : ∀ j, η4 22 j = η 22 j := fun j => by rw [eη4]; exact (zup_ne (fun e _ => absurd e (by decide))).trans (v24 j)
    have fr22_4 : ∀ j, η4 22 j = η 22 j := v25
    have v26 : ∀ j, η5 22 j = η 22 j := fun j => (k8.1.2.2.2.1 22 _ (zinr_not (by decide +kernel))).trans (v25 j)
    have fr22_5 : ∀ j, η5 22 j = η 22 j := v26
    have fr22 : ∀ j, η5 22 j = η 22 j := v26
    have v27 : zEq (η3 0 41) (x5) := by rw [eη3]; exact zup_eq
    have v28 : zEq (η4 0 41) (x5) := by rw [eη4]; exact (zup_ne (fun _ e => absurd e (by decide))).trans v27
    have v29 : zEq (η5 0 41) (x5) := (k8.1.2.2.2.1 0 41 (by decide +kernel)).trans v28
    have f0_41 : η5 0 41 = x5 := v29
    have v30 : zEq (η4 0 43) (x7) := by rw [eη4]; exact zup_eq
    have v31 : zEq (η5 0 43) (x7) := (k8.1.2.2.2.1 0 43 (by decide +kernel)).trans v30
    have f0_43 : η5 0 43 = x7 := v31
    have v33 : zEq (η3 0 42) (η2 0 42) := by rw [eη3]; exact (zup_ne (fun _ e => absurd e (by decide))).trans rfl
    have v34 : zEq (η4 0 42) (η2 0 42) := by rw [eη4]; exact (zup_ne (fun _ e => absurd e (by decide))).trans v33
    have v35 : zEq (η5 0 42) (η2 0 42) := (k8.1.2.2.2.1 0 42 (by decide +kernel)).trans v34
    have f0_42 : η5 0 42 = η2 0 42 := v35
    have v37 : zEq (η1 0 45) (η 0 45) := (k1.1.2.2.2.1 0 45 (by decide +kernel)).trans rfl
    have v38 : zEq (η2 0 45) (η 0 45) := (k3.1.2.2.2.1 0 45 (by decide +kernel)).trans v37
    have v39 : zEq (η3 0 45) (η 0 45) := by rw [eη3]; exact (zup_ne (fun _ e => absurd e (by decide))).trans v38
    have v40 : zEq (η4 0 45) (η 0 45) := by rw [eη4]; exact (zup_ne (fun _ e => absurd e (by decide))).trans v39
    have v41 : zEq (η5 0 45) (η 0 45) := (k8.1.2.2.2.1 0 45 (by decide +kernel)).trans v40
    have f0_45 : η5 0 45 = η 0 45 := v41
    have w2_0_19 : (0 : Int) ≤ η2 0 19 ∧ η2 0 19 ≤ 64 := wf_ok (a := 19) (b := 19) (z := (0, 64)) k3.1.1 (by decide +kernel) (Nat.le_refl _) (Nat.le_refl _)
    have v43 : zEq (η3 0 19) (η2 0 19) := by rw [eη3]; exact (zup_ne (fun _ e => absurd e (by decide))).trans rfl
    have v44 : zEq (η4 0 19) (η2 0 19) := by rw [eη4]; exact (zup_ne (fun _ e => absurd e (by decide))).trans v43
    have v45 : zEq (η5 0 19) (η2 0 19) := (k8.1.2.2.2.1 0 19 (by decide +kernel)).trans v44
    have f0_19 : η5 0 19 = η2 0 19 := v45
    have w0_0_44 : (0 : Int) ≤ η 0 44 ∧ η 0 44 ≤ 64 := wf_ok (a := 44) (b := 44) (z := (0, 64)) hp.1 (by decide +kernel) (Nat.le_refl _) (Nat.le_refl _)
    have v47 : zEq (η1 0 44) (η 0 44) := (k1.1.2.2.2.1 0 44 (by decide +kernel)).trans rfl
    have v48 : zEq (η2 0 44) (η 0 44) := (k3.1.2.2.2.1 0 44 (by decide +kernel)).trans v47
    have v49 : zEq (η3 0 44) (η 0 44) := by rw [eη3]; exact (zup_ne (fun _ e => absurd e (by decide))).trans v48
    have v50 : zEq (η4 0 44) (η 0 44) := by rw [eη4]; exact (zup_ne (fun _ e => absurd e (by decide))).trans v49
    have v51 : zEq (η5 0 44) (η 0 44) := (k8.1.2.2.2.1 0 44 (by decide +kernel)).trans v50
    have f0_44 : η5 0 44 = η 0 44 := v51
    have w5_0_7 : (0 : Int) ≤ η5 0 7 ∧ η5 0 7 ≤ 700 := wf_ok (a := 7) (b := 7) (z := (0, 700)) k8.1.1 (by decide +kernel) (Nat.le_refl _) (Nat.le_refl _)
    have f0_7 : η5 0 7 = η5 0 7 := rfl
    have v53 : zEq (η5 0 6) (η 0 6) := (k8.1.2.2.2.1 0 6 (by decide +kernel)).trans v18
    have f0_6 : η5 0 6 = η 0 6 := v53
    have w5_0_8 : (0 : Int) ≤ η5 0 8 ∧ η5 0 8 ≤ 6 := wf_ok (a := 8) (b := 8) (z := (0, 6)) k8.1.1 (by decide +kernel) (Nat.le_refl _) (Nat.le_refl _)
    have f0_8 : η5 0 8 = η5 0 8 := rfl
    have wbE : wB wl_le zTr η5 := wb5
    
    have I0 : H_l 0 0 0 η := hpp.1
    have I1 : H_l 0 0 0 η1 := k1.2.1
    have qk1 : η 0 8 = 4 := k1.2.2 c1
    have I2 : H_l 0 0 0 η2 := k3.2.1
    have qb3 : η1 0 19 ≤ η2 0 19 := k3.2.2.2
    have I3 : H_l 0 1 0 η3 := by rw [eη3]; exact h_eq (wa_pop I2 (pw2).1 (pw2).2 (by apply Int.le_antisymm <;> omega)) rfl (by apply Int.le_antisymm <;> omega) rfl
    have I4 : H_l 0 0 0 η4 := by rw [eη4]; exact h_eq (br_dn I3 (by apply Int.le_antisymm <;> omega)) rfl (by apply Int.le_antisymm <;> omega) rfl
    have I5 : H_l 0 0 0 η5 := k8.2.1
    have qt8 : ¬ η4 0 8 = 0 → 10 * (η5 0 6 - η5 0 7) + η5 0 8 < 10 * (η4 0 6 - η4 0 7) + η4 0 8 := k8.2.2
    refine ⟨I5.1, fun _ => ⟨I5, show 10 * (η5 0 6 - η5 0 7) + η5 0 8 < 10 * (η 0 6 - η 0 7) + η 0 8 by omega, fun w => ?_⟩⟩
    have w : η5 0 45 = 0 := w
    omega
  · have goal_ : (1, η5) = yq_sgn η := by
      obtain ⟨a1, b1⟩ : x1 = (yq_isS 41 η) ∧ η1 = η := y1
      clear k1 h1
      have e2 : x2 = η1 0 43 := e2
      clear r2
      have b3 : η2 = (yq_bin 1 η1) := y3
      clear k3 h3
      have e4 : x4 = η2 0 41 := e4
      clear r4
      have eη3 : η3 = zup η2 0 41 x5 := eη3
      have e6 : x6 = η3 0 43 := e6
      clear r6
      have eη4 : η4 = zup η3 0 43 x7 := eη4
      have b8 : η5 = (yq_tok η4) := y8
      clear k8 h8
      subst a1; subst b1
      subst e2
      subst b3
      subst e4
      subst e5
      subst eη3
      subst e6
      subst e7
      subst eη4
      subst b8
      unfold yq_sgn
      (repeat' split) <;> first | (exfalso; omega) | exact ⟨rfl, rfl⟩ | rfl
    exact ⟨congrArg Prod.fst goal_, congrArg Prod.snd goal_⟩
set_option maxHeartbeats 8000000 in
theorem zle_signs_o6 {ro : Nat → List Int32} (xs : List Int) (η0 : zE) (hp : sP wl_le zTr zPle_signs xs η0) (hpp : pPle_signs xs η0) (η : zE) (hI : zsI wl_le zTr zVle_signs zMle_signs η0 0 [] η) (hig : iCle_signs xs η0 0 [] η) : ((gC2 wl_le [(nat_lit 0, zPle_isSign, zOle_isSign, zMle_isSign), (nat_lit 1, zPle_wrong, zOle_wrong, zMle_wrong), (nat_lit 2, zPle_token, zOle_token, zMle_token), (nat_lit 3, zPle_isKey, zOle_isKey, zMle_isKey), (nat_lit 4, zPle_isCounted, zOle_isCounted, zMle_isCounted), (nat_lit 5, zPle_waitsFor, zOle_waitsFor, zMle_waitsFor), (nat_lit 6, zPle_rank, zOle_rank, zMle_rank), (nat_lit 7, zPle_bind, zOle_bind, zMle_bind)] pCle_signs qCle_signs) 3).1 [10] η := by
  have fig := hig.2
  have hig := hig.1
  have hw : η 0 45 = 0 := hig.2.1
  have hr1 : 1 ≤ η 0 19 := hig.2.2.1
  have hs1 : η 0 7 = η0 0 7 := hig.2.2.2.1
  have hs2 : η 0 6 = η0 0 6 := hig.2.2.2.2.1
  have hs3 : η 0 8 = η0 0 8 := hig.2.2.2.2.2
  have kk : η 0 8 = 5 → 0 ≤ η 0 9 ∧ η 0 9 ≤ 5 := hig.1.1.1.2.1.2
  have bd43 : (0 : Int) ≤ η 0 43 ∧ η 0 43 ≤ 8 := wf_ok (a := 43) (b := 43) (z := (0, 8)) hI.1.1 (by decide +kernel) (Nat.le_refl _) (Nat.le_refl _)
  have bd44 : (0 : Int) ≤ η 0 44 ∧ η 0 44 ≤ 64 := wf_ok (a := 44) (b := 44) (z := (0, 64)) hI.1.1 (by decide +kernel) (Nat.le_refl _) (Nat.le_refl _)
  have bd19 : (0 : Int) ≤ η 0 19 ∧ η 0 19 ≤ 64 := wf_ok (a := 19) (b := 19) (z := (0, 64)) hI.1.1 (by decide +kernel) (Nat.le_refl _) (Nat.le_refl _)
  obtain ⟨u1, u2, u3, u4⟩ := hig.1.2
  have cn := cz_n (η := η) (η 0 41).toNat
  have fmE : zFm zMle_signs η0 η := hI.2
  have fr22_0 : ∀ j, η 22 j = η 22 j := fun _ => rfl
  have fr22 : ∀ j, η 22 j = η 22 j := fun _ => rfl
  have f0_41 : η 0 41 = η 0 41 := rfl
  have w0_0_43 : (0 : Int) ≤ η 0 43 ∧ η 0 43 ≤ 8 := wf_ok (a := 43) (b := 43) (z := (0, 8)) hI.1.1 (by decide +kernel) (Nat.le_refl _) (Nat.le_refl _)
  have f0_43 : η 0 43 = η 0 43 := rfl
  have f0_42 : η 0 42 = η 0 42 := rfl
  have f0_45 : η 0 45 = η 0 45 := rfl
  have w0_0_19 : (0 : Int) ≤ η 0 19 ∧ η 0 19 ≤ 64 := wf_ok (a := 19) (b := 19) (z := (0, 64)) hI.1.1 (by decide +kernel) (Nat.le_refl _) (Nat.le_refl _)
  have f0_19 : η 0 19 = η 0 19 := rfl
  have w0_0_44 : (0 : Int) ≤ η 0 44 ∧ η 0 44 ≤ 64 := wf_ok (a := 44) (b := 44) (z := (0, 64)) hI.1.1 (by decide +kernel) (Nat.le_refl _) (Nat.le_refl _)
  have f0_44 : η 0 44 = η 0 44 := rfl
  have w0_0_7 : (0 : Int) ≤ η 0 7 ∧ η 0 7 ≤ 700 := wf_ok (a := 7) (b := 7) (z := (0, 700)) hI.1.1 (by decide +kernel) (Nat.le_refl _) (Nat.le_refl _)
  have f0_7 : η 0 7 = η 0 7 := rfl
  have w0_0_6 : (0 : Int) ≤ η 0 6 ∧ η 0 6 ≤ 700 := wf_ok (a := 6) (b := 6) (z := (0, 700)) hI.1.1 (by decide +kernel) (Nat.le_refl _) (Nat.le_refl _)
  have f0_6 : η 0 6 = η 0 6 := rfl
  have w0_0_8 : (0 : Int) ≤ η 0 8 ∧ η 0 8 ≤ 6 := wf_ok (a := 8) (b := 8) (z := (0, 6)) hI.1.1 (by decide +kernel) (Nat.le_refl _) (Nat.le_refl _)
  have f0_8 : η 0 8 = η 0 8 := rfl
  have wbE : wB wl_le zTr η := hI.1.1
  
  have I0 : H_l 0 0 0 η := hig.1
  exact I0
set_option maxHeartbeats 8000000 in
theorem zle_signs_o7 {ro : Nat → List Int32} (xs : List Int) (η0 : zE) (hp : sP wl_le zTr zPle_signs xs η0) (hpp : pPle_signs xs η0) (η : zE) (hI : zsI wl_le zTr zVle_signs zMle_signs η0 0 [] η) (hig : iCle_signs xs η0 0 [] η) : ∀ (x1 : Int) (η1 : zE), ((gC2 wl_le [(nat_lit 0, zPle_isSign, zOle_isSign, zMle_isSign), (nat_lit 1, zPle_wrong, zOle_wrong, zMle_wrong), (nat_lit 2, zPle_token, zOle_token, zMle_token), (nat_lit 3, zPle_isKey, zOle_isKey, zMle_isKey), (nat_lit 4, zPle_isCounted, zOle_isCounted, zMle_isCounted), (nat_lit 5, zPle_waitsFor, zOle_waitsFor, zMle_waitsFor), (nat_lit 6, zPle_rank, zOle_rank, zMle_rank), (nat_lit 7, zPle_bind, zOle_bind, zMle_bind)] pCle_signs qCle_signs) 3).2 [10] η x1 η1 → (x1 = 0) → ((gC2 wl_le [(nat_lit 0, zPle_isSign, zOle_isSign, zMle_isSign), (nat_lit 1, zPle_wrong, zOle_wrong, zMle_wrong), (nat_lit 2, zPle_token, zOle_token, zMle_token), (nat_lit 3, zPle_isKey, zOle_isKey, zMle_isKey), (nat_lit 4, zPle_isCounted, zOle_isCounted, zMle_isCounted), (nat_lit 5, zPle_waitsFor, zOle_waitsFor, zMle_waitsFor), (nat_lit 6, zPle_rank, zOle_rank, zMle_rank), (nat_lit 7, zPle_bind, zOle_bind, zMle_bind)] pCle_signs qCle_signs) 3).1 [11] η1 := by
  have fig := hig.2
  have hig := hig.1
  have hw : η 0 45 = 0 := hig.2.1
  have hr1 : 1 ≤ η 0 19 := hig.2.2.1
  have hs1 : η 0 7 = η0 0 7 := hig.2.2.2.1
  have hs2 : η 0 6 = η0 0 6 := hig.2.2.2.2.1
  have hs3 : η 0 8 = η0 0 8 := hig.2.2.2.2.2
  have kk : η 0 8 = 5 → 0 ≤ η 0 9 ∧ η 0 9 ≤ 5 := hig.1.1.1.2.1.2
  have bd43 : (0 : Int) ≤ η 0 43 ∧ η 0 43 ≤ 8 := wf_ok (a := 43) (b := 43) (z := (0, 8)) hI.1.1 (by decide +kernel) (Nat.le_refl _) (Nat.le_refl _)
  have bd44 : (0 : Int) ≤ η 0 44 ∧ η 0 44 ≤ 64 := wf_ok (a := 44) (b := 44) (z := (0, 64)) hI.1.1 (by decide +kernel) (Nat.le_refl _) (Nat.le_refl _)
  have bd19 : (0 : Int) ≤ η 0 19 ∧ η 0 19 ≤ 64 := wf_ok (a := 19) (b := 19) (z := (0, 64)) hI.1.1 (by decide +kernel) (Nat.le_refl _) (Nat.le_refl _)
  obtain ⟨u1, u2, u3, u4⟩ := hig.1.2
  have cn := cz_n (η := η) (η 0 41).toNat
  intro x1 η1 h1 c1
  have y1 : fQle_isKey [10] η x1 η1 := h1.2.2
  have k1 : sQ wl_le zTr zOle_isKey zMle_isKey [10] η x1 η1 ∧ oQle_isKey [10] η x1 η1 := ⟨h1.1, h1.2.1⟩
  have w0_0_8 : (0 : Int) ≤ η 0 8 ∧ η 0 8 ≤ 6 := wf_ok (a := 8) (b := 8) (z := (0, 6)) hI.1.1 (by decide +kernel) (Nat.le_refl _) (Nat.le_refl _)
  have c0_0_8 : η 0 8 = η 0 8 := rfl
  have wb1 : wB wl_le zTr η1 := k1.1.1
  have bx1 : (0 : Int) ≤ x1 ∧ x1 ≤ 1 := k1.1.2.1
  have fm1 : zFm zMle_signs η0 η1 := zFm_tr2 hI.2 k1.1.2.2.2.1 (by decide +kernel)
  have fmE : zFm zMle_signs η0 η1 := fm1
  have fr22_0 : ∀ j, η 22 j = η 22 j := fun _ => rfl
  have v1 : ∀ j, η1 22 j = η 22 j := fun j => k1.1.2.2.2.1 22 _ (zinr_not (by decide +kernel))
  have fr22_1 : ∀ j, η1 22 j = η 22 j := v1
  have fr22 : ∀ j, η1 22 j = η 22 j := v1
  have v3 : zEq (η1 0 41) (η 0 41) := (k1.1.2.2.2.1 0 41 (by decide +kernel)).trans rfl
  have f0_41 : η1 0 41 = η 0 41 := v3
  have w0_0_43 : (0 : Int) ≤ η 0 43 ∧ η 0 43 ≤ 8 := wf_ok (a := 43) (b := 43) (z := (0, 8)) hI.1.1 (by decide +kernel) (Nat.le_refl _) (Nat.le_refl _)
  have v5 : zEq (η1 0 43) (η 0 43) := (k1.1.2.2.2.1 0 43 (by decide +kernel)).trans rfl
  have f0_43 : η1 0 43 = η 0 43 := v5
  have v7 : zEq (η1 0 42) (η 0 42) := (k1.1.2.2.2.1 0 42 (by decide +kernel)).trans rfl
  have f0_42 : η1 0 42 = η 0 42 := v7
  have v9 : zEq (η1 0 45) (η 0 45) := (k1.1.2.2.2.1 0 45 (by decide +kernel)).trans rfl
  have f0_45 : η1 0 45 = η 0 45 := v9
  have w0_0_19 : (0 : Int) ≤ η 0 19 ∧ η 0 19 ≤ 64 := wf_ok (a := 19) (b := 19) (z := (0, 64)) hI.1.1 (by decide +kernel) (Nat.le_refl _) (Nat.le_refl _)
  have v11 : zEq (η1 0 19) (η 0 19) := (k1.1.2.2.2.1 0 19 (by decide +kernel)).trans rfl
  have f0_19 : η1 0 19 = η 0 19 := v11
  have w0_0_44 : (0 : Int) ≤ η 0 44 ∧ η 0 44 ≤ 64 := wf_ok (a := 44) (b := 44) (z := (0, 64)) hI.1.1 (by decide +kernel) (Nat.le_refl _) (Nat.le_refl _)
  have v13 : zEq (η1 0 44) (η 0 44) := (k1.1.2.2.2.1 0 44 (by decide +kernel)).trans rfl
  have f0_44 : η1 0 44 = η 0 44 := v13
  have w0_0_7 : (0 : Int) ≤ η 0 7 ∧ η 0 7 ≤ 700 := wf_ok (a := 7) (b := 7) (z := (0, 700)) hI.1.1 (by decide +kernel) (Nat.le_refl _) (Nat.le_refl _)
  have v15 : zEq (η1 0 7) (η 0 7) := (k1.1.2.2.2.1 0 7 (by decide +kernel)).trans rfl
  have f0_7 : η1 0 7 = η 0 7 := v15
  have w0_0_6 : (0 : Int) ≤ η 0 6 ∧ η 0 6 ≤ 700 := wf_ok (a := 6) (b := 6) (z := (0, 700)) hI.1.1 (by decide +kernel) (Nat.le_refl _) (Nat.le_refl _)
  have v17 : zEq (η1 0 6) (η 0 6) := (k1.1.2.2.2.1 0 6 (by decide +kernel)).trans rfl
  have f0_6 : η1 0 6 = η 0 6 := v17
  have v18 : zEq (η1 0 8) (η 0 8) := (k1.1.2.2.2.1 0 8 (by decide +kernel)).trans rfl
  have f0_8 : η1 0 8 = η 0 8 := v18
  have wbE : wB wl_le zTr η1 := wb1
  
  have I0 : H_l 0 0 0 η := hig.1
  have I1 : H_l 0 0 0 η1 := k1.2.1
  exact I1
set_option maxHeartbeats 8000000 in
theorem zle_signs_o8 {ro : Nat → List Int32} (xs : List Int) (η0 : zE) (hp : sP wl_le zTr zPle_signs xs η0) (hpp : pPle_signs xs η0) (η : zE) (hI : zsI wl_le zTr zVle_signs zMle_signs η0 0 [] η) (hig : iCle_signs xs η0 0 [] η) : ∀ (x1 : Int) (η1 : zE), ((gC2 wl_le [(nat_lit 0, zPle_isSign, zOle_isSign, zMle_isSign), (nat_lit 1, zPle_wrong, zOle_wrong, zMle_wrong), (nat_lit 2, zPle_token, zOle_token, zMle_token), (nat_lit 3, zPle_isKey, zOle_isKey, zMle_isKey), (nat_lit 4, zPle_isCounted, zOle_isCounted, zMle_isCounted), (nat_lit 5, zPle_waitsFor, zOle_waitsFor, zMle_waitsFor), (nat_lit 6, zPle_rank, zOle_rank, zMle_rank), (nat_lit 7, zPle_bind, zOle_bind, zMle_bind)] pCle_signs qCle_signs) 3).2 [10] η x1 η1 → (x1 = 0) → ∀ (x2 : Int) (η2 : zE), ((gC2 wl_le [(nat_lit 0, zPle_isSign, zOle_isSign, zMle_isSign), (nat_lit 1, zPle_wrong, zOle_wrong, zMle_wrong), (nat_lit 2, zPle_token, zOle_token, zMle_token), (nat_lit 3, zPle_isKey, zOle_isKey, zMle_isKey), (nat_lit 4, zPle_isCounted, zOle_isCounted, zMle_isCounted), (nat_lit 5, zPle_waitsFor, zOle_waitsFor, zMle_waitsFor), (nat_lit 6, zPle_rank, zOle_rank, zMle_rank), (nat_lit 7, zPle_bind, zOle_bind, zMle_bind)] pCle_signs qCle_signs) 3).2 [11] η1 x2 η2 → (x2 = 0) → ∀ x3 : Int, x3 = η2 0 (Int.toNat 8) → zok 0 x3 → (¬ x3 = 5) → ((gC2 wl_le [(nat_lit 0, zPle_isSign, zOle_isSign, zMle_isSign), (nat_lit 1, zPle_wrong, zOle_wrong, zMle_wrong), (nat_lit 2, zPle_token, zOle_token, zMle_token), (nat_lit 3, zPle_isKey, zOle_isKey, zMle_isKey), (nat_lit 4, zPle_isCounted, zOle_isCounted, zMle_isCounted), (nat_lit 5, zPle_waitsFor, zOle_waitsFor, zMle_waitsFor), (nat_lit 6, zPle_rank, zOle_rank, zMle_rank), (nat_lit 7, zPle_bind, zOle_bind, zMle_bind)] pCle_signs qCle_signs) 0).1 [43] η2 := by
  have fig := hig.2
  have hig := hig.1
  have hw : η 0 45 = 0 := hig.2.1
  have hr1 : 1 ≤ η 0 19 := hig.2.2.1
  have hs1 : η 0 7 = η0 0 7 := hig.2.2.2.1
  have hs2 : η 0 6 = η0 0 6 := hig.2.2.2.2.1
  have hs3 : η 0 8 = η0 0 8 := hig.2.2.2.2.2
  have kk : η 0 8 = 5 → 0 ≤ η 0 9 ∧ η 0 9 ≤ 5 := hig.1.1.1.2.1.2
  have bd43 : (0 : Int) ≤ η 0 43 ∧ η 0 43 ≤ 8 := wf_ok (a := 43) (b := 43) (z := (0, 8)) hI.1.1 (by decide +kernel) (Nat.le_refl _) (Nat.le_refl _)
  have bd44 : (0 : Int) ≤ η 0 44 ∧ η 0 44 ≤ 64 := wf_ok (a := 44) (b := 44) (z := (0, 64)) hI.1.1 (by decide +kernel) (Nat.le_refl _) (Nat.le_refl _)
  have bd19 : (0 : Int) ≤ η 0 19 ∧ η 0 19 ≤ 64 := wf_ok (a := 19) (b := 19) (z := (0, 64)) hI.1.1 (by decide +kernel) (Nat.le_refl _) (Nat.le_refl _)
  obtain ⟨u1, u2, u3, u4⟩ := hig.1.2
  have cn := cz_n (η := η) (η 0 41).toNat
  intro x1 η1 h1 c1 x2 η2 h2 c2 x3 e3 r3 c3
  have y1 : fQle_isKey [10] η x1 η1 := h1.2.2
  have k1 : sQ wl_le zTr zOle_isKey zMle_isKey [10] η x1 η1 ∧ oQle_isKey [10] η x1 η1 := ⟨h1.1, h1.2.1⟩
  have y2 : fQle_isKey [11] η1 x2 η2 := h2.2.2
  have k2 : sQ wl_le zTr zOle_isKey zMle_isKey [11] η1 x2 η2 ∧ oQle_isKey [11] η1 x2 η2 := ⟨h2.1, h2.2.1⟩
  have w0_0_8 : (0 : Int) ≤ η 0 8 ∧ η 0 8 ≤ 6 := wf_ok (a := 8) (b := 8) (z := (0, 6)) hI.1.1 (by decide +kernel) (Nat.le_refl _) (Nat.le_refl _)
  have c0_0_8 : η 0 8 = η 0 8 := rfl
  have wb1 : wB wl_le zTr η1 := k1.1.1
  have bx1 : (0 : Int) ≤ x1 ∧ x1 ≤ 1 := k1.1.2.1
  have v1 : zEq (η1 0 8) (η 0 8) := (k1.1.2.2.2.1 0 8 (by decide +kernel)).trans rfl
  have c1_0_8 : η1 0 8 = η 0 8 := v1
  have wb2 : wB wl_le zTr η2 := k2.1.1
  have bx2 : (0 : Int) ≤ x2 ∧ x2 ≤ 1 := k2.1.2.1
  have v2 : zEq (η2 0 8) (η 0 8) := (k2.1.2.2.2.1 0 8 (by decide +kernel)).trans v1
  replace e3 : x3 = η 0 8 := e3.trans v2
  have fm1 : zFm zMle_signs η0 η1 := zFm_tr2 hI.2 k1.1.2.2.2.1 (by decide +kernel)
  have fm2 : zFm zMle_signs η0 η2 := zFm_tr2 fm1 k2.1.2.2.2.1 (by decide +kernel)
  have fmE : zFm zMle_signs η0 η2 := fm2
  have fr22_0 : ∀ j, η 22 j = η 22 j := fun _ => rfl
  have v3 : ∀ j, η1 22 j = η 22 j := fun j => k1.1.2.2.2.1 22 _ (zinr_not (by decide +kernel))
  have fr22_1 : ∀ j, η1 22 j = η 22 j := v3
  have v4 : ∀ j, η2 22 j = η 22 j := fun j => (k2.1.2.2.2.1 22 _ (zinr_not (by decide +kernel))).trans (v3 j)
  have fr22_2 : ∀ j, η2 22 j = η 22 j := v4
  have fr22 : ∀ j, η2 22 j = η 22 j := v4
  have v6 : zEq (η1 0 41) (η 0 41) := (k1.1.2.2.2.1 0 41 (by decide +kernel)).trans rfl
  have v7 : zEq (η2 0 41) (η 0 41) := (k2.1.2.2.2.1 0 41 (by decide +kernel)).trans v6
  have f0_41 : η2 0 41 = η 0 41 := v7
  have w0_0_43 : (0 : Int) ≤ η 0 43 ∧ η 0 43 ≤ 8 := wf_ok (a := 43) (b := 43) (z := (0, 8)) hI.1.1 (by decide +kernel) (Nat.le_refl _) (Nat.le_refl _)
  have v9 : zEq (η1 0 43) (η 0 43) := (k1.1.2.2.2.1 0 43 (by decide +kernel)).trans rfl
  have v10 : zEq (η2 0 43) (η 0 43) := (k2.1.2.2.2.1 0 43 (by decide +kernel)).trans v9
  have f0_43 : η2 0 43 = η 0 43 := v10
  have v12 : zEq (η1 0 42) (η 0 42) := (k1.1.2.2.2.1 0 42 (by decide +kernel)).trans rfl
  have v13 : zEq (η2 0 42) (η 0 42) := (k2.1.2.2.2.1 0 42 (by decide +kernel)).trans v12
  have f0_42 : η2 0 42 = η 0 42 := v13
  have v15 : zEq (η1 0 45) (η 0 45) := (k1.1.2.2.2.1 0 45 (by decide +kernel)).trans rfl
  have v16 : zEq (η2 0 45) (η 0 45) := (k2.1.2.2.2.1 0 45 (by decide +kernel)).trans v15
  have f0_45 : η2 0 45 = η 0 45 := v16
  have w0_0_19 : (0 : Int) ≤ η 0 19 ∧ η 0 19 ≤ 64 := wf_ok (a := 19) (b := 19) (z := (0, 64)) hI.1.1 (by decide +kernel) (Nat.le_refl _) (Nat.le_refl _)
  have v18 : zEq (η1 0 19) (η 0 19) := (k1.1.2.2.2.1 0 19 (by decide +kernel)).trans rfl
  have v19 : zEq (η2 0 19) (η 0 19) := (k2.1.2.2.2.1 0 19 (by decide +kernel)).trans v18
  have f0_19 : η2 0 19 = η 0 19 := v19
  have w0_0_44 : (0 : Int) ≤ η 0 44 ∧ η 0 44 ≤ 64 := wf_ok (a := 44) (b := 44) (z := (0, 64)) hI.1.1 (by decide +kernel) (Nat.le_refl _) (Nat.le_refl _)
  have v21 : zEq (η1 0 44) (η 0 44) := (k1.1.2.2.2.1 0 44 (by decide +kernel)).trans rfl
  have v22 : zEq (η2 0 44) (η 0 44) := (k2.1.2.2.2.1 0 44 (by decide +kernel)).trans v21
  have f0_44 : η2 0 44 = η 0 44 := v22
  have w0_0_7 : (0 : Int) ≤ η 0 7 ∧ η 0 7 ≤ 700 := wf_ok (a := 7) (b := 7) (z := (0, 700)) hI.1.1 (by decide +kernel) (Nat.le_refl _) (Nat.le_refl _)
  have v24 : zEq (η1 0 7) (η 0 7) := (k1.1.2.2.2.1 0 7 (by decide +kernel)).trans rfl
  have v25 : zEq (η2 0 7) (η 0 7) := (k2.1.2.2.2.1 0 7 (by decide +kernel)).trans v24
  have f0_7 : η2 0 7 = η 0 7 := v25
  have w0_0_6 : (0 : Int) ≤ η 0 6 ∧ η 0 6 ≤ 700 := wf_ok (a := 6) (b := 6) (z := (0, 700)) hI.1.1 (by decide +kernel) (Nat.le_refl _) (Nat.le_refl _)
  have v27 : zEq (η1 0 6) (η 0 6) := (k1.1.2.2.2.1 0 6 (by decide +kernel)).trans rfl
  have v28 : zEq (η2 0 6) (η 0 6) := (k2.1.2.2.2.1 0 6 (by decide +kernel)).trans v27
  have f0_6 : η2 0 6 = η 0 6 := v28
  have f0_8 : η2 0 8 = η 0 8 := v2
  have wbE : wB wl_le zTr η2 := wb2
  
  have I0 : H_l 0 0 0 η := hig.1
  have I1 : H_l 0 0 0 η1 := k1.2.1
  have I2 : H_l 0 0 0 η2 := k2.2.1
  exact I2
set_option maxHeartbeats 8000000 in
theorem zle_signs_o9 {ro : Nat → List Int32} (xs : List Int) (η0 : zE) (hp : sP wl_le zTr zPle_signs xs η0) (hpp : pPle_signs xs η0) (η : zE) (hI : zsI wl_le zTr zVle_signs zMle_signs η0 0 [] η) (hig : iCle_signs xs η0 0 [] η) : ∀ (x1 : Int) (η1 : zE), ((gC2 wl_le [(nat_lit 0, zPle_isSign, zOle_isSign, zMle_isSign), (nat_lit 1, zPle_wrong, zOle_wrong, zMle_wrong), (nat_lit 2, zPle_token, zOle_token, zMle_token), (nat_lit 3, zPle_isKey, zOle_isKey, zMle_isKey), (nat_lit 4, zPle_isCounted, zOle_isCounted, zMle_isCounted), (nat_lit 5, zPle_waitsFor, zOle_waitsFor, zMle_waitsFor), (nat_lit 6, zPle_rank, zOle_rank, zMle_rank), (nat_lit 7, zPle_bind, zOle_bind, zMle_bind)] pCle_signs qCle_signs) 3).2 [10] η x1 η1 → (x1 = 0) → ∀ (x2 : Int) (η2 : zE), ((gC2 wl_le [(nat_lit 0, zPle_isSign, zOle_isSign, zMle_isSign), (nat_lit 1, zPle_wrong, zOle_wrong, zMle_wrong), (nat_lit 2, zPle_token, zOle_token, zMle_token), (nat_lit 3, zPle_isKey, zOle_isKey, zMle_isKey), (nat_lit 4, zPle_isCounted, zOle_isCounted, zMle_isCounted), (nat_lit 5, zPle_waitsFor, zOle_waitsFor, zMle_waitsFor), (nat_lit 6, zPle_rank, zOle_rank, zMle_rank), (nat_lit 7, zPle_bind, zOle_bind, zMle_bind)] pCle_signs qCle_signs) 3).2 [11] η1 x2 η2 → (x2 = 0) → ∀ x3 : Int, x3 = η2 0 (Int.toNat 8) → zok 0 x3 → (¬ x3 = 5) → ∀ (x4 : Int) (η3 : zE), ((gC2 wl_le [(nat_lit 0, zPle_isSign, zOle_isSign, zMle_isSign), (nat_lit 1, zPle_wrong, zOle_wrong, zMle_wrong), (nat_lit 2, zPle_token, zOle_token, zMle_token), (nat_lit 3, zPle_isKey, zOle_isKey, zMle_isKey), (nat_lit 4, zPle_isCounted, zOle_isCounted, zMle_isCounted), (nat_lit 5, zPle_waitsFor, zOle_waitsFor, zMle_waitsFor), (nat_lit 6, zPle_rank, zOle_rank, zMle_rank), (nat_lit 7, zPle_bind, zOle_bind, zMle_bind)] pCle_signs qCle_signs) 0).2 [43] η2 x4 η3 → (x4 = 0) → ((gC2 wl_le [(nat_lit 0, zPle_isSign, zOle_isSign, zMle_isSign), (nat_lit 1, zPle_wrong, zOle_wrong, zMle_wrong), (nat_lit 2, zPle_token, zOle_token, zMle_token), (nat_lit 3, zPle_isKey, zOle_isKey, zMle_isKey), (nat_lit 4, zPle_isCounted, zOle_isCounted, zMle_isCounted), (nat_lit 5, zPle_waitsFor, zOle_waitsFor, zMle_waitsFor), (nat_lit 6, zPle_rank, zOle_rank, zMle_rank), (nat_lit 7, zPle_bind, zOle_bind, zMle_bind)] pCle_signs qCle_signs) 0).1 [45] η3 := by
  have fig := hig.2
  have hig := hig.1
  have hw : η 0 45 = 0 := hig.2.1
  have hr1 : 1 ≤ η 0 19 := hig.2.2.1
  have hs1 : η 0 7 = η0 0 7 := hig.2.2.2.1
  have hs2 : η 0 6 = η0 0 6 := hig.2.2.2.2.1
  have hs3 : η 0 8 = η0 0 8 := hig.2.2.2.2.2
  have kk : η 0 8 = 5 → 0 ≤ η 0 9 ∧ η 0 9 ≤ 5 := hig.1.1.1.2.1.2
  have bd43 : (0 : Int) ≤ η 0 43 ∧ η 0 43 ≤ 8 := wf_ok (a := 43) (b := 43) (z := (0, 8)) hI.1.1 (by decide +kernel) (Nat.le_refl _) (Nat.le_refl _)
  have bd44 : (0 : Int) ≤ η 0 44 ∧ η 0 44 ≤ 64 := wf_ok (a := 44) (b := 44) (z := (0, 64)) hI.1.1 (by decide +kernel) (Nat.le_refl _) (Nat.le_refl _)
  have bd19 : (0 : Int) ≤ η 0 19 ∧ η 0 19 ≤ 64 := wf_ok (a := 19) (b := 19) (z := (0, 64)) hI.1.1 (by decide +kernel) (Nat.le_refl _) (Nat.le_refl _)
  obtain ⟨u1, u2, u3, u4⟩ := hig.1.2
  have cn := cz_n (η := η) (η 0 41).toNat
  intro x1 η1 h1 c1 x2 η2 h2 c2 x3 e3 r3 c3 x4 η3 h4 c4
  have y1 : fQle_isKey [10] η x1 η1 := h1.2.2
  have k1 : sQ wl_le zTr zOle_isKey zMle_isKey [10] η x1 η1 ∧ oQle_isKey [10] η x1 η1 := ⟨h1.1, h1.2.1⟩
  have y2 : fQle_isKey [11] η1 x2 η2 := h2.2.2
  have k2 : sQ wl_le zTr zOle_isKey zMle_isKey [11] η1 x2 η2 ∧ oQle_isKey [11] η1 x2 η2 := ⟨h2.1, h2.2.1⟩
  have y4 : fQle_isSign [43] η2 x4 η3 := h4.2.2
  have k4 : sQ wl_le zTr zOle_isSign zMle_isSign [43] η2 x4 η3 ∧ oQle_isSign [43] η2 x4 η3 := ⟨h4.1, h4.2.1⟩
  have w0_0_8 : (0 : Int) ≤ η 0 8 ∧ η 0 8 ≤ 6 := wf_ok (a := 8) (b := 8) (z := (0, 6)) hI.1.1 (by decide +kernel) (Nat.le_refl _) (Nat.le_refl _)
  have c0_0_8 : η 0 8 = η 0 8 := rfl
  have wb1 : wB wl_le zTr η1 := k1.1.1
  have bx1 : (0 : Int) ≤ x1 ∧ x1 ≤ 1 := k1.1.2.1
  have v1 : zEq (η1 0 8) (η 0 8) := (k1.1.2.2.2.1 0 8 (by decide +kernel)).trans rfl
  have c1_0_8 : η1 0 8 = η 0 8 := v1
  have wb2 : wB wl_le zTr η2 := k2.1.1
  have bx2 : (0 : Int) ≤ x2 ∧ x2 ≤ 1 := k2.1.2.1
  have v2 : zEq (η2 0 8) (η 0 8) := (k2.1.2.2.2.1 0 8 (by decide +kernel)).trans v1
  replace e3 : x3 = η 0 8 := e3.trans v2
  have c2_0_8 : η2 0 8 = η 0 8 := v2
  have wb3 : wB wl_le zTr η3 := k4.1.1
  have bx4 : (0 : Int) ≤ x4 ∧ x4 ≤ 1 := k4.1.2.1
  have fm1 : zFm zMle_signs η0 η1 := zFm_tr2 hI.2 k1.1.2.2.2.1 (by decide +kernel)
  have fm2 : zFm zMle_signs η0 η2 := zFm_tr2 fm1 k2.1.2.2.2.1 (by decide +kernel)
  have fm3 : zFm zMle_signs η0 η3 := zFm_tr2 fm2 k4.1.2.2.2.1 (by decide +kernel)
  have fmE : zFm zMle_signs η0 η3 := fm3
  have fr22_0 : ∀ j, η 22 j = η 22 j := fun _ => rfl
  have v3 : ∀ j, η1 22 j = η 22 j := fun j => k1.1.2.2.2.1 22 _ (zinr_not (by decide +kernel))
  have fr22_1 : ∀ j, η1 22 j = η 22 j := v3
  have v4 : ∀ j, η2 22 j = η 22 j := fun j => (k2.1.2.2.2.1 22 _ (zinr_not (by decide +kernel))).trans (v3 j)
  have fr22_2 : ∀ j, η2 22 j = η 22 j := v4
  have v5 : ∀ j, η3 22 j = η 22 j := fun j => (k4.1.2.2.2.1 22 _ (zinr_not (by decide +kernel))).trans (v4 j)
  have fr22_3 : ∀ j, η3 22 j = η 22 j := v5
  have fr22 : ∀ j, η3 22 j = η 22 j := v5
  have v7 : zEq (η1 0 41) (η 0 41) := (k1.1.2.2.2.1 0 41 (by decide +kernel)).trans rfl
  have v8 : zEq (η2 0 41) (η 0 41) := (k2.1.2.2.2.1 0 41 (by decide +kernel)).trans v7
  have v9 : zEq (η3 0 41) (η 0 41) := (k4.1.2.2.2.1 0 41 (by decide +kernel)).trans v8
  have f0_41 : η3 0 41 = η 0 41 := v9
  have w0_0_43 : (0 : Int) ≤ η 0 43 ∧ η 0 43 ≤ 8 := wf_ok (a := 43) (b := 43) (z := (0, 8)) hI.1.1 (by decide +kernel) (Nat.le_refl _) (Nat.le_refl _)
  have v11 : zEq (η1 0 43) (η 0 43) := (k1.1.2.2.2.1 0 43 (by decide +kernel)).trans rfl
  have v12 : zEq (η2 0 43) (η 0 43) := (k2.1.2.2.2.1 0 43 (by decide +kernel)).trans v11
  have v13 : zEq (η3 0 43) (η 0 43) := (k4.1.2.2.2.1 0 43 (by decide +kernel)).trans v12
  have f0_43 : η3 0 43 = η 0 43 := v13
  have v15 : zEq (η1 0 42) (η 0 42) := (k1.1.2.2.2.1 0 42 (by decide +kernel)).trans rfl
  have v16 : zEq (η2 0 42) (η 0 42) := (k2.1.2.2.2.1 0 42 (by decide +kernel)).trans v15
  have v17 : zEq (η3 0 42) (η 0 42) := (k4.1.2.2.2.1 0 42 (by decide +kernel)).trans v16
  have f0_42 : η3 0 42 = η 0 42 := v17
  have v19 : zEq (η1 0 45) (η 0 45) := (k1.1.2.2.2.1 0 45 (by decide +kernel)).trans rfl
  have v20 : zEq (η2 0 45) (η 0 45) := (k2.1.2.2.2.1 0 45 (by decide +kernel)).trans v19
  have v21 : zEq (η3 0 45) (η 0 45) := (k4.1.2.2.2.1 0 45 (by decide +kernel)).trans v20
  have f0_45 : η3 0 45 = η 0 45 := v21
  have w0_0_19 : (0 : Int) ≤ η 0 19 ∧ η 0 19 ≤ 64 := wf_ok (a := 19) (b := 19) (z := (0, 64)) hI.1.1 (by decide +kernel) (Nat.le_refl _) (Nat.le_refl _)
  have v23 : zEq (η1 0 19) (η 0 19) := (k1.1.2.2.2.1 0 19 (by decide +kernel)).trans rfl
  have v24 : zEq (η2 0 19) (η 0 19) := (k2.1.2.2.2.1 0 19 (by decide +kernel)).trans v23
  have v25 : zEq (η3 0 19) (η 0 19) := (k4.1.2.2.2.1 0 19 (by decide +kernel)).trans v24
  have f0_19 : η3 0 19 = η 0 19 := v25
  have w0_0_44 : (0 : Int) ≤ η 0 44 ∧ η 0 44 ≤ 64 := wf_ok (a := 44) (b := 44) (z := (0, 64)) hI.1.1 (by decide +kernel) (Nat.le_refl _) (Nat.le_refl _)
  have v27 : zEq (η1 0 44) (η 0 44) := (k1.1.2.2.2.1 0 44 (by decide +kernel)).trans rfl
  have v28 : zEq (η2 0 44) (η 0 44) := (k2.1.2.2.2.1 0 44 (by decide +kernel)).trans v27
  have v29 : zEq (η3 0 44) (η 0 44) := (k4.1.2.2.2.1 0 44 (by decide +kernel)).trans v28
  have f0_44 : η3 0 44 = η 0 44 := v29
  have w0_0_7 : (0 : Int) ≤ η 0 7 ∧ η 0 7 ≤ 700 := wf_ok (a := 7) (b := 7) (z := (0, 700)) hI.1.1 (by decide +kernel) (Nat.le_refl _) (Nat.le_refl _)
  have v31 : zEq (η1 0 7) (η 0 7) := (k1.1.2.2.2.1 0 7 (by decide +kernel)).trans rfl
  have v32 : zEq (η2 0 7) (η 0 7) := (k2.1.2.2.2.1 0 7 (by decide +kernel)).trans v31
  have v33 : zEq (η3 0 7) (η 0 7) := (k4.1.2.2.2.1 0 7 (by decide +kernel)).trans v32
  have f0_7 : η3 0 7 = η 0 7 := v33
  have w0_0_6 : (0 : Int) ≤ η 0 6 ∧ η 0 6 ≤ 700 := wf_ok (a := 6) (b := 6) (z := (0, 700)) hI.1.1 (by decide +kernel) (Nat.le_refl _) (Nat.le_refl _)
  have v35 : zEq (η1 0 6) (η 0 6) := (k1.1.2.2.2.1 0 6 (by decide +kernel)).trans rfl
  have v36 : zEq (η2 0 6) (η 0 6) := (k2.1.2.2.2.1 0 6 (by decide +kernel)).trans v35
  have v37 : zEq (η3 0 6) (η 0 6) := (k4.1.2.2.2.1 0 6 (by decide +kernel)).trans v36
  have f0_6 : η3 0 6 = η 0 6 := v37
  have v38 : zEq (η3 0 8) (η 0 8) := (k4.1.2.2.2.1 0 8 (by decide +kernel)).trans v2
  have f0_8 : η3 0 8 = η 0 8 := v38
  have wbE : wB wl_le zTr η3 := wb3
  
  have I0 : H_l 0 0 0 η := hig.1
  have I1 : H_l 0 0 0 η1 := k1.2.1
  have I2 : H_l 0 0 0 η2 := k2.2.1
  have I3 : H_l 0 0 0 η3 := k4.2.1
  exact I3
set_option maxHeartbeats 8000000 in
theorem zle_signs_o10 {ro : Nat → List Int32} (xs : List Int) (η0 : zE) (hp : sP wl_le zTr zPle_signs xs η0) (hpp : pPle_signs xs η0) (η : zE) (hI : zsI wl_le zTr zVle_signs zMle_signs η0 0 [] η) (hig : iCle_signs xs η0 0 [] η) : ∀ (x1 : Int) (η1 : zE), ((gC2 wl_le [(nat_lit 0, zPle_isSign, zOle_isSign, zMle_isSign), (nat_lit 1, zPle_wrong, zOle_wrong, zMle_wrong), (nat_lit 2, zPle_token, zOle_token, zMle_token), (nat_lit 3, zPle_isKey, zOle_isKey, zMle_isKey), (nat_lit 4, zPle_isCounted, zOle_isCounted, zMle_isCounted), (nat_lit 5, zPle_waitsFor, zOle_waitsFor, zMle_waitsFor), (nat_lit 6, zPle_rank, zOle_rank, zMle_rank), (nat_lit 7, zPle_bind, zOle_bind, zMle_bind)] pCle_signs qCle_signs) 3).2 [10] η x1 η1 → (x1 = 0) → ∀ (x2 : Int) (η2 : zE), ((gC2 wl_le [(nat_lit 0, zPle_isSign, zOle_isSign, zMle_isSign), (nat_lit 1, zPle_wrong, zOle_wrong, zMle_wrong), (nat_lit 2, zPle_token, zOle_token, zMle_token), (nat_lit 3, zPle_isKey, zOle_isKey, zMle_isKey), (nat_lit 4, zPle_isCounted, zOle_isCounted, zMle_isCounted), (nat_lit 5, zPle_waitsFor, zOle_waitsFor, zMle_waitsFor), (nat_lit 6, zPle_rank, zOle_rank, zMle_rank), (nat_lit 7, zPle_bind, zOle_bind, zMle_bind)] pCle_signs qCle_signs) 3).2 [11] η1 x2 η2 → (x2 = 0) → ∀ x3 : Int, x3 = η2 0 (Int.toNat 8) → zok 0 x3 → (¬ x3 = 5) → ∀ (x4 : Int) (η3 : zE), ((gC2 wl_le [(nat_lit 0, zPle_isSign, zOle_isSign, zMle_isSign), (nat_lit 1, zPle_wrong, zOle_wrong, zMle_wrong), (nat_lit 2, zPle_token, zOle_token, zMle_token), (nat_lit 3, zPle_isKey, zOle_isKey, zMle_isKey), (nat_lit 4, zPle_isCounted, zOle_isCounted, zMle_isCounted), (nat_lit 5, zPle_waitsFor, zOle_waitsFor, zMle_waitsFor), (nat_lit 6, zPle_rank, zOle_rank, zMle_rank), (nat_lit 7, zPle_bind, zOle_bind, zMle_bind)] pCle_signs qCle_signs) 0).2 [43] η2 x4 η3 → (x4 = 0) → ∀ (x5 : Int) (η4 : zE), ((gC2 wl_le [(nat_lit 0, zPle_isSign, zOle_isSign, zMle_isSign), (nat_lit 1, zPle_wrong, zOle_wrong, zMle_wrong), (nat_lit 2, zPle_token, zOle_token, zMle_token), (nat_lit 3, zPle_isKey, zOle_isKey, zMle_isKey), (nat_lit 4, zPle_isCounted, zOle_isCounted, zMle_isCounted), (nat_lit 5, zPle_waitsFor, zOle_waitsFor, zMle_waitsFor), (nat_lit 6, zPle_rank, zOle_rank, zMle_rank), (nat_lit 7, zPle_bind, zOle_bind, zMle_bind)] pCle_signs qCle_signs) 0).2 [45] η3 x5 η4 → (x5 = 0) → ((gC2 wl_le [(nat_lit 0, zPle_isSign, zOle_isSign, zMle_isSign), (nat_lit 1, zPle_wrong, zOle_wrong, zMle_wrong), (nat_lit 2, zPle_token, zOle_token, zMle_token), (nat_lit 3, zPle_isKey, zOle_isKey, zMle_isKey), (nat_lit 4, zPle_isCounted, zOle_isCounted, zMle_isCounted), (nat_lit 5, zPle_waitsFor, zOle_waitsFor, zMle_waitsFor), (nat_lit 6, zPle_rank, zOle_rank, zMle_rank), (nat_lit 7, zPle_bind, zOle_bind, zMle_bind)] pCle_signs qCle_signs) 0).1 [42] η4 := by
  have fig := hig.2
  have hig := hig.1
  have hw : η 0 45 = 0 := hig.2.1
  have hr1 : 1 ≤ η 0 19 := hig.2.2.1
  have hs1 : η 0 7 = η0 0 7 := hig.2.2.2.1
  have hs2 : η 0 6 = η0 0 6 := hig.2.2.2.2.1
  have hs3 : η 0 8 = η0 0 8 := hig.2.2.2.2.2
  have kk : η 0 8 = 5 → 0 ≤ η 0 9 ∧ η 0 9 ≤ 5 := hig.1.1.1.2.1.2
  have bd43 : (0 : Int) ≤ η 0 43 ∧ η 0 43 ≤ 8 := wf_ok (a := 43) (b := 43) (z := (0, 8)) hI.1.1 (by decide +kernel) (Nat.le_refl _) (Nat.le_refl _)
  have bd44 : (0 : Int) ≤ η 0 44 ∧ η 0 44 ≤ 64 := wf_ok (a := 44) (b := 44) (z := (0, 64)) hI.1.1 (by decide +kernel) (Nat.le_refl _) (Nat.le_refl _)
  have bd19 : (0 : Int) ≤ η 0 19 ∧ η 0 19 ≤ 64 := wf_ok (a := 19) (b := 19) (z := (0, 64)) hI.1.1 (by decide +kernel) (Nat.le_refl _) (Nat.le_refl _)
  obtain ⟨u1, u2, u3, u4⟩ := hig.1.2
  have cn := cz_n (η := η) (η 0 41).toNat
  intro x1 η1 h1 c1 x2 η2 h2 c2 x3 e3 r3 c3 x4 η3 h4 c4 x5 η4 h5 c5
  have y1 : fQle_isKey [10] η x1 η1 := h1.2.2
  have k1 : sQ wl_le zTr zOle_isKey zMle_isKey [10] η x1 η1 ∧ oQle_isKey [10] η x1 η1 := ⟨h1.1, h1.2.1⟩
  have y2 : fQle_isKey [11] η1 x2 η2 := h2.2.2
  have k2 : sQ wl_le zTr zOle_isKey zMle_isKey [11] η1 x2 η2 ∧ oQle_isKey [11] η1 x2 η2 := ⟨h2.1, h2.2.1⟩
  have y4 : fQle_isSign [43] η2 x4 η3 := h4.2.2
  have k4 : sQ wl_le zTr zOle_isSign zMle_isSign [43] η2 x4 η3 ∧ oQle_isSign [43] η2 x4 η3 := ⟨h4.1, h4.2.1⟩
  have y5 : fQle_isSign [45] η3 x5 η4 := h5.2.2
  have k5 : sQ wl_le zTr zOle_isSign zMle_isSign [45] η3 x5 η4 ∧ oQle_isSign [45] η3 x5 η4 := ⟨h5.1, h5.2.1⟩
  have w0_0_8 : (0 : Int) ≤ η 0 8 ∧ η 0 8 ≤ 6 := wf_ok (a := 8) (b := 8) (z := (0, 6)) hI.1.1 (by decide +kernel) (Nat.le_refl _) (Nat.le_refl _)
  have c0_0_8 : η 0 8 = η 0 8 := rfl
  have wb1 : wB wl_le zTr η1 := k1.1.1
  have bx1 : (0 : Int) ≤ x1 ∧ x1 ≤ 1 := k1.1.2.1
  have v1 : zEq (η1 0 8) (η 0 8) := (k1.1.2.2.2.1 0 8 (by decide +kernel)).trans rfl
  have c1_0_8 : η1 0 8 = η 0 8 := v1
  have wb2 : wB wl_le zTr η2 := k2.1.1
  have bx2 : (0 : Int) ≤ x2 ∧ x2 ≤ 1 := k2.1.2.1
  have v2 : zEq (η2 0 8) (η 0 8) := (k2.1.2.2.2.1 0 8 (by decide +kernel)).trans v1
  replace e3 : x3 = η 0 8 := e3.trans v2
  have c2_0_8 : η2 0 8 = η 0 8 := v2
  have wb3 : wB wl_le zTr η3 := k4.1.1
  have bx4 : (0 : Int) ≤ x4 ∧ x4 ≤ 1 := k4.1.2.1
  have v3 : zEq (η3 0 8) (η 0 8) := (k4.1.2.2.2.1 0 8 (by decide +kernel)).trans v2
  have c3_0_8 : η3 0 8 = η 0 8 := v3
  have wb4 : wB wl_le zTr η4 := k5.1.1
  have bx5 : (0 : Int) ≤ x5 ∧ x5 ≤ 1 := k5.1.2.1
  have fm1 : zFm zMle_signs η0 η1 := zFm_tr2 hI.2 k1.1.2.2.2.1 (by decide +kernel)
  have fm2 : zFm zMle_signs η0 η2 := zFm_tr2 fm1 k2.1.2.2.2.1 (by decide +kernel)
  have fm3 : zFm zMle_signs η0 η3 := zFm_tr2 fm2 k4.1.2.2.2.1 (by decide +kernel)
  have fm4 : zFm zMle_signs η0 η4 := zFm_tr2 fm3 k5.1.2.2.2.1 (by decide +kernel)
  have fmE : zFm zMle_signs η0 η4 := fm4
  have fr22_0 : ∀ j, η 22 j = η 22 j := fun _ => rfl
  have v4 : ∀ j, η1 22 j = η 22 j := fun j => k1.1.2.2.2.1 22 _ (zinr_not (by decide +kernel))
  have fr22_1 : ∀ j, η1 22 j = η 22 j := v4
  have v5 : ∀ j, η2 22 j = η 22 j := fun j => (k2.1.2.2.2.1 22 _ (zinr_not (by decide +kernel))).trans (v4 j)
  have fr22_2 : ∀ j, η2 22 j = η 22 j := v5
  have v6 : ∀ j, η3 22 j = η 22 j := fun j => (k4.1.2.2.2.1 22 _ (zinr_not (by decide +kernel))).trans (v5 j)
  have fr22_3 : ∀ j, η3 22 j = η 22 j := v6
  have v7 : ∀ j, η4 22 j = η 22 j := fun j => (k5.1.2.2.2.1 22 _ (zinr_not (by decide +kernel))).trans (v6 j)
  have fr22_4 : ∀ j, η4 22 j = η 22 j := v7
  have fr22 : ∀ j, η4 22 j = η 22 j := v7
  have v9 : zEq (η1 0 41) (η 0 41) := (k1.1.2.2.2.1 0 41 (by decide +kernel)).trans rfl
  have v10 : zEq (η2 0 41) (η 0 41) := (k2.1.2.2.2.1 0 41 (by decide +kernel)).trans v9
  have v11 : zEq (η3 0 41) (η 0 41) := (k4.1.2.2.2.1 0 41 (by decide +kernel)).trans v10
  have v12 : zEq (η4 0 41) (η 0 41) := (k5.1.2.2.2.1 0 41 (by decide +kernel)).trans v11
  have f0_41 : η4 0 41 = η 0 41 := v12
  have w0_0_43 : (0 : Int) ≤ η 0 43 ∧ η 0 43 ≤ 8 := wf_ok (a := 43) (b := 43) (z := (0, 8)) hI.1.1 (by decide +kernel) (Nat.le_refl _) (Nat.le_refl _)
  have v14 : zEq (η1 0 43) (η 0 43) := (k1.1.2.2.2.1 0 43 (by decide +kernel)).trans rfl
  have v15 : zEq (η2 0 43) (η 0 43) := (k2.1.2.2.2.1 0 43 (by decide +kernel)).trans v14
  have v16 : zEq (η3 0 43) (η 0 43) := (k4.1.2.2.2.1 0 43 (by decide +kernel)).trans v15
  have v17 : zEq (η4 0 43) (η 0 43) := (k5.1.2.2.2.1 0 43 (by decide +kernel)).trans v16
  have f0_43 : η4 0 43 = η 0 43 := v17
  have v19 : zEq (η1 0 42) (η 0 42) := (k1.1.2.2.2.1 0 42 (by decide +kernel)).trans rfl
  have v20 : zEq (η2 0 42) (η 0 42) := (k2.1.2.2.2.1 0 42 (by decide +kernel)).trans v19
  have v21 : zEq (η3 0 42) (η 0 42) := (k4.1.2.2.2.1 0 42 (by decide +kernel)).trans v20
  have v22 : zEq (η4 0 42) (η 0 42) := (k5.1.2.2.2.1 0 42 (by decide +kernel)).trans v21
  have f0_42 : η4 0 42 = η 0 42 := v22
  have v24 : zEq (η1 0 45) (η 0 45) := (k1.1.2.2.2.1 0 45 (by decide +kernel)).trans rfl
  have v25 : zEq (η2 0 45) (η 0 45) := (k2.1.2.2.2.1 0 45 (by decide +kernel)).trans v24
  have v26 : zEq (η3 0 45) (η 0 45) := (k4.1.2.2.2.1 0 45 (by decide +kernel)).trans v25
  have v27 : zEq (η4 0 45) (η 0 45) := (k5.1.2.2.2.1 0 45 (by decide +kernel)).trans v26
  have f0_45 : η4 0 45 = η 0 45 := v27
  have w0_0_19 : (0 : Int) ≤ η 0 19 ∧ η 0 19 ≤ 64 := wf_ok (a := 19) (b := 19) (z := (0, 64)) hI.1.1 (by decide +kernel) (Nat.le_refl _) (Nat.le_refl _)
  have v29 : zEq (η1 0 19) (η 0 19) := (k1.1.2.2.2.1 0 19 (by decide +kernel)).trans rfl
  have v30 : zEq (η2 0 19) (η 0 19) := (k2.1.2.2.2.1 0 19 (by decide +kernel)).trans v29
  have v31 : zEq (η3 0 19) (η 0 19) := (k4.1.2.2.2.1 0 19 (by decide +kernel)).trans v30
  have v32 : zEq (η4 0 19) (η 0 19) := (k5.1.2.2.2.1 0 19 (by decide +kernel)).trans v31
  have f0_19 : η4 0 19 = η 0 19 := v32
  have w0_0_44 : (0 : Int) ≤ η 0 44 ∧ η 0 44 ≤ 64 := wf_ok (a := 44) (b := 44) (z := (0, 64)) hI.1.1 (by decide +kernel) (Nat.le_refl _) (Nat.le_refl _)
  have v34 : zEq (η1 0 44) (η 0 44) := (k1.1.2.2.2.1 0 44 (by decide +kernel)).trans rfl
  have v35 : zEq (η2 0 44) (η 0 44) := (k2.1.2.2.2.1 0 44 (by decide +kernel)).trans v34
  have v36 : zEq (η3 0 44) (η 0 44) := (k4.1.2.2.2.1 0 44 (by decide +kernel)).trans v35
  have v37 : zEq (η4 0 44) (η 0 44) := (k5.1.2.2.2.1 0 44 (by decide +kernel)).trans v36
  have f0_44 : η4 0 44 = η 0 44 := v37
  have w0_0_7 : (0 : Int) ≤ η 0 7 ∧ η 0 7 ≤ 700 := wf_ok (a := 7) (b := 7) (z := (0, 700)) hI.1.1 (by decide +kernel) (Nat.le_refl _) (Nat.le_refl _)
  have v39 : zEq (η1 0 7) (η 0 7) := (k1.1.2.2.2.1 0 7 (by decide +kernel)).trans rfl
  have v40 : zEq (η2 0 7) (η 0 7) := (k2.1.2.2.2.1 0 7 (by decide +kernel)).trans v39
  have v41 : zEq (η3 0 7) (η 0 7) := (k4.1.2.2.2.1 0 7 (by decide +kernel)).trans v40
  have v42 : zEq (η4 0 7) (η 0 7) := (k5.1.2.2.2.1 0 7 (by decide +kernel)).trans v41
  have f0_7 : η4 0 7 = η 0 7 := v42
  have w0_0_6 : (0 : Int) ≤ η 0 6 ∧ η 0 6 ≤ 700 := wf_ok (a := 6) (b := 6) (z := (0, 700)) hI.1.1 (by decide +kernel) (Nat.le_refl _) (Nat.le_refl _)
  have v44 : zEq (η1 0 6) (η 0 6) := (k1.1.2.2.2.1 0 6 (by decide +kernel)).trans rfl
  have v45 : zEq (η2 0 6) (η 0 6) := (k2.1.2.2.2.1 0 6 (by decide +kernel)).trans v44
  have v46 : zEq (η3 0 6) (η 0 6) := (k4.1.2.2.2.1 0 6 (by decide +kernel)).trans v45
  have v47 : zEq (η4 0 6) (η 0 6) := (k5.1.2.2.2.1 0 6 (by decide +kernel)).trans v46
  have f0_6 : η4 0 6 = η 0 6 := v47
  have v48 : zEq (η4 0 8) (η 0 8) := (k5.1.2.2.2.1 0 8 (by decide +kernel)).trans v3
  have f0_8 : η4 0 8 = η 0 8 := v48
  have wbE : wB wl_le zTr η4 := wb4
  
  have I0 : H_l 0 0 0 η := hig.1
  have I1 : H_l 0 0 0 η1 := k1.2.1
  have I2 : H_l 0 0 0 η2 := k2.2.1
  have I3 : H_l 0 0 0 η3 := k4.2.1
  have I4 : H_l 0 0 0 η4 := k5.2.1
  exact I4
set_option maxHeartbeats 8000000 in
theorem zle_signs_o11 {ro : Nat → List Int32} (xs : List Int) (η0 : zE) (hp : sP wl_le zTr zPle_signs xs η0) (hpp : pPle_signs xs η0) (η : zE) (hI : zsI wl_le zTr zVle_signs zMle_signs η0 0 [] η) (hig : iCle_signs xs η0 0 [] η) : ∀ (x1 : Int) (η1 : zE), ((gC2 wl_le [(nat_lit 0, zPle_isSign, zOle_isSign, zMle_isSign), (nat_lit 1, zPle_wrong, zOle_wrong, zMle_wrong), (nat_lit 2, zPle_token, zOle_token, zMle_token), (nat_lit 3, zPle_isKey, zOle_isKey, zMle_isKey), (nat_lit 4, zPle_isCounted, zOle_isCounted, zMle_isCounted), (nat_lit 5, zPle_waitsFor, zOle_waitsFor, zMle_waitsFor), (nat_lit 6, zPle_rank, zOle_rank, zMle_rank), (nat_lit 7, zPle_bind, zOle_bind, zMle_bind)] pCle_signs qCle_signs) 3).2 [10] η x1 η1 → (x1 = 0) → ∀ (x2 : Int) (η2 : zE), ((gC2 wl_le [(nat_lit 0, zPle_isSign, zOle_isSign, zMle_isSign), (nat_lit 1, zPle_wrong, zOle_wrong, zMle_wrong), (nat_lit 2, zPle_token, zOle_token, zMle_token), (nat_lit 3, zPle_isKey, zOle_isKey, zMle_isKey), (nat_lit 4, zPle_isCounted, zOle_isCounted, zMle_isCounted), (nat_lit 5, zPle_waitsFor, zOle_waitsFor, zMle_waitsFor), (nat_lit 6, zPle_rank, zOle_rank, zMle_rank), (nat_lit 7, zPle_bind, zOle_bind, zMle_bind)] pCle_signs qCle_signs) 3).2 [11] η1 x2 η2 → (x2 = 0) → ∀ x3 : Int, x3 = η2 0 (Int.toNat 8) → zok 0 x3 → (¬ x3 = 5) → ∀ (x4 : Int) (η3 : zE), ((gC2 wl_le [(nat_lit 0, zPle_isSign, zOle_isSign, zMle_isSign), (nat_lit 1, zPle_wrong, zOle_wrong, zMle_wrong), (nat_lit 2, zPle_token, zOle_token, zMle_token), (nat_lit 3, zPle_isKey, zOle_isKey, zMle_isKey), (nat_lit 4, zPle_isCounted, zOle_isCounted, zMle_isCounted), (nat_lit 5, zPle_waitsFor, zOle_waitsFor, zMle_waitsFor), (nat_lit 6, zPle_rank, zOle_rank, zMle_rank), (nat_lit 7, zPle_bind, zOle_bind, zMle_bind)] pCle_signs qCle_signs) 0).2 [43] η2 x4 η3 → (x4 = 0) → ∀ (x5 : Int) (η4 : zE), ((gC2 wl_le [(nat_lit 0, zPle_isSign, zOle_isSign, zMle_isSign), (nat_lit 1, zPle_wrong, zOle_wrong, zMle_wrong), (nat_lit 2, zPle_token, zOle_token, zMle_token), (nat_lit 3, zPle_isKey, zOle_isKey, zMle_isKey), (nat_lit 4, zPle_isCounted, zOle_isCounted, zMle_isCounted), (nat_lit 5, zPle_waitsFor, zOle_waitsFor, zMle_waitsFor), (nat_lit 6, zPle_rank, zOle_rank, zMle_rank), (nat_lit 7, zPle_bind, zOle_bind, zMle_bind)] pCle_signs qCle_signs) 0).2 [45] η3 x5 η4 → (x5 = 0) → ∀ (x6 : Int) (η5 : zE), ((gC2 wl_le [(nat_lit 0, zPle_isSign, zOle_isSign, zMle_isSign), (nat_lit 1, zPle_wrong, zOle_wrong, zMle_wrong), (nat_lit 2, zPle_token, zOle_token, zMle_token), (nat_lit 3, zPle_isKey, zOle_isKey, zMle_isKey), (nat_lit 4, zPle_isCounted, zOle_isCounted, zMle_isCounted), (nat_lit 5, zPle_waitsFor, zOle_waitsFor, zMle_waitsFor), (nat_lit 6, zPle_rank, zOle_rank, zMle_rank), (nat_lit 7, zPle_bind, zOle_bind, zMle_bind)] pCle_signs qCle_signs) 0).2 [42] η4 x6 η5 → (x6 = 0) → ((gC2 wl_le [(nat_lit 0, zPle_isSign, zOle_isSign, zMle_isSign), (nat_lit 1, zPle_wrong, zOle_wrong, zMle_wrong), (nat_lit 2, zPle_token, zOle_token, zMle_token), (nat_lit 3, zPle_isKey, zOle_isKey, zMle_isKey), (nat_lit 4, zPle_isCounted, zOle_isCounted, zMle_isCounted), (nat_lit 5, zPle_waitsFor, zOle_waitsFor, zMle_waitsFor), (nat_lit 6, zPle_rank, zOle_rank, zMle_rank), (nat_lit 7, zPle_bind, zOle_bind, zMle_bind)] pCle_signs qCle_signs) 0).1 [47] η5 := by
  have fig := hig.2
  have hig := hig.1
  have hw : η 0 45 = 0 := hig.2.1
  have hr1 : 1 ≤ η 0 19 := hig.2.2.1
  have hs1 : η 0 7 = η0 0 7 := hig.2.2.2.1
  have hs2 : η 0 6 = η0 0 6 := hig.2.2.2.2.1
  have hs3 : η 0 8 = η0 0 8 := hig.2.2.2.2.2
  have kk : η 0 8 = 5 → 0 ≤ η 0 9 ∧ η 0 9 ≤ 5 := hig.1.1.1.2.1.2
  have bd43 : (0 : Int) ≤ η 0 43 ∧ η 0 43 ≤ 8 := wf_ok (a := 43) (b := 43) (z := (0, 8)) hI.1.1 (by decide +kernel) (Nat.le_refl _) (Nat.le_refl _)
  have bd44 : (0 : Int) ≤ η 0 44 ∧ η 0 44 ≤ 64 := wf_ok (a := 44) (b := 44) (z := (0, 64)) hI.1.1 (by decide +kernel) (Nat.le_refl _) (Nat.le_refl _)
  have bd19 : (0 : Int) ≤ η 0 19 ∧ η 0 19 ≤ 64 := wf_ok (a := 19) (b := 19) (z := (0, 64)) hI.1.1 (by decide +kernel) (Nat.le_refl _) (Nat.le_refl _)
  obtain ⟨u1, u2, u3, u4⟩ := hig.1.2
  have cn := cz_n (η := η) (η 0 41).toNat
  intro x1 η1 h1 c1 x2 η2 h2 c2 x3 e3 r3 c3 x4 η3 h4 c4 x5 η4 h5 c5 x6 η5 h6 c6
  have y1 : fQle_isKey [10] η x1 η1 := h1.2.2
  have k1 : sQ wl_le zTr zOle_isKey zMle_isKey [10] η x1 η1 ∧ oQle_isKey [10] η x1 η1 := ⟨h1.1, h1.2.1⟩
  have y2 : fQle_isKey [11] η1 x2 η2 := h2.2.2
  have k2 : sQ wl_le zTr zOle_isKey zMle_isKey [11] η1 x2 η2 ∧ oQle_isKey [11] η1 x2 η2 := ⟨h2.1, h2.2.1⟩
  have y4 : fQle_isSign [43] η2 x4 η3 := h4.2.2
  have k4 : sQ wl_le zTr zOle_isSign zMle_isSign [43] η2 x4 η3 ∧ oQle_isSign [43] η2 x4 η3 := ⟨h4.1, h4.2.1⟩
  have y5 : fQle_isSign [45] η3 x5 η4 := h5.2.2
  have k5 : sQ wl_le zTr zOle_isSign zMle_isSign [45] η3 x5 η4 ∧ oQle_isSign [45] η3 x5 η4 := ⟨h5.1, h5.2.1⟩
  have y6 : fQle_isSign [42] η4 x6 η5 := h6.2.2
  have k6 : sQ wl_le zTr zOle_isSign zMle_isSign [42] η4 x6 η5 ∧ oQle_isSign [42] η4 x6 η5 := ⟨h6.1, h6.2.1⟩
  have w0_0_8 : (0 : Int) ≤ η 0 8 ∧ η 0 8 ≤ 6 := wf_ok (a := 8) (b := 8) (z := (0, 6)) hI.1.1 (by decide +kernel) (Nat.le_refl _) (Nat.le_refl _)
  have c0_0_8 : η 0 8 = η 0 8 := rfl
  have wb1 : wB wl_le zTr η1 := k1.1.1
  have bx1 : (0 : Int) ≤ x1 ∧ x1 ≤ 1 := k1.1.2.1
  have v1 : zEq (η1 0 8) (η 0 8) := (k1.1.2.2.2.1 0 8 (by decide +kernel)).trans rfl
  have c1_0_8 : η1 0 8 = η 0 8 := v1
  have wb2 : wB wl_le zTr η2 := k2.1.1
  have bx2 : (0 : Int) ≤ x2 ∧ x2 ≤ 1 := k2.1.2.1
  have v2 : zEq (η2 0 8) (η 0 8) := (k2.1.2.2.2.1 0 8 (by decide +kernel)).trans v1
  replace e3 : x3 = η 0 8 := e3.trans v2
  have c2_0_8 : η2 0 8 = η 0 8 := v2
  have wb3 : wB wl_le zTr η3 := k4.1.1
  have bx4 : (0 : Int) ≤ x4 ∧ x4 ≤ 1 := k4.1.2.1
  have v3 : zEq (η3 0 8) (η 0 8) := (k4.1.2.2.2.1 0 8 (by decide +kernel)).trans v2
  have c3_0_8 : η3 0 8 = η 0 8 := v3
  have wb4 : wB wl_le zTr η4 := k5.1.1
  have bx5 : (0 : Int) ≤ x5 ∧ x5 ≤ 1 := k5.1.2.1
  have v4 : zEq (η4 0 8) (η 0 8) := (k5.1.2.2.2.1 0 8 (by decide +kernel)).trans v3
  have c4_0_8 : η4 0 8 = η 0 8 := v4
  have wb5 : wB wl_le zTr η5 := k6.1.1
  have bx6 : (0 : Int) ≤ x6 ∧ x6 ≤ 1 := k6.1.2.1
  have fm1 : zFm zMle_signs η0 η1 := zFm_tr2 hI.2 k1.1.2.2.2.1 (by decide +kernel)
  have fm2 : zFm zMle_signs η0 η2 := zFm_tr2 fm1 k2.1.2.2.2.1 (by decide +kernel)
  have fm3 : zFm zMle_signs η0 η3 := zFm_tr2 fm2 k4.1.2.2.2.1 (by decide +kernel)
  have fm4 : zFm zMle_signs η0 η4 := zFm_tr2 fm3 k5.1.2.2.2.1 (by decide +kernel)
  have fm5 : zFm zMle_signs η0 η5 := zFm_tr2 fm4 k6.1.2.2.2.1 (by decide +kernel)
  have fmE : zFm zMle_signs η0 η5 := fm5
  have fr22_0 : ∀ j, η 22 j = η 22 j := fun _ => rfl
  have v5 : ∀ j, η1 22 j = η 22 j := fun j => k1.1.2.2.2.1 22 _ (zinr_not (by decide +kernel))
  have fr22_1 : ∀ j, η1 22 j = η 22 j := v5
  have v6 : ∀ j, η2 22 j = η 22 j := fun j => (k2.1.2.2.2.1 22 _ (zinr_not (by decide +kernel))).trans (v5 j)
  have fr22_2 : ∀ j, η2 22 j = η 22 j := v6
  have v7 : ∀ j, η3 22 j = η 22 j := fun j => (k4.1.2.2.2.1 22 _ (zinr_not (by decide +kernel))).trans (v6 j)
  have fr22_3 : ∀ j, η3 22 j = η 22 j := v7
  have v8 : ∀ j, η4 22 j = η 22 j := fun j => (k5.1.2.2.2.1 22 _ (zinr_not (by decide +kernel))).trans (v7 j)
  have fr22_4 : ∀ j, η4 22 j = η 22 j := v8
  have v9 : ∀ j, η5 22 j = η 22 j := fun j => (k6.1.2.2.2.1 22 _ (zinr_not (by decide +kernel))).trans (v8 j)
  have fr22_5 : ∀ j, η5 22 j = η 22 j := v9
  have fr22 : ∀ j, η5 22 j = η 22 j := v9
  have v11 : zEq (η1 0 41) (η 0 41) := (k1.1.2.2.2.1 0 41 (by decide +kernel)).trans rfl
  have v12 : zEq (η2 0 41) (η 0 41) := (k2.1.2.2.2.1 0 41 (by decide +kernel)).trans v11
  have v13 : zEq (η3 0 41) (η 0 41) := (k4.1.2.2.2.1 0 41 (by decide +kernel)).trans v12
  have v14 : zEq (η4 0 41) (η 0 41) := (k5.1.2.2.2.1 0 41 (by decide +kernel)).trans v13
  have v15 : zEq (η5 0 41) (η 0 41) := (k6.1.2.2.2.1 0 41 (by decide +kernel)).trans v14
  have f0_41 : η5 0 41 = η 0 41 := v15
  have w0_0_43 : (0 : Int) ≤ η 0 43 ∧ η 0 43 ≤ 8 := wf_ok (a := 43) (b := 43) (z := (0, 8)) hI.1.1 (by decide +kernel) (Nat.le_refl _) (Nat.le_refl _)
  have v17 : zEq (η1 0 43) (η 0 43) := (k1.1.2.2.2.1 0 43 (by decide +kernel)).trans rfl
  have v18 : zEq (η2 0 43) (η 0 43) := (k2.1.2.2.2.1 0 43 (by decide +kernel)).trans v17
  have v19 : zEq (η3 0 43) (η 0 43) := (k4.1.2.2.2.1 0 43 (by decide +kernel)).trans v18
  have v20 : zEq (η4 0 43) (η 0 43) := (k5.1.2.2.2.1 0 43 (by decide +kernel)).trans v19
  have v21 : zEq (η5 0 43) (η 0 43) := (k6.1.2.2.2.1 0 43 (by decide +kernel)).trans v20
  have f0_43 : η5 0 43 = η 0 43 := v21
  have v23 : zEq (η1 0 42) (η 0 42) := (k1.1.2.2.2.1 0 42 (by decide +kernel)).trans rfl
  have v24 : zEq (η2 0 42) (η 0 42) := (k2.1.2.2.2.1 0 42 (by decide +kernel)).trans v23
  have v25 : zEq (η3 0 42) (η 0 42) := (k4.1.2.2.2.1 0 42 (by decide +kernel)).trans v24
  have v26 : zEq (η4 0 42) (η 0 42) := (k5.1.2.2.2.1 0 42 (by decide +kernel)).trans v25
  have v27 : zEq (η5 0 42) (η 0 42) := (k6.1.2.2.2.1 0 42 (by decide +kernel)).trans v26
  have f0_42 : η5 0 42 = η 0 42 := v27
  have v29 : zEq (η1 0 45) (η 0 45) := (k1.1.2.2.2.1 0 45 (by decide +kernel)).trans rfl
  have v30 : zEq (η2 0 45) (η 0 45) := (k2.1.2.2.2.1 0 45 (by decide +kernel)).trans v29
  have v31 : zEq (η3 0 45) (η 0 45) := (k4.1.2.2.2.1 0 45 (by decide +kernel)).trans v30
  have v32 : zEq (η4 0 45) (η 0 45) := (k5.1.2.2.2.1 0 45 (by decide +kernel)).trans v31
  have v33 : zEq (η5 0 45) (η 0 45) := (k6.1.2.2.2.1 0 45 (by decide +kernel)).trans v32
  have f0_45 : η5 0 45 = η 0 45 := v33
  have w0_0_19 : (0 : Int) ≤ η 0 19 ∧ η 0 19 ≤ 64 := wf_ok (a := 19) (b := 19) (z := (0, 64)) hI.1.1 (by decide +kernel) (Nat.le_refl _) (Nat.le_refl _)
  have v35 : zEq (η1 0 19) (η 0 19) := (k1.1.2.2.2.1 0 19 (by decide +kernel)).trans rfl
  have v36 : zEq (η2 0 19) (η 0 19) := (k2.1.2.2.2.1 0 19 (by decide +kernel)).trans v35
  have v37 : zEq (η3 0 19) (η 0 19) := (k4.1.2.2.2.1 0 19 (by decide +kernel)).trans v36
  have v38 : zEq (η4 0 19) (η 0 19) := (k5.1.2.2.2.1 0 19 (by decide +kernel)).trans v37
  have v39 : zEq (η5 0 19) (η 0 19) := (k6.1.2.2.2.1 0 19 (by decide +kernel)).trans v38
  have f0_19 : η5 0 19 = η 0 19 := v39
  have w0_0_44 : (0 : Int) ≤ η 0 44 ∧ η 0 44 ≤ 64 := wf_ok (a := 44) (b := 44) (z := (0, 64)) hI.1.1 (by decide +kernel) (Nat.le_refl _) (Nat.le_refl _)
  have v41 : zEq (η1 0 44) (η 0 44) := (k1.1.2.2.2.1 0 44 (by decide +kernel)).trans rfl
  have v42 : zEq (η2 0 44) (η 0 44) := (k2.1.2.2.2.1 0 44 (by decide +kernel)).trans v41
  have v43 : zEq (η3 0 44) (η 0 44) := (k4.1.2.2.2.1 0 44 (by decide +kernel)).trans v42
  have v44 : zEq (η4 0 44) (η 0 44) := (k5.1.2.2.2.1 0 44 (by decide +kernel)).trans v43
  have v45 : zEq (η5 0 44) (η 0 44) := (k6.1.2.2.2.1 0 44 (by decide +kernel)).trans v44
  have f0_44 : η5 0 44 = η 0 44 := v45
  have w0_0_7 : (0 : Int) ≤ η 0 7 ∧ η 0 7 ≤ 700 := wf_ok (a := 7) (b := 7) (z := (0, 700)) hI.1.1 (by decide +kernel) (Nat.le_refl _) (Nat.le_refl _)
  have v47 : zEq (η1 0 7) (η 0 7) := (k1.1.2.2.2.1 0 7 (by decide +kernel)).trans rfl
  have v48 : zEq (η2 0 7) (η 0 7) := (k2.1.2.2.2.1 0 7 (by decide +kernel)).trans v47
  have v49 : zEq (η3 0 7) (η 0 7) := (k4.1.2.2.2.1 0 7 (by decide +kernel)).trans v48
  have v50 : zEq (η4 0 7) (η 0 7) := (k5.1.2.2.2.1 0 7 (by decide +kernel)).trans v49
  have v51 : zEq (η5 0 7) (η 0 7) := (k6.1.2.2.2.1 0 7 (by decide +kernel)).trans v50
  have f0_7 : η5 0 7 = η 0 7 := v51
  have w0_0_6 : (0 : Int) ≤ η 0 6 ∧ η 0 6 ≤ 700 := wf_ok (a := 6) (b := 6) (z := (0, 700)) hI.1.1 (by decide +kernel) (Nat.le_refl _) (Nat.le_refl _)
  have v53 : zEq (η1 0 6) (η 0 6) := (k1.1.2.2.2.1 0 6 (by decide +kernel)).trans rfl
  have v54 : zEq (η2 0 6) (η 0 6) := (k2.1.2.2.2.1 0 6 (by decide +kernel)).trans v53
  have v55 : zEq (η3 0 6) (η 0 6) := (k4.1.2.2.2.1 0 6 (by decide +kernel)).trans v54
  have v56 : zEq (η4 0 6) (η 0 6) := (k5.1.2.2.2.1 0 6 (by decide +kernel)).trans v55
  have v57 : zEq (η5 0 6) (η 0 6) := (k6.1.2.2.2.1 0 6 (by decide +kernel)).trans v56
  have f0_6 : η5 0 6 = η 0 6 := v57
  have v58 : zEq (η5 0 8) (η 0 8) := (k6.1.2.2.2.1 0 8 (by decide +kernel)).trans v4
  have f0_8 : η5 0 8 = η 0 8 := v58
  have wbE : wB wl_le zTr η5 := wb5
  
  have I0 : H_l 0 0 0 η := hig.1
  have I1 : H_l 0 0 0 η1 := k1.2.1
  have I2 : H_l 0 0 0 η2 := k2.2.1
  have I3 : H_l 0 0 0 η3 := k4.2.1
  have I4 : H_l 0 0 0 η4 := k5.2.1
  have I5 : H_l 0 0 0 η5 := k6.2.1
  exact I5
set_option maxHeartbeats 8000000 in
theorem zle_signs_o12 {ro : Nat → List Int32} (xs : List Int) (η0 : zE) (hp : sP wl_le zTr zPle_signs xs η0) (hpp : pPle_signs xs η0) (η : zE) (hI : zsI wl_le zTr zVle_signs zMle_signs η0 0 [] η) (hig : iCle_signs xs η0 0 [] η) : ∀ (x1 : Int) (η1 : zE), ((gC2 wl_le [(nat_lit 0, zPle_isSign, zOle_isSign, zMle_isSign), (nat_lit 1, zPle_wrong, zOle_wrong, zMle_wrong), (nat_lit 2, zPle_token, zOle_token, zMle_token), (nat_lit 3, zPle_isKey, zOle_isKey, zMle_isKey), (nat_lit 4, zPle_isCounted, zOle_isCounted, zMle_isCounted), (nat_lit 5, zPle_waitsFor, zOle_waitsFor, zMle_waitsFor), (nat_lit 6, zPle_rank, zOle_rank, zMle_rank), (nat_lit 7, zPle_bind, zOle_bind, zMle_bind)] pCle_signs qCle_signs) 3).2 [10] η x1 η1 → (x1 = 0) → ∀ (x2 : Int) (η2 : zE), ((gC2 wl_le [(nat_lit 0, zPle_isSign, zOle_isSign, zMle_isSign), (nat_lit 1, zPle_wrong, zOle_wrong, zMle_wrong), (nat_lit 2, zPle_token, zOle_token, zMle_token), (nat_lit 3, zPle_isKey, zOle_isKey, zMle_isKey), (nat_lit 4, zPle_isCounted, zOle_isCounted, zMle_isCounted), (nat_lit 5, zPle_waitsFor, zOle_waitsFor, zMle_waitsFor), (nat_lit 6, zPle_rank, zOle_rank, zMle_rank), (nat_lit 7, zPle_bind, zOle_bind, zMle_bind)] pCle_signs qCle_signs) 3).2 [11] η1 x2 η2 → (x2 = 0) → ∀ x3 : Int, x3 = η2 0 (Int.toNat 8) → zok 0 x3 → (¬ x3 = 5) → ∀ (x4 : Int) (η3 : zE), ((gC2 wl_le [(nat_lit 0, zPle_isSign, zOle_isSign, zMle_isSign), (nat_lit 1, zPle_wrong, zOle_wrong, zMle_wrong), (nat_lit 2, zPle_token, zOle_token, zMle_token), (nat_lit 3, zPle_isKey, zOle_isKey, zMle_isKey), (nat_lit 4, zPle_isCounted, zOle_isCounted, zMle_isCounted), (nat_lit 5, zPle_waitsFor, zOle_waitsFor, zMle_waitsFor), (nat_lit 6, zPle_rank, zOle_rank, zMle_rank), (nat_lit 7, zPle_bind, zOle_bind, zMle_bind)] pCle_signs qCle_signs) 0).2 [43] η2 x4 η3 → (x4 = 0) → ∀ (x5 : Int) (η4 : zE), ((gC2 wl_le [(nat_lit 0, zPle_isSign, zOle_isSign, zMle_isSign), (nat_lit 1, zPle_wrong, zOle_wrong, zMle_wrong), (nat_lit 2, zPle_token, zOle_token, zMle_token), (nat_lit 3, zPle_isKey, zOle_isKey, zMle_isKey), (nat_lit 4, zPle_isCounted, zOle_isCounted, zMle_isCounted), (nat_lit 5, zPle_waitsFor, zOle_waitsFor, zMle_waitsFor), (nat_lit 6, zPle_rank, zOle_rank, zMle_rank), (nat_lit 7, zPle_bind, zOle_bind, zMle_bind)] pCle_signs qCle_signs) 0).2 [45] η3 x5 η4 → (x5 = 0) → ∀ (x6 : Int) (η5 : zE), ((gC2 wl_le [(nat_lit 0, zPle_isSign, zOle_isSign, zMle_isSign), (nat_lit 1, zPle_wrong, zOle_wrong, zMle_wrong), (nat_lit 2, zPle_token, zOle_token, zMle_token), (nat_lit 3, zPle_isKey, zOle_isKey, zMle_isKey), (nat_lit 4, zPle_isCounted, zOle_isCounted, zMle_isCounted), (nat_lit 5, zPle_waitsFor, zOle_waitsFor, zMle_waitsFor), (nat_lit 6, zPle_rank, zOle_rank, zMle_rank), (nat_lit 7, zPle_bind, zOle_bind, zMle_bind)] pCle_signs qCle_signs) 0).2 [42] η4 x6 η5 → (x6 = 0) → ∀ (x7 : Int) (η6 : zE), ((gC2 wl_le [(nat_lit 0, zPle_isSign, zOle_isSign, zMle_isSign), (nat_lit 1, zPle_wrong, zOle_wrong, zMle_wrong), (nat_lit 2, zPle_token, zOle_token, zMle_token), (nat_lit 3, zPle_isKey, zOle_isKey, zMle_isKey), (nat_lit 4, zPle_isCounted, zOle_isCounted, zMle_isCounted), (nat_lit 5, zPle_waitsFor, zOle_waitsFor, zMle_waitsFor), (nat_lit 6, zPle_rank, zOle_rank, zMle_rank), (nat_lit 7, zPle_bind, zOle_bind, zMle_bind)] pCle_signs qCle_signs) 0).2 [47] η5 x7 η6 → (x7 = 0) → (iCle_signs xs η0) 1 [0] η6 ∧ (fun (_ : Nat) (_ : List Int) (_ : zE) => (0 : Nat)) 1 [0] η6 < 1 := by
  have fig := hig.2
  have hig := hig.1
  intro x1 η1 h1 c1 x2 η2 h2 c2 x3 e3 r3 c3 x4 η3 h4 c4 x5 η4 h5 c5 x6 η5 h6 c6 x7 η6 h7 c7
  have y1 : fQle_isKey [10] η x1 η1 := h1.2.2
  have k1 : sQ wl_le zTr zOle_isKey zMle_isKey [10] η x1 η1 ∧ oQle_isKey [10] η x1 η1 := ⟨h1.1, h1.2.1⟩
  have y2 : fQle_isKey [11] η1 x2 η2 := h2.2.2
  have k2 : sQ wl_le zTr zOle_isKey zMle_isKey [11] η1 x2 η2 ∧ oQle_isKey [11] η1 x2 η2 := ⟨h2.1, h2.2.1⟩
  have y4 : fQle_isSign [43] η2 x4 η3 := h4.2.2
  have k4 : sQ wl_le zTr zOle_isSign zMle_isSign [43] η2 x4 η3 ∧ oQle_isSign [43] η2 x4 η3 := ⟨h4.1, h4.2.1⟩
  have y5 : fQle_isSign [45] η3 x5 η4 := h5.2.2
  have k5 : sQ wl_le zTr zOle_isSign zMle_isSign [45] η3 x5 η4 ∧ oQle_isSign [45] η3 x5 η4 := ⟨h5.1, h5.2.1⟩
  have y6 : fQle_isSign [42] η4 x6 η5 := h6.2.2
  have k6 : sQ wl_le zTr zOle_isSign zMle_isSign [42] η4 x6 η5 ∧ oQle_isSign [42] η4 x6 η5 := ⟨h6.1, h6.2.1⟩
  have y7 : fQle_isSign [47] η5 x7 η6 := h7.2.2
  have k7 : sQ wl_le zTr zOle_isSign zMle_isSign [47] η5 x7 η6 ∧ oQle_isSign [47] η5 x7 η6 := ⟨h7.1, h7.2.1⟩
  refine yj_c ?_ ?_
  · have hw : η 0 45 = 0 := hig.2.1
    have hr1 : 1 ≤ η 0 19 := hig.2.2.1
    have hs1 : η 0 7 = η0 0 7 := hig.2.2.2.1
    have hs2 : η 0 6 = η0 0 6 := hig.2.2.2.2.1
    have hs3 : η 0 8 = η0 0 8 := hig.2.2.2.2.2
    have kk : η 0 8 = 5 → 0 ≤ η 0 9 ∧ η 0 9 ≤ 5 := hig.1.1.1.2.1.2
    have bd43 : (0 : Int) ≤ η 0 43 ∧ η 0 43 ≤ 8 := wf_ok (a := 43) (b := 43) (z := (0, 8)) hI.1.1 (by decide +kernel) (Nat.le_refl _) (Nat.le_refl _)
    have bd44 : (0 : Int) ≤ η 0 44 ∧ η 0 44 ≤ 64 := wf_ok (a := 44) (b := 44) (z := (0, 64)) hI.1.1 (by decide +kernel) (Nat.le_refl _) (Nat.le_refl _)
    have bd19 : (0 : Int) ≤ η 0 19 ∧ η 0 19 ≤ 64 := wf_ok (a := 19) (b := 19) (z := (0, 64)) hI.1.1 (by decide +kernel) (Nat.le_refl _) (Nat.le_refl _)
    obtain ⟨u1, u2, u3, u4⟩ := hig.1.2
    have cn := cz_n (η := η) (η 0 41).toNat
    have y1 : fQle_isKey [10] η x1 η1 := h1.2.2
    have k1 : sQ wl_le zTr zOle_isKey zMle_isKey [10] η x1 η1 ∧ oQle_isKey [10] η x1 η1 := ⟨h1.1, h1.2.1⟩
    have y2 : fQle_isKey [11] η1 x2 η2 := h2.2.2
    have k2 : sQ wl_le zTr zOle_isKey zMle_isKey [11] η1 x2 η2 ∧ oQle_isKey [11] η1 x2 η2 := ⟨h2.1, h2.2.1⟩
    have y4 : fQle_isSign [43] η2 x4 η3 := h4.2.2
    have k4 : sQ wl_le zTr zOle_isSign zMle_isSign [43] η2 x4 η3 ∧ oQle_isSign [43] η2 x4 η3 := ⟨h4.1, h4.2.1⟩
    have y5 : fQle_isSign [45] η3 x5 η4 := h5.2.2
    have k5 : sQ wl_le zTr zOle_isSign zMle_isSign [45] η3 x5 η4 ∧ oQle_isSign [45] η3 x5 η4 := ⟨h5.1, h5.2.1⟩
    have y6 : fQle_isSign [42] η4 x6 η5 := h6.2.2
    have k6 : sQ wl_le zTr zOle_isSign zMle_isSign [42] η4 x6 η5 ∧ oQle_isSign [42] η4 x6 η5 := ⟨h6.1, h6.2.1⟩
    have y7 : fQle_isSign [47] η5 x7 η6 := h7.2.2
    have k7 : sQ wl_le zTr zOle_isSign zMle_isSign [47] η5 x7 η6 ∧ oQle_isSign [47] η5 x7 η6 := ⟨h7.1, h7.2.1⟩
    have w0_0_8 : (0 : Int) ≤ η 0 8 ∧ η 0 8 ≤ 6 := wf_ok (a := 8) (b := 8) (z := (0, 6)) hI.1.1 (by decide +kernel) (Nat.le_refl _) (Nat.le_refl _)
    have c0_0_8 : η 0 8 = η 0 8 := rfl
    have wb1 : wB wl_le zTr η1 := k1.1.1
    have bx1 : (0 : Int) ≤ x1 ∧ x1 ≤ 1 := k1.1.2.1
    have v1 : zEq (η1 0 8) (η 0 8) := (k1.1.2.2.2.1 0 8 (by decide +kernel)).trans rfl
    have c1_0_8 : η1 0 8 = η 0 8 := v1
    have wb2 : wB wl_le zTr η2 := k2.1.1
    have bx2 : (0 : Int) ≤ x2 ∧ x2 ≤ 1 := k2.1.2.1
    have v2 : zEq (η2 0 8) (η 0 8) := (k2.1.2.2.2.1 0 8 (by decide +kernel)).trans v1
    replace e3 : x3 = η 0 8 := e3.trans v2
    have c2_0_8 : η2 0 8 = η 0 8 := v2
    have wb3 : wB wl_le zTr η3 := k4.1.1
    have bx4 : (0 : Int) ≤ x4 ∧ x4 ≤ 1 := k4.1.2.1
    have v3 : zEq (η3 0 8) (η 0 8) := (k4.1.2.2.2.1 0 8 (by decide +kernel)).trans v2
    have c3_0_8 : η3 0 8 = η 0 8 := v3
    have wb4 : wB wl_le zTr η4 := k5.1.1
    have bx5 : (0 : Int) ≤ x5 ∧ x5 ≤ 1 := k5.1.2.1
    have v4 : zEq (η4 0 8) (η 0 8) := (k5.1.2.2.2.1 0 8 (by decide +kernel)).trans v3
    have c4_0_8 : η4 0 8 = η 0 8 := v4
    have wb5 : wB wl_le zTr η5 := k6.1.1
    have bx6 : (0 : Int) ≤ x6 ∧ x6 ≤ 1 := k6.1.2.1
    have v5 : zEq (η5 0 8) (η 0 8) := (k6.1.2.2.2.1 0 8 (by decide +kernel)).trans v4
    have c5_0_8 : η5 0 8 = η 0 8 := v5
    have wb6 : wB wl_le zTr η6 := k7.1.1
    have bx7 : (0 : Int) ≤ x7 ∧ x7 ≤ 1 := k7.1.2.1
    have fm1 : zFm zMle_signs η0 η1 := zFm_tr2 hI.2 k1.1.2.2.2.1 (by decide +kernel)
    have fm2 : zFm zMle_signs η0 η2 := zFm_tr2 fm1 k2.1.2.2.2.1 (by decide +kernel)
    have fm3 : zFm zMle_signs η0 η3 := zFm_tr2 fm2 k4.1.2.2.2.1 (by decide +kernel)
    have fm4 : zFm zMle_signs η0 η4 := zFm_tr2 fm3 k5.1.2.2.2.1 (by decide +kernel)
    have fm5 : zFm zMle_signs η0 η5 := zFm_tr2 fm4 k6.1.2.2.2.1 (by decide +kernel)
    have fm6 : zFm zMle_signs η0 η6 := zFm_tr2 fm5 k7.1.2.2.2.1 (by decide +kernel)
    have fmE : zFm zMle_signs η0 η6 := fm6
    have fr22_0 : ∀ j, η 22 j = η 22 j := fun _ => rfl
    have v6 : ∀ j, η1 22 j = η 22 j := fun j => k1.1.2.2.2.1 22 _ (zinr_not (by decide +kernel))
    have fr22_1 : ∀ j, η1 22 j = η 22 j := v6
    have v7 : ∀ j, η2 22 j = η 22 j := fun j => (k2.1.2.2.2.1 22 _ (zinr_not (by decide +kernel))).trans (v6 j)
    have fr22_2 : ∀ j, η2 22 j = η 22 j := v7
    have v8 : ∀ j, η3 22 j = η 22 j := fun j => (k4.1.2.2.2.1 22 _ (zinr_not (by decide +kernel))).trans (v7 j)
    have fr22_3 : ∀ j, η3 22 j = η 22 j := v8
    have v9 : ∀ j, η4 22 j = η 22 j := fun j => (k5.1.2.2.2.1 22 _ (zinr_not (by decide +kernel))).trans (v8 j)
    have fr22_4 : ∀ j, η4 22 j = η 22 j := v9
    have v10 : ∀ j, η5 22 j = η 22 j := fun j => (k6.1.2.2.2.1 22 _ (zinr_not (by decide +kernel))).trans (v9 j)
    have fr22_5 : ∀ j, η5 22 j = η 22 j := v10
    have v11 : ∀ j, η6 22 j = η 22 j := fun j => (k7.1.2.2.2.1 22 _ (zinr_not (by decide +kernel))).trans (v10 j)
    have fr22_6 : ∀ j, η6 22 j = η 22 j := v11
    have fr22 : ∀ j, η6 22 j = η 22 j := v11
    have v13 : zEq (η1 0 41) (η 0 41) := (k1.1.2.2.2.1 0 41 (by decide +kernel)).trans rfl
    have v14 : zEq (η2 0 41) (η 0 41) := (k2.1.2.2.2.1 0 41 (by decide +kernel)).trans v13
    have v15 : zEq (η3 0 41) (η 0 41) := (k4.1.2.2.2.1 0 41 (by decide +kernel)).trans v14
    have v16 : zEq (η4 0 41) (η 0 41) := (k5.1.2.2.2.1 0 41 (by decide +kernel)).trans v15
    have v17 : zEq (η5 0 41) (η 0 41) := (k6.1.2.2.2.1 0 41 (by decide +kernel)).trans v16
    have v18 : zEq (η6 0 41) (η 0 41) := (k7.1.2.2.2.1 0 41 (by decide +kernel)).trans v17
    have f0_41 : η6 0 41 = η 0 41 := v18
    have w0_0_43 : (0 : Int) ≤ η 0 43 ∧ η 0 43 ≤ 8 := wf_ok (a := 43) (b := 43) (z := (0, 8)) hI.1.1 (by decide +kernel) (Nat.le_refl _) (Nat.le_refl _)
    have v20 : zEq (η1 0 43) (η 0 43) := (k1.1.2.2.2.1 0 43 (by decide +kernel)).trans rfl
    have v21 : zEq (η2 0 43) (η 0 43) := (k2.1.2.2.2.1 0 43 (by decide +kernel)).trans v20
    have v22 : zEq (η3 0 43) (η 0 43) := (k4.1.2.2.2.1 0 43 (by decide +kernel)).trans v21
    have v23 : zEq (η4 0 43) (η 0 43) := (k5.1.2.2.2.1 0 43 (by decide +kernel)).trans v22
    have v24 : zEq (η5 0 43) (η 0 43) := (k6.1.2.2.2.1 0 43 (by decide +kernel)).trans v23
    have v25 : zEq (η6 0 43) (η 0 43) := (k7.1.2.2.2.1 0 43 (by decide +kernel)).trans v24
    have f0_43 : η6 0 43 = η 0 43 := v25
    have v27 : zEq (η1 0 42) (η 0 42) := (k1.1.2.2.2.1 0 42 (by decide +kernel)).trans rfl
    have v28 : zEq (η2 0 42) (η 0 42) := (k2.1.2.2.2.1 0 42 (by decide +kernel)).trans v27
    have v29 : zEq (η3 0 42) (η 0 42) := (k4.1.2.2.2.1 0 42 (by decide +kernel)).trans v28
    have v30 : zEq (η4 0 42) (η 0 42) := (k5.1.2.2.2.1 0 42 (by decide +kernel)).trans v29
    have v31 : zEq (η5 0 42) (η 0 42) := (k6.1.2.2.2.1 0 42 (by decide +kernel)).trans v30
    have v32 : zEq (η6 0 42) (η 0 42) := (k7.1.2.2.2.1 0 42 (by decide +kernel)).trans v31
    have f0_42 : η6 0 42 = η 0 42 := v32
    have v34 : zEq (η1 0 45) (η 0 45) := (k1.1.2.2.2.1 0 45 (by decide +kernel)).trans rfl
    have v35 : zEq (η2 0 45) (η 0 45) := (k2.1.2.2.2.1 0 45 (by decide +kernel)).trans v34
    have v36 : zEq (η3 0 45) (η 0 45) := (k4.1.2.2.2.1 0 45 (by decide +kernel)).trans v35
    have v37 : zEq (η4 0 45) (η 0 45) := (k5.1.2.2.2.1 0 45 (by decide +kernel)).trans v36
    have v38 : zEq (η5 0 45) (η 0 45) := (k6.1.2.2.2.1 0 45 (by decide +kernel)).trans v37
    have v39 : zEq (η6 0 45) (η 0 45) := (k7.1.2.2.2.1 0 45 (by decide +kernel)).trans v38
    have f0_45 : η6 0 45 = η 0 45 := v39
    have w0_0_19 : (0 : Int) ≤ η 0 19 ∧ η 0 19 ≤ 64 := wf_ok (a := 19) (b := 19) (z := (0, 64)) hI.1.1 (by decide +kernel) (Nat.le_refl _) (Nat.le_refl _)
    have v41 : zEq (η1 0 19) (η 0 19) := (k1.1.2.2.2.1 0 19 (by decide +kernel)).trans rfl
    have v42 : zEq (η2 0 19) (η 0 19) := (k2.1.2.2.2.1 0 19 (by decide +kernel)).trans v41
    have v43 : zEq (η3 0 19) (η 0 19) := (k4.1.2.2.2.1 0 19 (by decide +kernel)).trans v42
    have v44 : zEq (η4 0 19) (η 0 19) := (k5.1.2.2.2.1 0 19 (by decide +kernel)).trans v43
    have v45 : zEq (η5 0 19) (η 0 19) := (k6.1.2.2.2.1 0 19 (by decide +kernel)).trans v44
    have v46 : zEq (η6 0 19) (η 0 19) := (k7.1.2.2.2.1 0 19 (by decide +kernel)).trans v45
    have f0_19 : η6 0 19 = η 0 19 := v46
    have w0_0_44 : (0 : Int) ≤ η 0 44 ∧ η 0 44 ≤ 64 := wf_ok (a := 44) (b := 44) (z := (0, 64)) hI.1.1 (by decide +kernel) (Nat.le_refl _) (Nat.le_refl _)
    have v48 : zEq (η1 0 44) (η 0 44) := (k1.1.2.2.2.1 0 44 (by decide +kernel)).trans rfl
    have v49 : zEq (η2 0 44) (η 0 44) := (k2.1.2.2.2.1 0 44 (by decide +kernel)).trans v48
    have v50 : zEq (η3 0 44) (η 0 44) := (k4.1.2.2.2.1 0 44 (by decide +kernel)).trans v49
    have v51 : zEq (η4 0 44) (η 0 44) := (k5.1.2.2.2.1 0 44 (by decide +kernel)).trans v50
    have v52 : zEq (η5 0 44) (η 0 44) := (k6.1.2.2.2.1 0 44 (by decide +kernel)).trans v51
    have v53 : zEq (η6 0 44) (η 0 44) := (k7.1.2.2.2.1 0 44 (by decide +kernel)).trans v52
    have f0_44 : η6 0 44 = η 0 44 := v53
    have w0_0_7 : (0 : Int) ≤ η 0 7 ∧ η 0 7 ≤ 700 := wf_ok (a := 7) (b := 7) (z := (0, 700)) hI.1.1 (by decide +kernel) (Nat.le_refl _) (Nat.le_refl _)
    have v55 : zEq (η1 0 7) (η 0 7) := (k1.1.2.2.2.1 0 7 (by decide +kernel)).trans rfl
    have v56 : zEq (η2 0 7) (η 0 7) := (k2.1.2.2.2.1 0 7 (by decide +kernel)).trans v55
    have v57 : zEq (η3 0 7) (η 0 7) := (k4.1.2.2.2.1 0 7 (by decide +kernel)).trans v56
    have v58 : zEq (η4 0 7) (η 0 7) := (k5.1.2.2.2.1 0 7 (by decide +kernel)).trans v57
    have v59 : zEq (η5 0 7) (η 0 7) := (k6.1.2.2.2.1 0 7 (by decide +kernel)).trans v58
    have v60 : zEq (η6 0 7) (η 0 7) := (k7.1.2.2.2.1 0 7 (by decide +kernel)).trans v59
    have f0_7 : η6 0 7 = η 0 7 := v60
    have w0_0_6 : (0 : Int) ≤ η 0 6 ∧ η 0 6 ≤ 700 := wf_ok (a := 6) (b := 6) (z := (0, 700)) hI.1.1 (by decide +kernel) (Nat.le_refl _) (Nat.le_refl _)
    have v62 : zEq (η1 0 6) (η 0 6) := (k1.1.2.2.2.1 0 6 (by decide +kernel)).trans rfl
    have v63 : zEq (η2 0 6) (η 0 6) := (k2.1.2.2.2.1 0 6 (by decide +kernel)).trans v62
    have v64 : zEq (η3 0 6) (η 0 6) := (k4.1.2.2.2.1 0 6 (by decide +kernel)).trans v63
    have v65 : zEq (η4 0 6) (η 0 6) := (k5.1.2.2.2.1 0 6 (by decide +kernel)).trans v64
    have v66 : zEq (η5 0 6) (η 0 6) := (k6.1.2.2.2.1 0 6 (by decide +kernel)).trans v65
    have v67 : zEq (η6 0 6) (η 0 6) := (k7.1.2.2.2.1 0 6 (by decide +kernel)).trans v66
    have f0_6 : η6 0 6 = η 0 6 := v67
    have v68 : zEq (η6 0 8) (η 0 8) := (k7.1.2.2.2.1 0 8 (by decide +kernel)).trans v5
    have f0_8 : η6 0 8 = η 0 8 := v68
    have wbE : wB wl_le zTr η6 := wb6
    
    have I0 : H_l 0 0 0 η := hig.1
    have I1 : H_l 0 0 0 η1 := k1.2.1
    have I2 : H_l 0 0 0 η2 := k2.2.1
    have I3 : H_l 0 0 0 η3 := k4.2.1
    have I4 : H_l 0 0 0 η4 := k5.2.1
    have I5 : H_l 0 0 0 η5 := k6.2.1
    have I6 : H_l 0 0 0 η6 := k7.2.1
    exact ⟨⟨I6, show η6 0 45 = 0 by apply Int.le_antisymm <;> omega, show 1 ≤ η6 0 19 by omega, show η6 0 7 = η0 0 7 by apply Int.le_antisymm <;> omega, show η6 0 6 = η0 0 6 by apply Int.le_antisymm <;> omega, show η6 0 8 = η0 0 8 by apply Int.le_antisymm <;> omega, Or.inl rfl⟩, Nat.zero_lt_one⟩
  · have fig : yq_sgn η0 = yq_sgB (yq_sk η) η := fig
    show yq_sgn η0 = yq_sgB 0 η6
    obtain ⟨a1, b1⟩ : x1 = (yq_isK 10 η) ∧ η1 = η := y1
    clear k1 h1
    obtain ⟨a2, b2⟩ : x2 = (yq_isK 11 η1) ∧ η2 = η1 := y2
    clear k2 h2
    have e3 : x3 = η2 0 8 := e3
    clear r3
    obtain ⟨a4, b4⟩ : x4 = (yq_isS 43 η2) ∧ η3 = η2 := y4
    clear k4 h4
    obtain ⟨a5, b5⟩ : x5 = (yq_isS 45 η3) ∧ η4 = η3 := y5
    clear k5 h5
    obtain ⟨a6, b6⟩ : x6 = (yq_isS 42 η4) ∧ η5 = η4 := y6
    clear k6 h6
    obtain ⟨a7, b7⟩ : x7 = (yq_isS 47 η5) ∧ η6 = η5 := y7
    clear k7 h7
    subst a1; subst b1
    subst a2; subst b2
    subst e3
    subst a4; subst b4
    subst a5; subst b5
    subst a6; subst b6
    subst a7; subst b7
    refine fig.trans (congrArg (fun k => yq_sgB k _) ?_)
    unfold yq_sk
    (repeat' split) <;> first | (exfalso; omega) | exact ⟨rfl, rfl⟩ | rfl
set_option maxHeartbeats 8000000 in
theorem zle_signs_o13 {ro : Nat → List Int32} (xs : List Int) (η0 : zE) (hp : sP wl_le zTr zPle_signs xs η0) (hpp : pPle_signs xs η0) (η : zE) (hI : zsI wl_le zTr zVle_signs zMle_signs η0 0 [] η) (hig : iCle_signs xs η0 0 [] η) : ∀ (x1 : Int) (η1 : zE), ((gC2 wl_le [(nat_lit 0, zPle_isSign, zOle_isSign, zMle_isSign), (nat_lit 1, zPle_wrong, zOle_wrong, zMle_wrong), (nat_lit 2, zPle_token, zOle_token, zMle_token), (nat_lit 3, zPle_isKey, zOle_isKey, zMle_isKey), (nat_lit 4, zPle_isCounted, zOle_isCounted, zMle_isCounted), (nat_lit 5, zPle_waitsFor, zOle_waitsFor, zMle_waitsFor), (nat_lit 6, zPle_rank, zOle_rank, zMle_rank), (nat_lit 7, zPle_bind, zOle_bind, zMle_bind)] pCle_signs qCle_signs) 3).2 [10] η x1 η1 → (x1 = 0) → ∀ (x2 : Int) (η2 : zE), ((gC2 wl_le [(nat_lit 0, zPle_isSign, zOle_isSign, zMle_isSign), (nat_lit 1, zPle_wrong, zOle_wrong, zMle_wrong), (nat_lit 2, zPle_token, zOle_token, zMle_token), (nat_lit 3, zPle_isKey, zOle_isKey, zMle_isKey), (nat_lit 4, zPle_isCounted, zOle_isCounted, zMle_isCounted), (nat_lit 5, zPle_waitsFor, zOle_waitsFor, zMle_waitsFor), (nat_lit 6, zPle_rank, zOle_rank, zMle_rank), (nat_lit 7, zPle_bind, zOle_bind, zMle_bind)] pCle_signs qCle_signs) 3).2 [11] η1 x2 η2 → (x2 = 0) → ∀ x3 : Int, x3 = η2 0 (Int.toNat 8) → zok 0 x3 → (¬ x3 = 5) → ∀ (x4 : Int) (η3 : zE), ((gC2 wl_le [(nat_lit 0, zPle_isSign, zOle_isSign, zMle_isSign), (nat_lit 1, zPle_wrong, zOle_wrong, zMle_wrong), (nat_lit 2, zPle_token, zOle_token, zMle_token), (nat_lit 3, zPle_isKey, zOle_isKey, zMle_isKey), (nat_lit 4, zPle_isCounted, zOle_isCounted, zMle_isCounted), (nat_lit 5, zPle_waitsFor, zOle_waitsFor, zMle_waitsFor), (nat_lit 6, zPle_rank, zOle_rank, zMle_rank), (nat_lit 7, zPle_bind, zOle_bind, zMle_bind)] pCle_signs qCle_signs) 0).2 [43] η2 x4 η3 → (x4 = 0) → ∀ (x5 : Int) (η4 : zE), ((gC2 wl_le [(nat_lit 0, zPle_isSign, zOle_isSign, zMle_isSign), (nat_lit 1, zPle_wrong, zOle_wrong, zMle_wrong), (nat_lit 2, zPle_token, zOle_token, zMle_token), (nat_lit 3, zPle_isKey, zOle_isKey, zMle_isKey), (nat_lit 4, zPle_isCounted, zOle_isCounted, zMle_isCounted), (nat_lit 5, zPle_waitsFor, zOle_waitsFor, zMle_waitsFor), (nat_lit 6, zPle_rank, zOle_rank, zMle_rank), (nat_lit 7, zPle_bind, zOle_bind, zMle_bind)] pCle_signs qCle_signs) 0).2 [45] η3 x5 η4 → (x5 = 0) → ∀ (x6 : Int) (η5 : zE), ((gC2 wl_le [(nat_lit 0, zPle_isSign, zOle_isSign, zMle_isSign), (nat_lit 1, zPle_wrong, zOle_wrong, zMle_wrong), (nat_lit 2, zPle_token, zOle_token, zMle_token), (nat_lit 3, zPle_isKey, zOle_isKey, zMle_isKey), (nat_lit 4, zPle_isCounted, zOle_isCounted, zMle_isCounted), (nat_lit 5, zPle_waitsFor, zOle_waitsFor, zMle_waitsFor), (nat_lit 6, zPle_rank, zOle_rank, zMle_rank), (nat_lit 7, zPle_bind, zOle_bind, zMle_bind)] pCle_signs qCle_signs) 0).2 [42] η4 x6 η5 → (x6 = 0) → ∀ (x7 : Int) (η6 : zE), ((gC2 wl_le [(nat_lit 0, zPle_isSign, zOle_isSign, zMle_isSign), (nat_lit 1, zPle_wrong, zOle_wrong, zMle_wrong), (nat_lit 2, zPle_token, zOle_token, zMle_token), (nat_lit 3, zPle_isKey, zOle_isKey, zMle_isKey), (nat_lit 4, zPle_isCounted, zOle_isCounted, zMle_isCounted), (nat_lit 5, zPle_waitsFor, zOle_waitsFor, zMle_waitsFor), (nat_lit 6, zPle_rank, zOle_rank, zMle_rank), (nat_lit 7, zPle_bind, zOle_bind, zMle_bind)] pCle_signs qCle_signs) 0).2 [47] η5 x7 η6 → (¬ x7 = 0) → (iCle_signs xs η0) 1 [14] η6 ∧ (fun (_ : Nat) (_ : List Int) (_ : zE) => (0 : Nat)) 1 [14] η6 < 1 := by
  have fig := hig.2
  have hig := hig.1
  intro x1 η1 h1 c1 x2 η2 h2 c2 x3 e3 r3 c3 x4 η3 h4 c4 x5 η4 h5 c5 x6 η5 h6 c6 x7 η6 h7 c7
  have y1 : fQle_isKey [10] η x1 η1 := h1.2.2
  have k1 : sQ wl_le zTr zOle_isKey zMle_isKey [10] η x1 η1 ∧ oQle_isKey [10] η x1 η1 := ⟨h1.1, h1.2.1⟩
  have y2 : fQle_isKey [11] η1 x2 η2 := h2.2.2
  have k2 : sQ wl_le zTr zOle_isKey zMle_isKey [11] η1 x2 η2 ∧ oQle_isKey [11] η1 x2 η2 := ⟨h2.1, h2.2.1⟩
  have y4 : fQle_isSign [43] η2 x4 η3 := h4.2.2
  have k4 : sQ wl_le zTr zOle_isSign zMle_isSign [43] η2 x4 η3 ∧ oQle_isSign [43] η2 x4 η3 := ⟨h4.1, h4.2.1⟩
  have y5 : fQle_isSign [45] η3 x5 η4 := h5.2.2
  have k5 : sQ wl_le zTr zOle_isSign zMle_isSign [45] η3 x5 η4 ∧ oQle_isSign [45] η3 x5 η4 := ⟨h5.1, h5.2.1⟩
  have y6 : fQle_isSign [42] η4 x6 η5 := h6.2.2
  have k6 : sQ wl_le zTr zOle_isSign zMle_isSign [42] η4 x6 η5 ∧ oQle_isSign [42] η4 x6 η5 := ⟨h6.1, h6.2.1⟩
  have y7 : fQle_isSign [47] η5 x7 η6 := h7.2.2
  have k7 : sQ wl_le zTr zOle_isSign zMle_isSign [47] η5 x7 η6 ∧ oQle_isSign [47] η5 x7 η6 := ⟨h7.1, h7.2.1⟩
  refine yj_c ?_ ?_
  · have hw : η 0 45 = 0 := hig.2.1
    have hr1 : 1 ≤ η 0 19 := hig.2.2.1
    have hs1 : η 0 7 = η0 0 7 := hig.2.2.2.1
    have hs2 : η 0 6 = η0 0 6 := hig.2.2.2.2.1
    have hs3 : η 0 8 = η0 0 8 := hig.2.2.2.2.2
    have kk : η 0 8 = 5 → 0 ≤ η 0 9 ∧ η 0 9 ≤ 5 := hig.1.1.1.2.1.2
    have bd43 : (0 : Int) ≤ η 0 43 ∧ η 0 43 ≤ 8 := wf_ok (a := 43) (b := 43) (z := (0, 8)) hI.1.1 (by decide +kernel) (Nat.le_refl _) (Nat.le_refl _)
    have bd44 : (0 : Int) ≤ η 0 44 ∧ η 0 44 ≤ 64 := wf_ok (a := 44) (b := 44) (z := (0, 64)) hI.1.1 (by decide +kernel) (Nat.le_refl _) (Nat.le_refl _)
    have bd19 : (0 : Int) ≤ η 0 19 ∧ η 0 19 ≤ 64 := wf_ok (a := 19) (b := 19) (z := (0, 64)) hI.1.1 (by decide +kernel) (Nat.le_refl _) (Nat.le_refl _)
    obtain ⟨u1, u2, u3, u4⟩ := hig.1.2
    have cn := cz_n (η := η) (η 0 41).toNat
    have y1 : fQle_isKey [10] η x1 η1 := h1.2.2
    have k1 : sQ wl_le zTr zOle_isKey zMle_isKey [10] η x1 η1 ∧ oQle_isKey [10] η x1 η1 := ⟨h1.1, h1.2.1⟩
    have y2 : fQle_isKey [11] η1 x2 η2 := h2.2.2
    have k2 : sQ wl_le zTr zOle_isKey zMle_isKey [11] η1 x2 η2 ∧ oQle_isKey [11] η1 x2 η2 := ⟨h2.1, h2.2.1⟩
    have y4 : fQle_isSign [43] η2 x4 η3 := h4.2.2
    have k4 : sQ wl_le zTr zOle_isSign zMle_isSign [43] η2 x4 η3 ∧ oQle_isSign [43] η2 x4 η3 := ⟨h4.1, h4.2.1⟩
    have y5 : fQle_isSign [45] η3 x5 η4 := h5.2.2
    have k5 : sQ wl_le zTr zOle_isSign zMle_isSign [45] η3 x5 η4 ∧ oQle_isSign [45] η3 x5 η4 := ⟨h5.1, h5.2.1⟩
    have y6 : fQle_isSign [42] η4 x6 η5 := h6.2.2
    have k6 : sQ wl_le zTr zOle_isSign zMle_isSign [42] η4 x6 η5 ∧ oQle_isSign [42] η4 x6 η5 := ⟨h6.1, h6.2.1⟩
    have y7 : fQle_isSign [47] η5 x7 η6 := h7.2.2
    have k7 : sQ wl_le zTr zOle_isSign zMle_isSign [47] η5 x7 η6 ∧ oQle_isSign [47] η5 x7 η6 := ⟨h7.1, h7.2.1⟩
    have w0_0_8 : (0 : Int) ≤ η 0 8 ∧ η 0 8 ≤ 6 := wf_ok (a := 8) (b := 8) (z := (0, 6)) hI.1.1 (by decide +kernel) (Nat.le_refl _) (Nat.le_refl _)
    have c0_0_8 : η 0 8 = η 0 8 := rfl
    have wb1 : wB wl_le zTr η1 := k1.1.1
    have bx1 : (0 : Int) ≤ x1 ∧ x1 ≤ 1 := k1.1.2.1
    have v1 : zEq (η1 0 8) (η 0 8) := (k1.1.2.2.2.1 0 8 (by decide +kernel)).trans rfl
    have c1_0_8 : η1 0 8 = η 0 8 := v1
    have wb2 : wB wl_le zTr η2 := k2.1.1
    have bx2 : (0 : Int) ≤ x2 ∧ x2 ≤ 1 := k2.1.2.1
    have v2 : zEq (η2 0 8) (η 0 8) := (k2.1.2.2.2.1 0 8 (by decide +kernel)).trans v1
    replace e3 : x3 = η 0 8 := e3.trans v2
    have c2_0_8 : η2 0 8 = η 0 8 := v2
    have wb3 : wB wl_le zTr η3 := k4.1.1
    have bx4 : (0 : Int) ≤ x4 ∧ x4 ≤ 1 := k4.1.2.1
    have v3 : zEq (η3 0 8) (η 0 8) := (k4.1.2.2.2.1 0 8 (by decide +kernel)).trans v2
    have c3_0_8 : η3 0 8 = η 0 8 := v3
    have wb4 : wB wl_le zTr η4 := k5.1.1
    have bx5 : (0 : Int) ≤ x5 ∧ x5 ≤ 1 := k5.1.2.1
    have v4 : zEq (η4 0 8) (η 0 8) := (k5.1.2.2.2.1 0 8 (by decide +kernel)).trans v3
    have c4_0_8 : η4 0 8 = η 0 8 := v4
    have wb5 : wB wl_le zTr η5 := k6.1.1
    have bx6 : (0 : Int) ≤ x6 ∧ x6 ≤ 1 := k6.1.2.1
    have v5 : zEq (η5 0 8) (η 0 8) := (k6.1.2.2.2.1 0 8 (by decide +kernel)).trans v4
    have c5_0_8 : η5 0 8 = η 0 8 := v5
    have wb6 : wB wl_le zTr η6 := k7.1.1
    have bx7 : (0 : Int) ≤ x7 ∧ x7 ≤ 1 := k7.1.2.1
    have fm1 : zFm zMle_signs η0 η1 := zFm_tr2 hI.2 k1.1.2.2.2.1 (by decide +kernel)
    have fm2 : zFm zMle_signs η0 η2 := zFm_tr2 fm1 k2.1.2.2.2.1 (by decide +kernel)
    have fm3 : zFm zMle_signs η0 η3 := zFm_tr2 fm2 k4.1.2.2.2.1 (by decide +kernel)
    have fm4 : zFm zMle_signs η0 η4 := zFm_tr2 fm3 k5.1.2.2.2.1 (by decide +kernel)
    have fm5 : zFm zMle_signs η0 η5 := zFm_tr2 fm4 k6.1.2.2.2.1 (by decide +kernel)
    have fm6 : zFm zMle_signs η0 η6 := zFm_tr2 fm5 k7.1.2.2.2.1 (by decide +kernel)
    have fmE : zFm zMle_signs η0 η6 := fm6
    have fr22_0 : ∀ j, η 22 j = η 22 j := fun _ => rfl
    have v6 : ∀ j, η1 22 j = η 22 j := fun j => k1.1.2.2.2.1 22 _ (zinr_not (by decide +kernel))
    have fr22_1 : ∀ j, η1 22 j = η 22 j := v6
    have v7 : ∀ j, η2 22 j = η 22 j := fun j => (k2.1.2.2.2.1 22 _ (zinr_not (by decide +kernel))).trans (v6 j)
    have fr22_2 : ∀ j, η2 22 j = η 22 j := v7
    have v8 : ∀ j, η3 22 j = η 22 j := fun j => (k4.1.2.2.2.1 22 _ (zinr_not (by decide +kernel))).trans (v7 j)
    have fr22_3 : ∀ j, η3 22 j = η 22 j := v8
    have v9 : ∀ j, η4 22 j = η 22 j := fun j => (k5.1.2.2.2.1 22 _ (zinr_not (by decide +kernel))).trans (v8 j)
    have fr22_4 : ∀ j, η4 22 j = η 22 j := v9
    have v10 : ∀ j, η5 22 j = η 22 j := fun j => (k6.1.2.2.2.1 22 _ (zinr_not (by decide +kernel))).trans (v9 j)
    have fr22_5 : ∀ j, η5 22 j = η 22 j := v10
    have v11 : ∀ j, η6 22 j = η 22 j := fun j => (k7.1.2.2.2.1 22 _ (zinr_not (by decide +kernel))).trans (v10 j)
    have fr22_6 : ∀ j, η6 22 j = η 22 j := v11
    have fr22 : ∀ j, η6 22 j = η 22 j := v11
    have v13 : zEq (η1 0 41) (η 0 41) := (k1.1.2.2.2.1 0 41 (by decide +kernel)).trans rfl
    have v14 : zEq (η2 0 41) (η 0 41) := (k2.1.2.2.2.1 0 41 (by decide +kernel)).trans v13
    have v15 : zEq (η3 0 41) (η 0 41) := (k4.1.2.2.2.1 0 41 (by decide +kernel)).trans v14
    have v16 : zEq (η4 0 41) (η 0 41) := (k5.1.2.2.2.1 0 41 (by decide +kernel)).trans v15
    have v17 : zEq (η5 0 41) (η 0 41) := (k6.1.2.2.2.1 0 41 (by decide +kernel)).trans v16
    have v18 : zEq (η6 0 41) (η 0 41) := (k7.1.2.2.2.1 0 41 (by decide +kernel)).trans v17
    have f0_41 : η6 0 41 = η 0 41 := v18
    have w0_0_43 : (0 : Int) ≤ η 0 43 ∧ η 0 43 ≤ 8 := wf_ok (a := 43) (b := 43) (z := (0, 8)) hI.1.1 (by decide +kernel) (Nat.le_refl _) (Nat.le_refl _)
    have v20 : zEq (η1 0 43) (η 0 43) := (k1.1.2.2.2.1 0 43 (by decide +kernel)).trans rfl
    have v21 : zEq (η2 0 43) (η 0 43) := (k2.1.2.2.2.1 0 43 (by decide +kernel)).trans v20
    have v22 : zEq (η3 0 43) (η 0 43) := (k4.1.2.2.2.1 0 43 (by decide +kernel)).trans v21
    have v23 : zEq (η4 0 43) (η 0 43) := (k5.1.2.2.2.1 0 43 (by decide +kernel)).trans v22
    have v24 : zEq (η5 0 43) (η 0 43) := (k6.1.2.2.2.1 0 43 (by decide +kernel)).trans v23
    have v25 : zEq (η6 0 43) (η 0 43) := (k7.1.2.2.2.1 0 43 (by decide +kernel)).trans v24
    have f0_43 : η6 0 43 = η 0 43 := v25
    have v27 : zEq (η1 0 42) (η 0 42) := (k1.1.2.2.2.1 0 42 (by decide +kernel)).trans rfl
    have v28 : zEq (η2 0 42) (η 0 42) := (k2.1.2.2.2.1 0 42 (by decide +kernel)).trans v27
    have v29 : zEq (η3 0 42) (η 0 42) := (k4.1.2.2.2.1 0 42 (by decide +kernel)).trans v28
    have v30 : zEq (η4 0 42) (η 0 42) := (k5.1.2.2.2.1 0 42 (by decide +kernel)).trans v29
    have v31 : zEq (η5 0 42) (η 0 42) := (k6.1.2.2.2.1 0 42 (by decide +kernel)).trans v30
    have v32 : zEq (η6 0 42) (η 0 42) := (k7.1.2.2.2.1 0 42 (by decide +kernel)).trans v31
    have f0_42 : η6 0 42 = η 0 42 := v32
    have v34 : zEq (η1 0 45) (η 0 45) := (k1.1.2.2.2.1 0 45 (by decide +kernel)).trans rfl
    have v35 : zEq (η2 0 45) (η 0 45) := (k2.1.2.2.2.1 0 45 (by decide +kernel)).trans v34
    have v36 : zEq (η3 0 45) (η 0 45) := (k4.1.2.2.2.1 0 45 (by decide +kernel)).trans v35
    have v37 : zEq (η4 0 45) (η 0 45) := (k5.1.2.2.2.1 0 45 (by decide +kernel)).trans v36
    have v38 : zEq (η5 0 45) (η 0 45) := (k6.1.2.2.2.1 0 45 (by decide +kernel)).trans v37
    have v39 : zEq (η6 0 45) (η 0 45) := (k7.1.2.2.2.1 0 45 (by decide +kernel)).trans v38
    have f0_45 : η6 0 45 = η 0 45 := v39
    have w0_0_19 : (0 : Int) ≤ η 0 19 ∧ η 0 19 ≤ 64 := wf_ok (a := 19) (b := 19) (z := (0, 64)) hI.1.1 (by decide +kernel) (Nat.le_refl _) (Nat.le_refl _)
    have v41 : zEq (η1 0 19) (η 0 19) := (k1.1.2.2.2.1 0 19 (by decide +kernel)).trans rfl
    have v42 : zEq (η2 0 19) (η 0 19) := (k2.1.2.2.2.1 0 19 (by decide +kernel)).trans v41
    have v43 : zEq (η3 0 19) (η 0 19) := (k4.1.2.2.2.1 0 19 (by decide +kernel)).trans v42
    have v44 : zEq (η4 0 19) (η 0 19) := (k5.1.2.2.2.1 0 19 (by decide +kernel)).trans v43
    have v45 : zEq (η5 0 19) (η 0 19) := (k6.1.2.2.2.1 0 19 (by decide +kernel)).trans v44
    have v46 : zEq (η6 0 19) (η 0 19) := (k7.1.2.2.2.1 0 19 (by decide +kernel)).trans v45
    have f0_19 : η6 0 19 = η 0 19 := v46
    have w0_0_44 : (0 : Int) ≤ η 0 44 ∧ η 0 44 ≤ 64 := wf_ok (a := 44) (b := 44) (z := (0, 64)) hI.1.1 (by decide +kernel) (Nat.le_refl _) (Nat.le_refl _)
    have v48 : zEq (η1 0 44) (η 0 44) := (k1.1.2.2.2.1 0 44 (by decide +kernel)).trans rfl
    have v49 : zEq (η2 0 44) (η 0 44) := (k2.1.2.2.2.1 0 44 (by decide +kernel)).trans v48
    have v50 : zEq (η3 0 44) (η 0 44) := (k4.1.2.2.2.1 0 44 (by decide +kernel)).trans v49
    have v51 : zEq (η4 0 44) (η 0 44) := (k5.1.2.2.2.1 0 44 (by decide +kernel)).trans v50
    have v52 : zEq (η5 0 44) (η 0 44) := (k6.1.2.2.2.1 0 44 (by decide +kernel)).trans v51
    have v53 : zEq (η6 0 44) (η 0 44) := (k7.1.2.2.2.1 0 44 (by decide +kernel)).trans v52
    have f0_44 : η6 0 44 = η 0 44 := v53
    have w0_0_7 : (0 : Int) ≤ η 0 7 ∧ η 0 7 ≤ 700 := wf_ok (a := 7) (b := 7) (z := (0, 700)) hI.1.1 (by decide +kernel) (Nat.le_refl _) (Nat.le_refl _)
    have v55 : zEq (η1 0 7) (η 0 7) := (k1.1.2.2.2.1 0 7 (by decide +kernel)).trans rfl
    have v56 : zEq (η2 0 7) (η 0 7) := (k2.1.2.2.2.1 0 7 (by decide +kernel)).trans v55
    have v57 : zEq (η3 0 7) (η 0 7) := (k4.1.2.2.2.1 0 7 (by decide +kernel)).trans v56
    have v58 : zEq (η4 0 7) (η 0 7) := (k5.1.2.2.2.1 0 7 (by decide +kernel)).trans v57
    have v59 : zEq (η5 0 7) (η 0 7) := (k6.1.2.2.2.1 0 7 (by decide +kernel)).trans v58
    have v60 : zEq (η6 0 7) (η 0 7) := (k7.1.2.2.2.1 0 7 (by decide +kernel)).trans v59
    have f0_7 : η6 0 7 = η 0 7 := v60
    have w0_0_6 : (0 : Int) ≤ η 0 6 ∧ η 0 6 ≤ 700 := wf_ok (a := 6) (b := 6) (z := (0, 700)) hI.1.1 (by decide +kernel) (Nat.le_refl _) (Nat.le_refl _)
    have v62 : zEq (η1 0 6) (η 0 6) := (k1.1.2.2.2.1 0 6 (by decide +kernel)).trans rfl
    have v63 : zEq (η2 0 6) (η 0 6) := (k2.1.2.2.2.1 0 6 (by decide +kernel)).trans v62
    have v64 : zEq (η3 0 6) (η 0 6) := (k4.1.2.2.2.1 0 6 (by decide +kernel)).trans v63
    have v65 : zEq (η4 0 6) (η 0 6) := (k5.1.2.2.2.1 0 6 (by decide +kernel)).trans v64
    have v66 : zEq (η5 0 6) (η 0 6) := (k6.1.2.2.2.1 0 6 (by decide +kernel)).trans v65
    have v67 : zEq (η6 0 6) (η 0 6) := (k7.1.2.2.2.1 0 6 (by decide +kernel)).trans v66
    have f0_6 : η6 0 6 = η 0 6 := v67
    have v68 : zEq (η6 0 8) (η 0 8) := (k7.1.2.2.2.1 0 8 (by decide +kernel)).trans v5
    have f0_8 : η6 0 8 = η 0 8 := v68
    have wbE : wB wl_le zTr η6 := wb6
    
    have I0 : H_l 0 0 0 η := hig.1
    have I1 : H_l 0 0 0 η1 := k1.2.1
    have I2 : H_l 0 0 0 η2 := k2.2.1
    have I3 : H_l 0 0 0 η3 := k4.2.1
    have I4 : H_l 0 0 0 η4 := k5.2.1
    have I5 : H_l 0 0 0 η5 := k6.2.1
    have I6 : H_l 0 0 0 η6 := k7.2.1
    have qk7 : η5 0 8 = 4 := k7.2.2 c7
    exact ⟨⟨I6, show η6 0 45 = 0 by apply Int.le_antisymm <;> omega, show 1 ≤ η6 0 19 by omega, show η6 0 7 = η0 0 7 by apply Int.le_antisymm <;> omega, show η6 0 6 = η0 0 6 by apply Int.le_antisymm <;> omega, show η6 0 8 = η0 0 8 by apply Int.le_antisymm <;> omega, Or.inr ⟨by decide, show ¬ η6 0 8 = 0 by omega⟩⟩, Nat.zero_lt_one⟩
  · have fig : yq_sgn η0 = yq_sgB (yq_sk η) η := fig
    show yq_sgn η0 = yq_sgB 14 η6
    obtain ⟨a1, b1⟩ : x1 = (yq_isK 10 η) ∧ η1 = η := y1
    clear k1 h1
    obtain ⟨a2, b2⟩ : x2 = (yq_isK 11 η1) ∧ η2 = η1 := y2
    clear k2 h2
    have e3 : x3 = η2 0 8 := e3
    clear r3
    obtain ⟨a4, b4⟩ : x4 = (yq_isS 43 η2) ∧ η3 = η2 := y4
    clear k4 h4
    obtain ⟨a5, b5⟩ : x5 = (yq_isS 45 η3) ∧ η4 = η3 := y5
    clear k5 h5
    obtain ⟨a6, b6⟩ : x6 = (yq_isS 42 η4) ∧ η5 = η4 := y6
    clear k6 h6
    obtain ⟨a7, b7⟩ : x7 = (yq_isS 47 η5) ∧ η6 = η5 := y7
    clear k7 h7
    subst a1; subst b1
    subst a2; subst b2
    subst e3
    subst a4; subst b4
    subst a5; subst b5
    subst a6; subst b6
    subst a7; subst b7
    refine fig.trans (congrArg (fun k => yq_sgB k _) ?_)
    unfold yq_sk
    (repeat' split) <;> first | (exfalso; omega) | exact ⟨rfl, rfl⟩ | rfl
set_option maxHeartbeats 8000000 in
theorem zle_signs_o14 {ro : Nat → List Int32} (xs : List Int) (η0 : zE) (hp : sP wl_le zTr zPle_signs xs η0) (hpp : pPle_signs xs η0) (η : zE) (hI : zsI wl_le zTr zVle_signs zMle_signs η0 0 [] η) (hig : iCle_signs xs η0 0 [] η) : ∀ (x1 : Int) (η1 : zE), ((gC2 wl_le [(nat_lit 0, zPle_isSign, zOle_isSign, zMle_isSign), (nat_lit 1, zPle_wrong, zOle_wrong, zMle_wrong), (nat_lit 2, zPle_token, zOle_token, zMle_token), (nat_lit 3, zPle_isKey, zOle_isKey, zMle_isKey), (nat_lit 4, zPle_isCounted, zOle_isCounted, zMle_isCounted), (nat_lit 5, zPle_waitsFor, zOle_waitsFor, zMle_waitsFor), (nat_lit 6, zPle_rank, zOle_rank, zMle_rank), (nat_lit 7, zPle_bind, zOle_bind, zMle_bind)] pCle_signs qCle_signs) 3).2 [10] η x1 η1 → (x1 = 0) → ∀ (x2 : Int) (η2 : zE), ((gC2 wl_le [(nat_lit 0, zPle_isSign, zOle_isSign, zMle_isSign), (nat_lit 1, zPle_wrong, zOle_wrong, zMle_wrong), (nat_lit 2, zPle_token, zOle_token, zMle_token), (nat_lit 3, zPle_isKey, zOle_isKey, zMle_isKey), (nat_lit 4, zPle_isCounted, zOle_isCounted, zMle_isCounted), (nat_lit 5, zPle_waitsFor, zOle_waitsFor, zMle_waitsFor), (nat_lit 6, zPle_rank, zOle_rank, zMle_rank), (nat_lit 7, zPle_bind, zOle_bind, zMle_bind)] pCle_signs qCle_signs) 3).2 [11] η1 x2 η2 → (x2 = 0) → ∀ x3 : Int, x3 = η2 0 (Int.toNat 8) → zok 0 x3 → (¬ x3 = 5) → ∀ (x4 : Int) (η3 : zE), ((gC2 wl_le [(nat_lit 0, zPle_isSign, zOle_isSign, zMle_isSign), (nat_lit 1, zPle_wrong, zOle_wrong, zMle_wrong), (nat_lit 2, zPle_token, zOle_token, zMle_token), (nat_lit 3, zPle_isKey, zOle_isKey, zMle_isKey), (nat_lit 4, zPle_isCounted, zOle_isCounted, zMle_isCounted), (nat_lit 5, zPle_waitsFor, zOle_waitsFor, zMle_waitsFor), (nat_lit 6, zPle_rank, zOle_rank, zMle_rank), (nat_lit 7, zPle_bind, zOle_bind, zMle_bind)] pCle_signs qCle_signs) 0).2 [43] η2 x4 η3 → (x4 = 0) → ∀ (x5 : Int) (η4 : zE), ((gC2 wl_le [(nat_lit 0, zPle_isSign, zOle_isSign, zMle_isSign), (nat_lit 1, zPle_wrong, zOle_wrong, zMle_wrong), (nat_lit 2, zPle_token, zOle_token, zMle_token), (nat_lit 3, zPle_isKey, zOle_isKey, zMle_isKey), (nat_lit 4, zPle_isCounted, zOle_isCounted, zMle_isCounted), (nat_lit 5, zPle_waitsFor, zOle_waitsFor, zMle_waitsFor), (nat_lit 6, zPle_rank, zOle_rank, zMle_rank), (nat_lit 7, zPle_bind, zOle_bind, zMle_bind)] pCle_signs qCle_signs) 0).2 [45] η3 x5 η4 → (x5 = 0) → ∀ (x6 : Int) (η5 : zE), ((gC2 wl_le [(nat_lit 0, zPle_isSign, zOle_isSign, zMle_isSign), (nat_lit 1, zPle_wrong, zOle_wrong, zMle_wrong), (nat_lit 2, zPle_token, zOle_token, zMle_token), (nat_lit 3, zPle_isKey, zOle_isKey, zMle_isKey), (nat_lit 4, zPle_isCounted, zOle_isCounted, zMle_isCounted), (nat_lit 5, zPle_waitsFor, zOle_waitsFor, zMle_waitsFor), (nat_lit 6, zPle_rank, zOle_rank, zMle_rank), (nat_lit 7, zPle_bind, zOle_bind, zMle_bind)] pCle_signs qCle_signs) 0).2 [42] η4 x6 η5 → (¬ x6 = 0) → (iCle_signs xs η0) 1 [13] η5 ∧ (fun (_ : Nat) (_ : List Int) (_ : zE) => (0 : Nat)) 1 [13] η5 < 1 := by
  have fig := hig.2
  have hig := hig.1
  intro x1 η1 h1 c1 x2 η2 h2 c2 x3 e3 r3 c3 x4 η3 h4 c4 x5 η4 h5 c5 x6 η5 h6 c6
  have y1 : fQle_isKey [10] η x1 η1 := h1.2.2
  have k1 : sQ wl_le zTr zOle_isKey zMle_isKey [10] η x1 η1 ∧ oQle_isKey [10] η x1 η1 := ⟨h1.1, h1.2.1⟩
  have y2 : fQle_isKey [11] η1 x2 η2 := h2.2.2
  have k2 : sQ wl_le zTr zOle_isKey zMle_isKey [11] η1 x2 η2 ∧ oQle_isKey [11] η1 x2 η2 := ⟨h2.1, h2.2.1⟩
  have y4 : fQle_isSign [43] η2 x4 η3 := h4.2.2
  have k4 : sQ wl_le zTr zOle_isSign zMle_isSign [43] η2 x4 η3 ∧ oQle_isSign [43] η2 x4 η3 := ⟨h4.1, h4.2.1⟩
  have y5 : fQle_isSign [45] η3 x5 η4 := h5.2.2
  have k5 : sQ wl_le zTr zOle_isSign zMle_isSign [45] η3 x5 η4 ∧ oQle_isSign [45] η3 x5 η4 := ⟨h5.1, h5.2.1⟩
  have y6 : fQle_isSign [42] η4 x6 η5 := h6.2.2
  have k6 : sQ wl_le zTr zOle_isSign zMle_isSign [42] η4 x6 η5 ∧ oQle_isSign [42] η4 x6 η5 := ⟨h6.1, h6.2.1⟩
  refine yj_c ?_ ?_
  · have hw : η 0 45 = 0 := hig.2.1
    have hr1 : 1 ≤ η 0 19 := hig.2.2.1
    have hs1 : η 0 7 = η0 0 7 := hig.2.2.2.1
    have hs2 : η 0 6 = η0 0 6 := hig.2.2.2.2.1
    have hs3 : η 0 8 = η0 0 8 := hig.2.2.2.2.2
    have kk : η 0 8 = 5 → 0 ≤ η 0 9 ∧ η 0 9 ≤ 5 := hig.1.1.1.2.1.2
    have bd43 : (0 : Int) ≤ η 0 43 ∧ η 0 43 ≤ 8 := wf_ok (a := 43) (b := 43) (z := (0, 8)) hI.1.1 (by decide +kernel) (Nat.le_refl _) (Nat.le_refl _)
    have bd44 : (0 : Int) ≤ η 0 44 ∧ η 0 44 ≤ 64 := wf_ok (a := 44) (b := 44) (z := (0, 64)) hI.1.1 (by decide +kernel) (Nat.le_refl _) (Nat.le_refl _)
    have bd19 : (0 : Int) ≤ η 0 19 ∧ η 0 19 ≤ 64 := wf_ok (a := 19) (b := 19) (z := (0, 64)) hI.1.1 (by decide +kernel) (Nat.le_refl _) (Nat.le_refl _)
    obtain ⟨u1, u2, u3, u4⟩ := hig.1.2
    have cn := cz_n (η := η) (η 0 41).toNat
    have y1 : fQle_isKey [10] η x1 η1 := h1.2.2
    have k1 : sQ wl_le zTr zOle_isKey zMle_isKey [10] η x1 η1 ∧ oQle_isKey [10] η x1 η1 := ⟨h1.1, h1.2.1⟩
    have y2 : fQle_isKey [11] η1 x2 η2 := h2.2.2
    have k2 : sQ wl_le zTr zOle_isKey zMle_isKey [11] η1 x2 η2 ∧ oQle_isKey [11] η1 x2 η2 := ⟨h2.1, h2.2.1⟩
    have y4 : fQle_isSign [43] η2 x4 η3 := h4.2.2
    have k4 : sQ wl_le zTr zOle_isSign zMle_isSign [43] η2 x4 η3 ∧ oQle_isSign [43] η2 x4 η3 := ⟨h4.1, h4.2.1⟩
    have y5 : fQle_isSign [45] η3 x5 η4 := h5.2.2
    have k5 : sQ wl_le zTr zOle_isSign zMle_isSign [45] η3 x5 η4 ∧ oQle_isSign [45] η3 x5 η4 := ⟨h5.1, h5.2.1⟩
    have y6 : fQle_isSign [42] η4 x6 η5 := h6.2.2
    have k6 : sQ wl_le zTr zOle_isSign zMle_isSign [42] η4 x6 η5 ∧ oQle_isSign [42] η4 x6 η5 := ⟨h6.1, h6.2.1⟩
    have w0_0_8 : (0 : Int) ≤ η 0 8 ∧ η 0 8 ≤ 6 := wf_ok (a := 8) (b := 8) (z := (0, 6)) hI.1.1 (by decide +kernel) (Nat.le_refl _) (Nat.le_refl _)
    have c0_0_8 : η 0 8 = η 0 8 := rfl
    have wb1 : wB wl_le zTr η1 := k1.1.1
    have bx1 : (0 : Int) ≤ x1 ∧ x1 ≤ 1 := k1.1.2.1
    have v1 : zEq (η1 0 8) (η 0 8) := (k1.1.2.2.2.1 0 8 (by decide +kernel)).trans rfl
    have c1_0_8 : η1 0 8 = η 0 8 := v1
    have wb2 : wB wl_le zTr η2 := k2.1.1
    have bx2 : (0 : Int) ≤ x2 ∧ x2 ≤ 1 := k2.1.2.1
    have v2 : zEq (η2 0 8) (η 0 8) := (k2.1.2.2.2.1 0 8 (by decide +kernel)).trans v1
    replace e3 : x3 = η 0 8 := e3.trans v2
    have c2_0_8 : η2 0 8 = η 0 8 := v2
    have wb3 : wB wl_le zTr η3 := k4.1.1
    have bx4 : (0 : Int) ≤ x4 ∧ x4 ≤ 1 := k4.1.2.1
    have v3 : zEq (η3 0 8) (η 0 8) := (k4.1.2.2.2.1 0 8 (by decide +kernel)).trans v2
    have c3_0_8 : η3 0 8 = η 0 8 := v3
    have wb4 : wB wl_le zTr η4 := k5.1.1
    have bx5 : (0 : Int) ≤ x5 ∧ x5 ≤ 1 := k5.1.2.1
    have v4 : zEq (η4 0 8) (η 0 8) := (k5.1.2.2.2.1 0 8 (by decide +kernel)).trans v3
    have c4_0_8 : η4 0 8 = η 0 8 := v4
    have wb5 : wB wl_le zTr η5 := k6.1.1
    have bx6 : (0 : Int) ≤ x6 ∧ x6 ≤ 1 := k6.1.2.1
    have fm1 : zFm zMle_signs η0 η1 := zFm_tr2 hI.2 k1.1.2.2.2.1 (by decide +kernel)
    have fm2 : zFm zMle_signs η0 η2 := zFm_tr2 fm1 k2.1.2.2.2.1 (by decide +kernel)
    have fm3 : zFm zMle_signs η0 η3 := zFm_tr2 fm2 k4.1.2.2.2.1 (by decide +kernel)
    have fm4 : zFm zMle_signs η0 η4 := zFm_tr2 fm3 k5.1.2.2.2.1 (by decide +kernel)
    have fm5 : zFm zMle_signs η0 η5 := zFm_tr2 fm4 k6.1.2.2.2.1 (by decide +kernel)
    have fmE : zFm zMle_signs η0 η5 := fm5
    have fr22_0 : ∀ j, η 22 j = η 22 j := fun _ => rfl
    have v5 : ∀ j, η1 22 j = η 22 j := fun j => k1.1.2.2.2.1 22 _ (zinr_not (by decide +kernel))
    have fr22_1 : ∀ j, η1 22 j = η 22 j := v5
    have v6 : ∀ j, η2 22 j = η 22 j := fun j => (k2.1.2.2.2.1 22 _ (zinr_not (by decide +kernel))).trans (v5 j)
    have fr22_2 : ∀ j, η2 22 j = η 22 j := v6
    have v7 : ∀ j, η3 22 j = η 22 j := fun j => (k4.1.2.2.2.1 22 _ (zinr_not (by decide +kernel))).trans (v6 j)
    have fr22_3 : ∀ j, η3 22 j = η 22 j := v7
    have v8 : ∀ j, η4 22 j = η 22 j := fun j => (k5.1.2.2.2.1 22 _ (zinr_not (by decide +kernel))).trans (v7 j)
    have fr22_4 : ∀ j, η4 22 j = η 22 j := v8
    have v9 : ∀ j, η5 22 j = η 22 j := fun j => (k6.1.2.2.2.1 22 _ (zinr_not (by decide +kernel))).trans (v8 j)
    have fr22_5 : ∀ j, η5 22 j = η 22 j := v9
    have fr22 : ∀ j, η5 22 j = η 22 j := v9
    have v11 : zEq (η1 0 41) (η 0 41) := (k1.1.2.2.2.1 0 41 (by decide +kernel)).trans rfl
    have v12 : zEq (η2 0 41) (η 0 41) := (k2.1.2.2.2.1 0 41 (by decide +kernel)).trans v11
    have v13 : zEq (η3 0 41) (η 0 41) := (k4.1.2.2.2.1 0 41 (by decide +kernel)).trans v12
    have v14 : zEq (η4 0 41) (η 0 41) := (k5.1.2.2.2.1 0 41 (by decide +kernel)).trans v13
    have v15 : zEq (η5 0 41) (η 0 41) := (k6.1.2.2.2.1 0 41 (by decide +kernel)).trans v14
    have f0_41 : η5 0 41 = η 0 41 := v15
    have w0_0_43 : (0 : Int) ≤ η 0 43 ∧ η 0 43 ≤ 8 := wf_ok (a := 43) (b := 43) (z := (0, 8)) hI.1.1 (by decide +kernel) (Nat.le_refl _) (Nat.le_refl _)
    have v17 : zEq (η1 0 43) (η 0 43) := (k1.1.2.2.2.1 0 43 (by decide +kernel)).trans rfl
    have v18 : zEq (η2 0 43) (η 0 43) := (k2.1.2.2.2.1 0 43 (by decide +kernel)).trans v17
    have v19 : zEq (η3 0 43) (η 0 43) := (k4.1.2.2.2.1 0 43 (by decide +kernel)).trans v18
    have v20 : zEq (η4 0 43) (η 0 43) := (k5.1.2.2.2.1 0 43 (by decide +kernel)).trans v19
    have v21 : zEq (η5 0 43) (η 0 43) := (k6.1.2.2.2.1 0 43 (by decide +kernel)).trans v20
    have f0_43 : η5 0 43 = η 0 43 := v21
    have v23 : zEq (η1 0 42) (η 0 42) := (k1.1.2.2.2.1 0 42 (by decide +kernel)).trans rfl
    have v24 : zEq (η2 0 42) (η 0 42) := (k2.1.2.2.2.1 0 42 (by decide +kernel)).trans v23
    have v25 : zEq (η3 0 42) (η 0 42) := (k4.1.2.2.2.1 0 42 (by decide +kernel)).trans v24
    have v26 : zEq (η4 0 42) (η 0 42) := (k5.1.2.2.2.1 0 42 (by decide +kernel)).trans v25
    have v27 : zEq (η5 0 42) (η 0 42) := (k6.1.2.2.2.1 0 42 (by decide +kernel)).trans v26
    have f0_42 : η5 0 42 = η 0 42 := v27
    have v29 : zEq (η1 0 45) (η 0 45) := (k1.1.2.2.2.1 0 45 (by decide +kernel)).trans rfl
    have v30 : zEq (η2 0 45) (η 0 45) := (k2.1.2.2.2.1 0 45 (by decide +kernel)).trans v29
    have v31 : zEq (η3 0 45) (η 0 45) := (k4.1.2.2.2.1 0 45 (by decide +kernel)).trans v30
    have v32 : zEq (η4 0 45) (η 0 45) := (k5.1.2.2.2.1 0 45 (by decide +kernel)).trans v31
    have v33 : zEq (η5 0 45) (η 0 45) := (k6.1.2.2.2.1 0 45 (by decide +kernel)).trans v32
    have f0_45 : η5 0 45 = η 0 45 := v33
    have w0_0_19 : (0 : Int) ≤ η 0 19 ∧ η 0 19 ≤ 64 := wf_ok (a := 19) (b := 19) (z := (0, 64)) hI.1.1 (by decide +kernel) (Nat.le_refl _) (Nat.le_refl _)
    have v35 : zEq (η1 0 19) (η 0 19) := (k1.1.2.2.2.1 0 19 (by decide +kernel)).trans rfl
    have v36 : zEq (η2 0 19) (η 0 19) := (k2.1.2.2.2.1 0 19 (by decide +kernel)).trans v35
    have v37 : zEq (η3 0 19) (η 0 19) := (k4.1.2.2.2.1 0 19 (by decide +kernel)).trans v36
    have v38 : zEq (η4 0 19) (η 0 19) := (k5.1.2.2.2.1 0 19 (by decide +kernel)).trans v37
    have v39 : zEq (η5 0 19) (η 0 19) := (k6.1.2.2.2.1 0 19 (by decide +kernel)).trans v38
    have f0_19 : η5 0 19 = η 0 19 := v39
    have w0_0_44 : (0 : Int) ≤ η 0 44 ∧ η 0 44 ≤ 64 := wf_ok (a := 44) (b := 44) (z := (0, 64)) hI.1.1 (by decide +kernel) (Nat.le_refl _) (Nat.le_refl _)
    have v41 : zEq (η1 0 44) (η 0 44) := (k1.1.2.2.2.1 0 44 (by decide +kernel)).trans rfl
    have v42 : zEq (η2 0 44) (η 0 44) := (k2.1.2.2.2.1 0 44 (by decide +kernel)).trans v41
    have v43 : zEq (η3 0 44) (η 0 44) := (k4.1.2.2.2.1 0 44 (by decide +kernel)).trans v42
    have v44 : zEq (η4 0 44) (η 0 44) := (k5.1.2.2.2.1 0 44 (by decide +kernel)).trans v43
    have v45 : zEq (η5 0 44) (η 0 44) := (k6.1.2.2.2.1 0 44 (by decide +kernel)).trans v44
    have f0_44 : η5 0 44 = η 0 44 := v45
    have w0_0_7 : (0 : Int) ≤ η 0 7 ∧ η 0 7 ≤ 700 := wf_ok (a := 7) (b := 7) (z := (0, 700)) hI.1.1 (by decide +kernel) (Nat.le_refl _) (Nat.le_refl _)
    have v47 : zEq (η1 0 7) (η 0 7) := (k1.1.2.2.2.1 0 7 (by decide +kernel)).trans rfl
    have v48 : zEq (η2 0 7) (η 0 7) := (k2.1.2.2.2.1 0 7 (by decide +kernel)).trans v47
    have v49 : zEq (η3 0 7) (η 0 7) := (k4.1.2.2.2.1 0 7 (by decide +kernel)).trans v48
    have v50 : zEq (η4 0 7) (η 0 7) := (k5.1.2.2.2.1 0 7 (by decide +kernel)).trans v49
    have v51 : zEq (η5 0 7) (η 0 7) := (k6.1.2.2.2.1 0 7 (by decide +kernel)).trans v50
    have f0_7 : η5 0 7 = η 0 7 := v51
    have w0_0_6 : (0 : Int) ≤ η 0 6 ∧ η 0 6 ≤ 700 := wf_ok (a := 6) (b := 6) (z := (0, 700)) hI.1.1 (by decide +kernel) (Nat.le_refl _) (Nat.le_refl _)
    have v53 : zEq (η1 0 6) (η 0 6) := (k1.1.2.2.2.1 0 6 (by decide +kernel)).trans rfl
    have v54 : zEq (η2 0 6) (η 0 6) := (k2.1.2.2.2.1 0 6 (by decide +kernel)).trans v53
    have v55 : zEq (η3 0 6) (η 0 6) := (k4.1.2.2.2.1 0 6 (by decide +kernel)).trans v54
    have v56 : zEq (η4 0 6) (η 0 6) := (k5.1.2.2.2.1 0 6 (by decide +kernel)).trans v55
    have v57 : zEq (η5 0 6) (η 0 6) := (k6.1.2.2.2.1 0 6 (by decide +kernel)).trans v56
    have f0_6 : η5 0 6 = η 0 6 := v57
    have v58 : zEq (η5 0 8) (η 0 8) := (k6.1.2.2.2.1 0 8 (by decide +kernel)).trans v4
    have f0_8 : η5 0 8 = η 0 8 := v58
    have wbE : wB wl_le zTr η5 := wb5
    
    have I0 : H_l 0 0 0 η := hig.1
    have I1 : H_l 0 0 0 η1 := k1.2.1
    have I2 : H_l 0 0 0 η2 := k2.2.1
    have I3 : H_l 0 0 0 η3 := k4.2.1
    have I4 : H_l 0 0 0 η4 := k5.2.1
    have I5 : H_l 0 0 0 η5 := k6.2.1
    have qk6 : η4 0 8 = 4 := k6.2.2 c6
    exact ⟨⟨I5, show η5 0 45 = 0 by apply Int.le_antisymm <;> omega, show 1 ≤ η5 0 19 by omega, show η5 0 7 = η0 0 7 by apply Int.le_antisymm <;> omega, show η5 0 6 = η0 0 6 by apply Int.le_antisymm <;> omega, show η5 0 8 = η0 0 8 by apply Int.le_antisymm <;> omega, Or.inr ⟨by decide, show ¬ η5 0 8 = 0 by omega⟩⟩, Nat.zero_lt_one⟩
  · have fig : yq_sgn η0 = yq_sgB (yq_sk η) η := fig
    show yq_sgn η0 = yq_sgB 13 η5
    obtain ⟨a1, b1⟩ : x1 = (yq_isK 10 η) ∧ η1 = η := y1
    clear k1 h1
    obtain ⟨a2, b2⟩ : x2 = (yq_isK 11 η1) ∧ η2 = η1 := y2
    clear k2 h2
    have e3 : x3 = η2 0 8 := e3
    clear r3
    obtain ⟨a4, b4⟩ : x4 = (yq_isS 43 η2) ∧ η3 = η2 := y4
    clear k4 h4
    obtain ⟨a5, b5⟩ : x5 = (yq_isS 45 η3) ∧ η4 = η3 := y5
    clear k5 h5
    obtain ⟨a6, b6⟩ : x6 = (yq_isS 42 η4) ∧ η5 = η4 := y6
    clear k6 h6
    subst a1; subst b1
    subst a2; subst b2
    subst e3
    subst a4; subst b4
    subst a5; subst b5
    subst a6; subst b6
    refine fig.trans (congrArg (fun k => yq_sgB k _) ?_)
    unfold yq_sk
    (repeat' split) <;> first | (exfalso; omega) | exact ⟨rfl, rfl⟩ | rfl
set_option maxHeartbeats 8000000 in
theorem zle_signs_o15 {ro : Nat → List Int32} (xs : List Int) (η0 : zE) (hp : sP wl_le zTr zPle_signs xs η0) (hpp : pPle_signs xs η0) (η : zE) (hI : zsI wl_le zTr zVle_signs zMle_signs η0 0 [] η) (hig : iCle_signs xs η0 0 [] η) : ∀ (x1 : Int) (η1 : zE), ((gC2 wl_le [(nat_lit 0, zPle_isSign, zOle_isSign, zMle_isSign), (nat_lit 1, zPle_wrong, zOle_wrong, zMle_wrong), (nat_lit 2, zPle_token, zOle_token, zMle_token), (nat_lit 3, zPle_isKey, zOle_isKey, zMle_isKey), (nat_lit 4, zPle_isCounted, zOle_isCounted, zMle_isCounted), (nat_lit 5, zPle_waitsFor, zOle_waitsFor, zMle_waitsFor), (nat_lit 6, zPle_rank, zOle_rank, zMle_rank), (nat_lit 7, zPle_bind, zOle_bind, zMle_bind)] pCle_signs qCle_signs) 3).2 [10] η x1 η1 → (x1 = 0) → ∀ (x2 : Int) (η2 : zE), ((gC2 wl_le [(nat_lit 0, zPle_isSign, zOle_isSign, zMle_isSign), (nat_lit 1, zPle_wrong, zOle_wrong, zMle_wrong), (nat_lit 2, zPle_token, zOle_token, zMle_token), (nat_lit 3, zPle_isKey, zOle_isKey, zMle_isKey), (nat_lit 4, zPle_isCounted, zOle_isCounted, zMle_isCounted), (nat_lit 5, zPle_waitsFor, zOle_waitsFor, zMle_waitsFor), (nat_lit 6, zPle_rank, zOle_rank, zMle_rank), (nat_lit 7, zPle_bind, zOle_bind, zMle_bind)] pCle_signs qCle_signs) 3).2 [11] η1 x2 η2 → (x2 = 0) → ∀ x3 : Int, x3 = η2 0 (Int.toNat 8) → zok 0 x3 → (¬ x3 = 5) → ∀ (x4 : Int) (η3 : zE), ((gC2 wl_le [(nat_lit 0, zPle_isSign, zOle_isSign, zMle_isSign), (nat_lit 1, zPle_wrong, zOle_wrong, zMle_wrong), (nat_lit 2, zPle_token, zOle_token, zMle_token), (nat_lit 3, zPle_isKey, zOle_isKey, zMle_isKey), (nat_lit 4, zPle_isCounted, zOle_isCounted, zMle_isCounted), (nat_lit 5, zPle_waitsFor, zOle_waitsFor, zMle_waitsFor), (nat_lit 6, zPle_rank, zOle_rank, zMle_rank), (nat_lit 7, zPle_bind, zOle_bind, zMle_bind)] pCle_signs qCle_signs) 0).2 [43] η2 x4 η3 → (x4 = 0) → ∀ (x5 : Int) (η4 : zE), ((gC2 wl_le [(nat_lit 0, zPle_isSign, zOle_isSign, zMle_isSign), (nat_lit 1, zPle_wrong, zOle_wrong, zMle_wrong), (nat_lit 2, zPle_token, zOle_token, zMle_token), (nat_lit 3, zPle_isKey, zOle_isKey, zMle_isKey), (nat_lit 4, zPle_isCounted, zOle_isCounted, zMle_isCounted), (nat_lit 5, zPle_waitsFor, zOle_waitsFor, zMle_waitsFor), (nat_lit 6, zPle_rank, zOle_rank, zMle_rank), (nat_lit 7, zPle_bind, zOle_bind, zMle_bind)] pCle_signs qCle_signs) 0).2 [45] η3 x5 η4 → (¬ x5 = 0) → (iCle_signs xs η0) 1 [12] η4 ∧ (fun (_ : Nat) (_ : List Int) (_ : zE) => (0 : Nat)) 1 [12] η4 < 1 := by
  have fig := hig.2
  have hig := hig.1
  intro x1 η1 h1 c1 x2 η2 h2 c2 x3 e3 r3 c3 x4 η3 h4 c4 x5 η4 h5 c5
  have y1 : fQle_isKey [10] η x1 η1 := h1.2.2
  have k1 : sQ wl_le zTr zOle_isKey zMle_isKey [10] η x1 η1 ∧ oQle_isKey [10] η x1 η1 := ⟨h1.1, h1.2.1⟩
  have y2 : fQle_isKey [11] η1 x2 η2 := h2.2.2
  have k2 : sQ wl_le zTr zOle_isKey zMle_isKey [11] η1 x2 η2 ∧ oQle_isKey [11] η1 x2 η2 := ⟨h2.1, h2.2.1⟩
  have y4 : fQle_isSign [43] η2 x4 η3 := h4.2.2
  have k4 : sQ wl_le zTr zOle_isSign zMle_isSign [43] η2 x4 η3 ∧ oQle_isSign [43] η2 x4 η3 := ⟨h4.1, h4.2.1⟩
  have y5 : fQle_isSign [45] η3 x5 η4 := h5.2.2
  have k5 : sQ wl_le zTr zOle_isSign zMle_isSign [45] η3 x5 η4 ∧ oQle_isSign [45] η3 x5 η4 := ⟨h5.1, h5.2.1⟩
  refine yj_c ?_ ?_
  · have hw : η 0 45 = 0 := hig.2.1
    have hr1 : 1 ≤ η 0 19 := hig.2.2.1
    have hs1 : η 0 7 = η0 0 7 := hig.2.2.2.1
    have hs2 : η 0 6 = η0 0 6 := hig.2.2.2.2.1
    have hs3 : η 0 8 = η0 0 8 := hig.2.2.2.2.2
    have kk : η 0 8 = 5 → 0 ≤ η 0 9 ∧ η 0 9 ≤ 5 := hig.1.1.1.2.1.2
    have bd43 : (0 : Int) ≤ η 0 43 ∧ η 0 43 ≤ 8 := wf_ok (a := 43) (b := 43) (z := (0, 8)) hI.1.1 (by decide +kernel) (Nat.le_refl _) (Nat.le_refl _)
    have bd44 : (0 : Int) ≤ η 0 44 ∧ η 0 44 ≤ 64 := wf_ok (a := 44) (b := 44) (z := (0, 64)) hI.1.1 (by decide +kernel) (Nat.le_refl _) (Nat.le_refl _)
    have bd19 : (0 : Int) ≤ η 0 19 ∧ η 0 19 ≤ 64 := wf_ok (a := 19) (b := 19) (z := (0, 64)) hI.1.1 (by decide +kernel) (Nat.le_refl _) (Nat.le_refl _)
    obtain ⟨u1, u2, u3, u4⟩ := hig.1.2
    have cn := cz_n (η := η) (η 0 41).toNat
    have y1 : fQle_isKey [10] η x1 η1 := h1.2.2
    have k1 : sQ wl_le zTr zOle_isKey zMle_isKey [10] η x1 η1 ∧ oQle_isKey [10] η x1 η1 := ⟨h1.1, h1.2.1⟩
    have y2 : fQle_isKey [11] η1 x2 η2 := h2.2.2
    have k2 : sQ wl_le zTr zOle_isKey zMle_isKey [11] η1 x2 η2 ∧ oQle_isKey [11] η1 x2 η2 := ⟨h2.1, h2.2.1⟩
    have y4 : fQle_isSign [43] η2 x4 η3 := h4.2.2
    have k4 : sQ wl_le zTr zOle_isSign zMle_isSign [43] η2 x4 η3 ∧ oQle_isSign [43] η2 x4 η3 := ⟨h4.1, h4.2.1⟩
    have y5 : fQle_isSign [45] η3 x5 η4 := h5.2.2
    have k5 : sQ wl_le zTr zOle_isSign zMle_isSign [45] η3 x5 η4 ∧ oQle_isSign [45] η3 x5 η4 := ⟨h5.1, h5.2.1⟩
    have w0_0_8 : (0 : Int) ≤ η 0 8 ∧ η 0 8 ≤ 6 := wf_ok (a := 8) (b := 8) (z := (0, 6)) hI.1.1 (by decide +kernel) (Nat.le_refl _) (Nat.le_refl _)
    have c0_0_8 : η 0 8 = η 0 8 := rfl
    have wb1 : wB wl_le zTr η1 := k1.1.1
    have bx1 : (0 : Int) ≤ x1 ∧ x1 ≤ 1 := k1.1.2.1
    have v1 : zEq (η1 0 8) (η 0 8) := (k1.1.2.2.2.1 0 8 (by decide +kernel)).trans rfl
    have c1_0_8 : η1 0 8 = η 0 8 := v1
    have wb2 : wB wl_le zTr η2 := k2.1.1
    have bx2 : (0 : Int) ≤ x2 ∧ x2 ≤ 1 := k2.1.2.1
    have v2 : zEq (η2 0 8) (η 0 8) := (k2.1.2.2.2.1 0 8 (by decide +kernel)).trans v1
    replace e3 : x3 = η 0 8 := e3.trans v2
    have c2_0_8 : η2 0 8 = η 0 8 := v2
    have wb3 : wB wl_le zTr η3 := k4.1.1
    have bx4 : (0 : Int) ≤ x4 ∧ x4 ≤ 1 := k4.1.2.1
    have v3 : zEq (η3 0 8) (η 0 8) := (k4.1.2.2.2.1 0 8 (by decide +kernel)).trans v2
    have c3_0_8 : η3 0 8 = η 0 8 := v3
    have wb4 : wB wl_le zTr η4 := k5.1.1
    have bx5 : (0 : Int) ≤ x5 ∧ x5 ≤ 1 := k5.1.2.1
    have fm1 : zFm zMle_signs η0 η1 := zFm_tr2 hI.2 k1.1.2.2.2.1 (by decide +kernel)
    have fm2 : zFm zMle_signs η0 η2 := zFm_tr2 fm1 k2.1.2.2.2.1 (by decide +kernel)
    have fm3 : zFm zMle_signs η0 η3 := zFm_tr2 fm2 k4.1.2.2.2.1 (by decide +kernel)
    have fm4 : zFm zMle_signs η0 η4 := zFm_tr2 fm3 k5.1.2.2.2.1 (by decide +kernel)
    have fmE : zFm zMle_signs η0 η4 := fm4
    have fr22_0 : ∀ j, η 22 j = η 22 j := fun _ => rfl
    have v4 : ∀ j, η1 22 j = η 22 j := fun j => k1.1.2.2.2.1 22 _ (zinr_not (by decide +kernel))
    have fr22_1 : ∀ j, η1 22 j = η 22 j := v4
    have v5 : ∀ j, η2 22 j = η 22 j := fun j => (k2.1.2.2.2.1 22 _ (zinr_not (by decide +kernel))).trans (v4 j)
    have fr22_2 : ∀ j, η2 22 j = η 22 j := v5
    have v6 : ∀ j, η3 22 j = η 22 j := fun j => (k4.1.2.2.2.1 22 _ (zinr_not (by decide +kernel))).trans (v5 j)
    have fr22_3 : ∀ j, η3 22 j = η 22 j := v6
    have v7 : ∀ j, η4 22 j = η 22 j := fun j => (k5.1.2.2.2.1 22 _ (zinr_not (by decide +kernel))).trans (v6 j)
    have fr22_4 : ∀ j, η4 22 j = η 22 j := v7
    have fr22 : ∀ j, η4 22 j = η 22 j := v7
    have v9 : zEq (η1 0 41) (η 0 41) := (k1.1.2.2.2.1 0 41 (by decide +kernel)).trans rfl
    have v10 : zEq (η2 0 41) (η 0 41) := (k2.1.2.2.2.1 0 41 (by decide +kernel)).trans v9
    have v11 : zEq (η3 0 41) (η 0 41) := (k4.1.2.2.2.1 0 41 (by decide +kernel)).trans v10
    have v12 : zEq (η4 0 41) (η 0 41) := (k5.1.2.2.2.1 0 41 (by decide +kernel)).trans v11
    have f0_41 : η4 0 41 = η 0 41 := v12
    have w0_0_43 : (0 : Int) ≤ η 0 43 ∧ η 0 43 ≤ 8 := wf_ok (a := 43) (b := 43) (z := (0, 8)) hI.1.1 (by decide +kernel) (Nat.le_refl _) (Nat.le_refl _)
    have v14 : zEq (η1 0 43) (η 0 43) := (k1.1.2.2.2.1 0 43 (by decide +kernel)).trans rfl
    have v15 : zEq (η2 0 43) (η 0 43) := (k2.1.2.2.2.1 0 43 (by decide +kernel)).trans v14
    have v16 : zEq (η3 0 43) (η 0 43) := (k4.1.2.2.2.1 0 43 (by decide +kernel)).trans v15
    have v17 : zEq (η4 0 43) (η 0 43) := (k5.1.2.2.2.1 0 43 (by decide +kernel)).trans v16
    have f0_43 : η4 0 43 = η 0 43 := v17
    have v19 : zEq (η1 0 42) (η 0 42) := (k1.1.2.2.2.1 0 42 (by decide +kernel)).trans rfl
    have v20 : zEq (η2 0 42) (η 0 42) := (k2.1.2.2.2.1 0 42 (by decide +kernel)).trans v19
    have v21 : zEq (η3 0 42) (η 0 42) := (k4.1.2.2.2.1 0 42 (by decide +kernel)).trans v20
    have v22 : zEq (η4 0 42) (η 0 42) := (k5.1.2.2.2.1 0 42 (by decide +kernel)).trans v21
    have f0_42 : η4 0 42 = η 0 42 := v22
    have v24 : zEq (η1 0 45) (η 0 45) := (k1.1.2.2.2.1 0 45 (by decide +kernel)).trans rfl
    have v25 : zEq (η2 0 45) (η 0 45) := (k2.1.2.2.2.1 0 45 (by decide +kernel)).trans v24
    have v26 : zEq (η3 0 45) (η 0 45) := (k4.1.2.2.2.1 0 45 (by decide +kernel)).trans v25
    have v27 : zEq (η4 0 45) (η 0 45) := (k5.1.2.2.2.1 0 45 (by decide +kernel)).trans v26
    have f0_45 : η4 0 45 = η 0 45 := v27
    have w0_0_19 : (0 : Int) ≤ η 0 19 ∧ η 0 19 ≤ 64 := wf_ok (a := 19) (b := 19) (z := (0, 64)) hI.1.1 (by decide +kernel) (Nat.le_refl _) (Nat.le_refl _)
    have v29 : zEq (η1 0 19) (η 0 19) := (k1.1.2.2.2.1 0 19 (by decide +kernel)).trans rfl
    have v30 : zEq (η2 0 19) (η 0 19) := (k2.1.2.2.2.1 0 19 (by decide +kernel)).trans v29
    have v31 : zEq (η3 0 19) (η 0 19) := (k4.1.2.2.2.1 0 19 (by decide +kernel)).trans v30
    have v32 : zEq (η4 0 19) (η 0 19) := (k5.1.2.2.2.1 0 19 (by decide +kernel)).trans v31
    have f0_19 : η4 0 19 = η 0 19 := v32
    have w0_0_44 : (0 : Int) ≤ η 0 44 ∧ η 0 44 ≤ 64 := wf_ok (a := 44) (b := 44) (z := (0, 64)) hI.1.1 (by decide +kernel) (Nat.le_refl _) (Nat.le_refl _)
    have v34 : zEq (η1 0 44) (η 0 44) := (k1.1.2.2.2.1 0 44 (by decide +kernel)).trans rfl
    have v35 : zEq (η2 0 44) (η 0 44) := (k2.1.2.2.2.1 0 44 (by decide +kernel)).trans v34
    have v36 : zEq (η3 0 44) (η 0 44) := (k4.1.2.2.2.1 0 44 (by decide +kernel)).trans v35
    have v37 : zEq (η4 0 44) (η 0 44) := (k5.1.2.2.2.1 0 44 (by decide +kernel)).trans v36
    have f0_44 : η4 0 44 = η 0 44 := v37
    have w0_0_7 : (0 : Int) ≤ η 0 7 ∧ η 0 7 ≤ 700 := wf_ok (a := 7) (b := 7) (z := (0, 700)) hI.1.1 (by decide +kernel) (Nat.le_refl _) (Nat.le_refl _)
    have v39 : zEq (η1 0 7) (η 0 7) := (k1.1.2.2.2.1 0 7 (by decide +kernel)).trans rfl
    have v40 : zEq (η2 0 7) (η 0 7) := (k2.1.2.2.2.1 0 7 (by decide +kernel)).trans v39
    have v41 : zEq (η3 0 7) (η 0 7) := (k4.1.2.2.2.1 0 7 (by decide +kernel)).trans v40
    have v42 : zEq (η4 0 7) (η 0 7) := (k5.1.2.2.2.1 0 7 (by decide +kernel)).trans v41
    have f0_7 : η4 0 7 = η 0 7 := v42
    have w0_0_6 : (0 : Int) ≤ η 0 6 ∧ η 0 6 ≤ 700 := wf_ok (a := 6) (b := 6) (z := (0, 700)) hI.1.1 (by decide +kernel) (Nat.le_refl _) (Nat.le_refl _)
    have v44 : zEq (η1 0 6) (η 0 6) := (k1.1.2.2.2.1 0 6 (by decide +kernel)).trans rfl
    have v45 : zEq (η2 0 6) (η 0 6) := (k2.1.2.2.2.1 0 6 (by decide +kernel)).trans v44
    have v46 : zEq (η3 0 6) (η 0 6) := (k4.1.2.2.2.1 0 6 (by decide +kernel)).trans v45
    have v47 : zEq (η4 0 6) (η 0 6) := (k5.1.2.2.2.1 0 6 (by decide +kernel)).trans v46
    have f0_6 : η4 0 6 = η 0 6 := v47
    have v48 : zEq (η4 0 8) (η 0 8) := (k5.1.2.2.2.1 0 8 (by decide +kernel)).trans v3
    have f0_8 : η4 0 8 = η 0 8 := v48
    have wbE : wB wl_le zTr η4 := wb4
    
    have I0 : H_l 0 0 0 η := hig.1
    have I1 : H_l 0 0 0 η1 := k1.2.1
    have I2 : H_l 0 0 0 η2 := k2.2.1
    have I3 : H_l 0 0 0 η3 := k4.2.1
    have I4 : H_l 0 0 0 η4 := k5.2.1
    have qk5 : η3 0 8 = 4 := k5.2.2 c5
    exact ⟨⟨I4, show η4 0 45 = 0 by apply Int.le_antisymm <;> omega, show 1 ≤ η4 0 19 by omega, show η4 0 7 = η0 0 7 by apply Int.le_antisymm <;> omega, show η4 0 6 = η0 0 6 by apply Int.le_antisymm <;> omega, show η4 0 8 = η0 0 8 by apply Int.le_antisymm <;> omega, Or.inr ⟨by decide, show ¬ η4 0 8 = 0 by omega⟩⟩, Nat.zero_lt_one⟩
  · have fig : yq_sgn η0 = yq_sgB (yq_sk η) η := fig
    show yq_sgn η0 = yq_sgB 12 η4
    obtain ⟨a1, b1⟩ : x1 = (yq_isK 10 η) ∧ η1 = η := y1
    clear k1 h1
    obtain ⟨a2, b2⟩ : x2 = (yq_isK 11 η1) ∧ η2 = η1 := y2
    clear k2 h2
    have e3 : x3 = η2 0 8 := e3
    clear r3
    obtain ⟨a4, b4⟩ : x4 = (yq_isS 43 η2) ∧ η3 = η2 := y4
    clear k4 h4
    obtain ⟨a5, b5⟩ : x5 = (yq_isS 45 η3) ∧ η4 = η3 := y5
    clear k5 h5
    subst a1; subst b1
    subst a2; subst b2
    subst e3
    subst a4; subst b4
    subst a5; subst b5
    refine fig.trans (congrArg (fun k => yq_sgB k _) ?_)
    unfold yq_sk
    (repeat' split) <;> first | (exfalso; omega) | exact ⟨rfl, rfl⟩ | rfl
set_option maxHeartbeats 8000000 in
theorem zle_signs_o16 {ro : Nat → List Int32} (xs : List Int) (η0 : zE) (hp : sP wl_le zTr zPle_signs xs η0) (hpp : pPle_signs xs η0) (η : zE) (hI : zsI wl_le zTr zVle_signs zMle_signs η0 0 [] η) (hig : iCle_signs xs η0 0 [] η) : ∀ (x1 : Int) (η1 : zE), ((gC2 wl_le [(nat_lit 0, zPle_isSign, zOle_isSign, zMle_isSign), (nat_lit 1, zPle_wrong, zOle_wrong, zMle_wrong), (nat_lit 2, zPle_token, zOle_token, zMle_token), (nat_lit 3, zPle_isKey, zOle_isKey, zMle_isKey), (nat_lit 4, zPle_isCounted, zOle_isCounted, zMle_isCounted), (nat_lit 5, zPle_waitsFor, zOle_waitsFor, zMle_waitsFor), (nat_lit 6, zPle_rank, zOle_rank, zMle_rank), (nat_lit 7, zPle_bind, zOle_bind, zMle_bind)] pCle_signs qCle_signs) 3).2 [10] η x1 η1 → (x1 = 0) → ∀ (x2 : Int) (η2 : zE), ((gC2 wl_le [(nat_lit 0, zPle_isSign, zOle_isSign, zMle_isSign), (nat_lit 1, zPle_wrong, zOle_wrong, zMle_wrong), (nat_lit 2, zPle_token, zOle_token, zMle_token), (nat_lit 3, zPle_isKey, zOle_isKey, zMle_isKey), (nat_lit 4, zPle_isCounted, zOle_isCounted, zMle_isCounted), (nat_lit 5, zPle_waitsFor, zOle_waitsFor, zMle_waitsFor), (nat_lit 6, zPle_rank, zOle_rank, zMle_rank), (nat_lit 7, zPle_bind, zOle_bind, zMle_bind)] pCle_signs qCle_signs) 3).2 [11] η1 x2 η2 → (x2 = 0) → ∀ x3 : Int, x3 = η2 0 (Int.toNat 8) → zok 0 x3 → (¬ x3 = 5) → ∀ (x4 : Int) (η3 : zE), ((gC2 wl_le [(nat_lit 0, zPle_isSign, zOle_isSign, zMle_isSign), (nat_lit 1, zPle_wrong, zOle_wrong, zMle_wrong), (nat_lit 2, zPle_token, zOle_token, zMle_token), (nat_lit 3, zPle_isKey, zOle_isKey, zMle_isKey), (nat_lit 4, zPle_isCounted, zOle_isCounted, zMle_isCounted), (nat_lit 5, zPle_waitsFor, zOle_waitsFor, zMle_waitsFor), (nat_lit 6, zPle_rank, zOle_rank, zMle_rank), (nat_lit 7, zPle_bind, zOle_bind, zMle_bind)] pCle_signs qCle_signs) 0).2 [43] η2 x4 η3 → (¬ x4 = 0) → (iCle_signs xs η0) 1 [11] η3 ∧ (fun (_ : Nat) (_ : List Int) (_ : zE) => (0 : Nat)) 1 [11] η3 < 1 := by
  have fig := hig.2
  have hig := hig.1
  intro x1 η1 h1 c1 x2 η2 h2 c2 x3 e3 r3 c3 x4 η3 h4 c4
  have y1 : fQle_isKey [10] η x1 η1 := h1.2.2
  have k1 : sQ wl_le zTr zOle_isKey zMle_isKey [10] η x1 η1 ∧ oQle_isKey [10] η x1 η1 := ⟨h1.1, h1.2.1⟩
  have y2 : fQle_isKey [11] η1 x2 η2 := h2.2.2
  have k2 : sQ wl_le zTr zOle_isKey zMle_isKey [11] η1 x2 η2 ∧ oQle_isKey [11] η1 x2 η2 := ⟨h2.1, h2.2.1⟩
  have y4 : fQle_isSign [43] η2 x4 η3 := h4.2.2
  have k4 : sQ wl_le zTr zOle_isSign zMle_isSign [43] η2 x4 η3 ∧ oQle_isSign [43] η2 x4 η3 := ⟨h4.1, h4.2.1⟩
  refine yj_c ?_ ?_
  · have hw : η 0 45 = 0 := hig.2.1
    have hr1 : 1 ≤ η 0 19 := hig.2.2.1
    have hs1 : η 0 7 = η0 0 7 := hig.2.2.2.1
    have hs2 : η 0 6 = η0 0 6 := hig.2.2.2.2.1
    have hs3 : η 0 8 = η0 0 8 := hig.2.2.2.2.2
    have kk : η 0 8 = 5 → 0 ≤ η 0 9 ∧ η 0 9 ≤ 5 := hig.1.1.1.2.1.2
    have bd43 : (0 : Int) ≤ η 0 43 ∧ η 0 43 ≤ 8 := wf_ok (a := 43) (b := 43) (z := (0, 8)) hI.1.1 (by decide +kernel) (Nat.le_refl _) (Nat.le_refl _)
    have bd44 : (0 : Int) ≤ η 0 44 ∧ η 0 44 ≤ 64 := wf_ok (a := 44) (b := 44) (z := (0, 64)) hI.1.1 (by decide +kernel) (Nat.le_refl _) (Nat.le_refl _)
    have bd19 : (0 : Int) ≤ η 0 19 ∧ η 0 19 ≤ 64 := wf_ok (a := 19) (b := 19) (z := (0, 64)) hI.1.1 (by decide +kernel) (Nat.le_refl _) (Nat.le_refl _)
    obtain ⟨u1, u2, u3, u4⟩ := hig.1.2
    have cn := cz_n (η := η) (η 0 41).toNat
    have y1 : fQle_isKey [10] η x1 η1 := h1.2.2
    have k1 : sQ wl_le zTr zOle_isKey zMle_isKey [10] η x1 η1 ∧ oQle_isKey [10] η x1 η1 := ⟨h1.1, h1.2.1⟩
    have y2 : fQle_isKey [11] η1 x2 η2 := h2.2.2
    have k2 : sQ wl_le zTr zOle_isKey zMle_isKey [11] η1 x2 η2 ∧ oQle_isKey [11] η1 x2 η2 := ⟨h2.1, h2.2.1⟩
    have y4 : fQle_isSign [43] η2 x4 η3 := h4.2.2
    have k4 : sQ wl_le zTr zOle_isSign zMle_isSign [43] η2 x4 η3 ∧ oQle_isSign [43] η2 x4 η3 := ⟨h4.1, h4.2.1⟩
    have w0_0_8 : (0 : Int) ≤ η 0 8 ∧ η 0 8 ≤ 6 := wf_ok (a := 8) (b := 8) (z := (0, 6)) hI.1.1 (by decide +kernel) (Nat.le_refl _) (Nat.le_refl _)
    have c0_0_8 : η 0 8 = η 0 8 := rfl
    have wb1 : wB wl_le zTr η1 := k1.1.1
    have bx1 : (0 : Int) ≤ x1 ∧ x1 ≤ 1 := k1.1.2.1
    have v1 : zEq (η1 0 8) (η 0 8) := (k1.1.2.2.2.1 0 8 (by decide +kernel)).trans rfl
    have c1_0_8 : η1 0 8 = η 0 8 := v1
    have wb2 : wB wl_le zTr η2 := k2.1.1
    have bx2 : (0 : Int) ≤ x2 ∧ x2 ≤ 1 := k2.1.2.1
    have v2 : zEq (η2 0 8) (η 0 8) := (k2.1.2.2.2.1 0 8 (by decide +kernel)).trans v1
    replace e3 : x3 = η 0 8 := e3.trans v2
    have c2_0_8 : η2 0 8 = η 0 8 := v2
    have wb3 : wB wl_le zTr η3 := k4.1.1
    have bx4 : (0 : Int) ≤ x4 ∧ x4 ≤ 1 := k4.1.2.1
    have fm1 : zFm zMle_signs η0 η1 := zFm_tr2 hI.2 k1.1.2.2.2.1 (by decide +kernel)
    have fm2 : zFm zMle_signs η0 η2 := zFm_tr2 fm1 k2.1.2.2.2.1 (by decide +kernel)
    have fm3 : zFm zMle_signs η0 η3 := zFm_tr2 fm2 k4.1.2.2.2.1 (by decide +kernel)
    have fmE : zFm zMle_signs η0 η3 := fm3
    have fr22_0 : ∀ j, η 22 j = η 22 j := fun _ => rfl
    have v3 : ∀ j, η1 22 j = η 22 j := fun j => k1.1.2.2.2.1 22 _ (zinr_not (by decide +kernel))
    have fr22_1 : ∀ j, η1 22 j = η 22 j := v3
    have v4 : ∀ j, η2 22 j = η 22 j := fun j => (k2.1.2.2.2.1 22 _ (zinr_not (by decide +kernel))).trans (v3 j)
    have fr22_2 : ∀ j, η2 22 j = η 22 j := v4
    have v5 : ∀ j, η3 22 j = η 22 j := fun j => (k4.1.2.2.2.1 22 _ (zinr_not (by decide +kernel))).trans (v4 j)
    have fr22_3 : ∀ j, η3 22 j = η 22 j := v5
    have fr22 : ∀ j, η3 22 j = η 22 j := v5
    have v7 : zEq (η1 0 41) (η 0 41) := (k1.1.2.2.2.1 0 41 (by decide +kernel)).trans rfl
    have v8 : zEq (η2 0 41) (η 0 41) := (k2.1.2.2.2.1 0 41 (by decide +kernel)).trans v7
    have v9 : zEq (η3 0 41) (η 0 41) := (k4.1.2.2.2.1 0 41 (by decide +kernel)).trans v8
    have f0_41 : η3 0 41 = η 0 41 := v9
    have w0_0_43 : (0 : Int) ≤ η 0 43 ∧ η 0 43 ≤ 8 := wf_ok (a := 43) (b := 43) (z := (0, 8)) hI.1.1 (by decide +kernel) (Nat.le_refl _) (Nat.le_refl _)
    have v11 : zEq (η1 0 43) (η 0 43) := (k1.1.2.2.2.1 0 43 (by decide +kernel)).trans rfl
    have v12 : zEq (η2 0 43) (η 0 43) := (k2.1.2.2.2.1 0 43 (by decide +kernel)).trans v11
    have v13 : zEq (η3 0 43) (η 0 43) := (k4.1.2.2.2.1 0 43 (by decide +kernel)).trans v12
    have f0_43 : η3 0 43 = η 0 43 := v13
    have v15 : zEq (η1 0 42) (η 0 42) := (k1.1.2.2.2.1 0 42 (by decide +kernel)).trans rfl
    have v16 : zEq (η2 0 42) (η 0 42) := (k2.1.2.2.2.1 0 42 (by decide +kernel)).trans v15
    have v17 : zEq (η3 0 42) (η 0 42) := (k4.1.2.2.2.1 0 42 (by decide +kernel)).trans v16
    have f0_42 : η3 0 42 = η 0 42 := v17
    have v19 : zEq (η1 0 45) (η 0 45) := (k1.1.2.2.2.1 0 45 (by decide +kernel)).trans rfl
    have v20 : zEq (η2 0 45) (η 0 45) := (k2.1.2.2.2.1 0 45 (by decide +kernel)).trans v19
    have v21 : zEq (η3 0 45) (η 0 45) := (k4.1.2.2.2.1 0 45 (by decide +kernel)).trans v20
    have f0_45 : η3 0 45 = η 0 45 := v21
    have w0_0_19 : (0 : Int) ≤ η 0 19 ∧ η 0 19 ≤ 64 := wf_ok (a := 19) (b := 19) (z := (0, 64)) hI.1.1 (by decide +kernel) (Nat.le_refl _) (Nat.le_refl _)
    have v23 : zEq (η1 0 19) (η 0 19) := (k1.1.2.2.2.1 0 19 (by decide +kernel)).trans rfl
    have v24 : zEq (η2 0 19) (η 0 19) := (k2.1.2.2.2.1 0 19 (by decide +kernel)).trans v23
    have v25 : zEq (η3 0 19) (η 0 19) := (k4.1.2.2.2.1 0 19 (by decide +kernel)).trans v24
    have f0_19 : η3 0 19 = η 0 19 := v25
    have w0_0_44 : (0 : Int) ≤ η 0 44 ∧ η 0 44 ≤ 64 := wf_ok (a := 44) (b := 44) (z := (0, 64)) hI.1.1 (by decide +kernel) (Nat.le_refl _) (Nat.le_refl _)
    have v27 : zEq (η1 0 44) (η 0 44) := (k1.1.2.2.2.1 0 44 (by decide +kernel)).trans rfl
    have v28 : zEq (η2 0 44) (η 0 44) := (k2.1.2.2.2.1 0 44 (by decide +kernel)).trans v27
    have v29 : zEq (η3 0 44) (η 0 44) := (k4.1.2.2.2.1 0 44 (by decide +kernel)).trans v28
    have f0_44 : η3 0 44 = η 0 44 := v29
    have w0_0_7 : (0 : Int) ≤ η 0 7 ∧ η 0 7 ≤ 700 := wf_ok (a := 7) (b := 7) (z := (0, 700)) hI.1.1 (by decide +kernel) (Nat.le_refl _) (Nat.le_refl _)
    have v31 : zEq (η1 0 7) (η 0 7) := (k1.1.2.2.2.1 0 7 (by decide +kernel)).trans rfl
    have v32 : zEq (η2 0 7) (η 0 7) := (k2.1.2.2.2.1 0 7 (by decide +kernel)).trans v31
    have v33 : zEq (η3 0 7) (η 0 7) := (k4.1.2.2.2.1 0 7 (by decide +kernel)).trans v32
    have f0_7 : η3 0 7 = η 0 7 := v33
    have w0_0_6 : (0 : Int) ≤ η 0 6 ∧ η 0 6 ≤ 700 := wf_ok (a := 6) (b := 6) (z := (0, 700)) hI.1.1 (by decide +kernel) (Nat.le_refl _) (Nat.le_refl _)
    have v35 : zEq (η1 0 6) (η 0 6) := (k1.1.2.2.2.1 0 6 (by decide +kernel)).trans rfl
    have v36 : zEq (η2 0 6) (η 0 6) := (k2.1.2.2.2.1 0 6 (by decide +kernel)).trans v35
    have v37 : zEq (η3 0 6) (η 0 6) := (k4.1.2.2.2.1 0 6 (by decide +kernel)).trans v36
    have f0_6 : η3 0 6 = η 0 6 := v37
    have v38 : zEq (η3 0 8) (η 0 8) := (k4.1.2.2.2.1 0 8 (by decide +kernel)).trans v2
    have f0_8 : η3 0 8 = η 0 8 := v38
    have wbE : wB wl_le zTr η3 := wb3
    
    have I0 : H_l 0 0 0 η := hig.1
    have I1 : H_l 0 0 0 η1 := k1.2.1
    have I2 : H_l 0 0 0 η2 := k2.2.1
    have I3 : H_l 0 0 0 η3 := k4.2.1
    have qk4 : η2 0 8 = 4 := k4.2.2 c4
    exact ⟨⟨I3, show η3 0 45 = 0 by apply Int.le_antisymm <;> omega, show 1 ≤ η3 0 19 by omega, show η3 0 7 = η0 0 7 by apply Int.le_antisymm <;> omega, show η3 0 6 = η0 0 6 by apply Int.le_antisymm <;> omega, show η3 0 8 = η0 0 8 by apply Int.le_antisymm <;> omega, Or.inr ⟨by decide, show ¬ η3 0 8 = 0 by omega⟩⟩, Nat.zero_lt_one⟩
  · have fig : yq_sgn η0 = yq_sgB (yq_sk η) η := fig
    show yq_sgn η0 = yq_sgB 11 η3
    obtain ⟨a1, b1⟩ : x1 = (yq_isK 10 η) ∧ η1 = η := y1
    clear k1 h1
    obtain ⟨a2, b2⟩ : x2 = (yq_isK 11 η1) ∧ η2 = η1 := y2
    clear k2 h2
    have e3 : x3 = η2 0 8 := e3
    clear r3
    obtain ⟨a4, b4⟩ : x4 = (yq_isS 43 η2) ∧ η3 = η2 := y4
    clear k4 h4
    subst a1; subst b1
    subst a2; subst b2
    subst e3
    subst a4; subst b4
    refine fig.trans (congrArg (fun k => yq_sgB k _) ?_)
    unfold yq_sk
    (repeat' split) <;> first | (exfalso; omega) | exact ⟨rfl, rfl⟩ | rfl
set_option maxHeartbeats 8000000 in
theorem zle_signs_o17 {ro : Nat → List Int32} (xs : List Int) (η0 : zE) (hp : sP wl_le zTr zPle_signs xs η0) (hpp : pPle_signs xs η0) (η : zE) (hI : zsI wl_le zTr zVle_signs zMle_signs η0 0 [] η) (hig : iCle_signs xs η0 0 [] η) : ∀ (x1 : Int) (η1 : zE), ((gC2 wl_le [(nat_lit 0, zPle_isSign, zOle_isSign, zMle_isSign), (nat_lit 1, zPle_wrong, zOle_wrong, zMle_wrong), (nat_lit 2, zPle_token, zOle_token, zMle_token), (nat_lit 3, zPle_isKey, zOle_isKey, zMle_isKey), (nat_lit 4, zPle_isCounted, zOle_isCounted, zMle_isCounted), (nat_lit 5, zPle_waitsFor, zOle_waitsFor, zMle_waitsFor), (nat_lit 6, zPle_rank, zOle_rank, zMle_rank), (nat_lit 7, zPle_bind, zOle_bind, zMle_bind)] pCle_signs qCle_signs) 3).2 [10] η x1 η1 → (x1 = 0) → ∀ (x2 : Int) (η2 : zE), ((gC2 wl_le [(nat_lit 0, zPle_isSign, zOle_isSign, zMle_isSign), (nat_lit 1, zPle_wrong, zOle_wrong, zMle_wrong), (nat_lit 2, zPle_token, zOle_token, zMle_token), (nat_lit 3, zPle_isKey, zOle_isKey, zMle_isKey), (nat_lit 4, zPle_isCounted, zOle_isCounted, zMle_isCounted), (nat_lit 5, zPle_waitsFor, zOle_waitsFor, zMle_waitsFor), (nat_lit 6, zPle_rank, zOle_rank, zMle_rank), (nat_lit 7, zPle_bind, zOle_bind, zMle_bind)] pCle_signs qCle_signs) 3).2 [11] η1 x2 η2 → (¬ x2 = 0) → (iCle_signs xs η0) 1 [4] η2 ∧ (fun (_ : Nat) (_ : List Int) (_ : zE) => (0 : Nat)) 1 [4] η2 < 1 := by
  have fig := hig.2
  have hig := hig.1
  intro x1 η1 h1 c1 x2 η2 h2 c2
  have y1 : fQle_isKey [10] η x1 η1 := h1.2.2
  have k1 : sQ wl_le zTr zOle_isKey zMle_isKey [10] η x1 η1 ∧ oQle_isKey [10] η x1 η1 := ⟨h1.1, h1.2.1⟩
  have y2 : fQle_isKey [11] η1 x2 η2 := h2.2.2
  have k2 : sQ wl_le zTr zOle_isKey zMle_isKey [11] η1 x2 η2 ∧ oQle_isKey [11] η1 x2 η2 := ⟨h2.1, h2.2.1⟩
  refine yj_c ?_ ?_
  · have hw : η 0 45 = 0 := hig.2.1
    have hr1 : 1 ≤ η 0 19 := hig.2.2.1
    have hs1 : η 0 7 = η0 0 7 := hig.2.2.2.1
    have hs2 : η 0 6 = η0 0 6 := hig.2.2.2.2.1
    have hs3 : η 0 8 = η0 0 8 := hig.2.2.2.2.2
    have kk : η 0 8 = 5 → 0 ≤ η 0 9 ∧ η 0 9 ≤ 5 := hig.1.1.1.2.1.2
    have bd43 : (0 : Int) ≤ η 0 43 ∧ η 0 43 ≤ 8 := wf_ok (a := 43) (b := 43) (z := (0, 8)) hI.1.1 (by decide +kernel) (Nat.le_refl _) (Nat.le_refl _)
    have bd44 : (0 : Int) ≤ η 0 44 ∧ η 0 44 ≤ 64 := wf_ok (a := 44) (b := 44) (z := (0, 64)) hI.1.1 (by decide +kernel) (Nat.le_refl _) (Nat.le_refl _)
    have bd19 : (0 : Int) ≤ η 0 19 ∧ η 0 19 ≤ 64 := wf_ok (a := 19) (b := 19) (z := (0, 64)) hI.1.1 (by decide +kernel) (Nat.le_refl _) (Nat.le_refl _)
    obtain ⟨u1, u2, u3, u4⟩ := hig.1.2
    have cn := cz_n (η := η) (η 0 41).toNat
    have y1 : fQle_isKey [10] η x1 η1 := h1.2.2
    have k1 : sQ wl_le zTr zOle_isKey zMle_isKey [10] η x1 η1 ∧ oQle_isKey [10] η x1 η1 := ⟨h1.1, h1.2.1⟩
    have y2 : fQle_isKey [11] η1 x2 η2 := h2.2.2
    have k2 : sQ wl_le zTr zOle_isKey zMle_isKey [11] η1 x2 η2 ∧ oQle_isKey [11] η1 x2 η2 := ⟨h2.1, h2.2.1⟩
    have w0_0_8 : (0 : Int) ≤ η 0 8 ∧ η 0 8 ≤ 6 := wf_ok (a := 8) (b := 8) (z := (0, 6)) hI.1.1 (by decide +kernel) (Nat.le_refl _) (Nat.le_refl _)
    have c0_0_8 : η 0 8 = η 0 8 := rfl
    have wb1 : wB wl_le zTr η1 := k1.1.1
    have bx1 : (0 : Int) ≤ x1 ∧ x1 ≤ 1 := k1.1.2.1
    have v1 : zEq (η1 0 8) (η 0 8) := (k1.1.2.2.2.1 0 8 (by decide +kernel)).trans rfl
    have c1_0_8 : η1 0 8 = η 0 8 := v1
    have wb2 : wB wl_le zTr η2 := k2.1.1
    have bx2 : (0 : Int) ≤ x2 ∧ x2 ≤ 1 := k2.1.2.1
    have fm1 : zFm zMle_signs η0 η1 := zFm_tr2 hI.2 k1.1.2.2.2.1 (by decide +kernel)
    have fm2 : zFm zMle_signs η0 η2 := zFm_tr2 fm1 k2.1.2.2.2.1 (by decide +kernel)
    have fmE : zFm zMle_signs η0 η2 := fm2
    have fr22_0 : ∀ j, η 22 j = η 22 j := fun _ => rfl
    have v2 : ∀ j, η1 22 j = η 22 j := fun j => k1.1.2.2.2.1 22 _ (zinr_not (by decide +kernel))
    have fr22_1 : ∀ j, η1 22 j = η 22 j := v2
    have v3 : ∀ j, η2 22 j = η 22 j := fun j => (k2.1.2.2.2.1 22 _ (zinr_not (by decide +kernel))).trans (v2 j)
    have fr22_2 : ∀ j, η2 22 j = η 22 j := v3
    have fr22 : ∀ j, η2 22 j = η 22 j := v3
    have v5 : zEq (η1 0 41) (η 0 41) := (k1.1.2.2.2.1 0 41 (by decide +kernel)).trans rfl
    have v6 : zEq (η2 0 41) (η 0 41) := (k2.1.2.2.2.1 0 41 (by decide +kernel)).trans v5
    have f0_41 : η2 0 41 = η 0 41 := v6
    have w0_0_43 : (0 : Int) ≤ η 0 43 ∧ η 0 43 ≤ 8 := wf_ok (a := 43) (b := 43) (z := (0, 8)) hI.1.1 (by decide +kernel) (Nat.le_refl _) (Nat.le_refl _)
    have v8 : zEq (η1 0 43) (η 0 43) := (k1.1.2.2.2.1 0 43 (by decide +kernel)).trans rfl
    have v9 : zEq (η2 0 43) (η 0 43) := (k2.1.2.2.2.1 0 43 (by decide +kernel)).trans v8
    have f0_43 : η2 0 43 = η 0 43 := v9
    have v11 : zEq (η1 0 42) (η 0 42) := (k1.1.2.2.2.1 0 42 (by decide +kernel)).trans rfl
    have v12 : zEq (η2 0 42) (η 0 42) := (k2.1.2.2.2.1 0 42 (by decide +kernel)).trans v11
    have f0_42 : η2 0 42 = η 0 42 := v12
    have v14 : zEq (η1 0 45) (η 0 45) := (k1.1.2.2.2.1 0 45 (by decide +kernel)).trans rfl
    have v15 : zEq (η2 0 45) (η 0 45) := (k2.1.2.2.2.1 0 45 (by decide +kernel)).trans v14
    have f0_45 : η2 0 45 = η 0 45 := v15
    have w0_0_19 : (0 : Int) ≤ η 0 19 ∧ η 0 19 ≤ 64 := wf_ok (a := 19) (b := 19) (z := (0, 64)) hI.1.1 (by decide +kernel) (Nat.le_refl _) (Nat.le_refl _)
    have v17 : zEq (η1 0 19) (η 0 19) := (k1.1.2.2.2.1 0 19 (by decide +kernel)).trans rfl
    have v18 : zEq (η2 0 19) (η 0 19) := (k2.1.2.2.2.1 0 19 (by decide +kernel)).trans v17
    have f0_19 : η2 0 19 = η 0 19 := v18
    have w0_0_44 : (0 : Int) ≤ η 0 44 ∧ η 0 44 ≤ 64 := wf_ok (a := 44) (b := 44) (z := (0, 64)) hI.1.1 (by decide +kernel) (Nat.le_refl _) (Nat.le_refl _)
    have v20 : zEq (η1 0 44) (η 0 44) := (k1.1.2.2.2.1 0 44 (by decide +kernel)).trans rfl
    have v21 : zEq (η2 0 44) (η 0 44) := (k2.1.2.2.2.1 0 44 (by decide +kernel)).trans v20
    have f0_44 : η2 0 44 = η 0 44 := v21
    have w0_0_7 : (0 : Int) ≤ η 0 7 ∧ η 0 7 ≤ 700 := wf_ok (a := 7) (b := 7) (z := (0, 700)) hI.1.1 (by decide +kernel) (Nat.le_refl _) (Nat.le_refl _)
    have v23 : zEq (η1 0 7) (η 0 7) := (k1.1.2.2.2.1 0 7 (by decide +kernel)).trans rfl
    have v24 : zEq (η2 0 7) (η 0 7) := (k2.1.2.2.2.1 0 7 (by decide +kernel)).trans v23
    have f0_7 : η2 0 7 = η 0 7 := v24
    have w0_0_6 : (0 : Int) ≤ η 0 6 ∧ η 0 6 ≤ 700 := wf_ok (a := 6) (b := 6) (z := (0, 700)) hI.1.1 (by decide +kernel) (Nat.le_refl _) (Nat.le_refl _)
    have v26 : zEq (η1 0 6) (η 0 6) := (k1.1.2.2.2.1 0 6 (by decide +kernel)).trans rfl
    have v27 : zEq (η2 0 6) (η 0 6) := (k2.1.2.2.2.1 0 6 (by decide +kernel)).trans v26
    have f0_6 : η2 0 6 = η 0 6 := v27
    have v28 : zEq (η2 0 8) (η 0 8) := (k2.1.2.2.2.1 0 8 (by decide +kernel)).trans v1
    have f0_8 : η2 0 8 = η 0 8 := v28
    have wbE : wB wl_le zTr η2 := wb2
    
    have I0 : H_l 0 0 0 η := hig.1
    have I1 : H_l 0 0 0 η1 := k1.2.1
    have I2 : H_l 0 0 0 η2 := k2.2.1
    have qk2 : η1 0 8 = 1 := k2.2.2 c2
    exact ⟨⟨I2, show η2 0 45 = 0 by apply Int.le_antisymm <;> omega, show 1 ≤ η2 0 19 by omega, show η2 0 7 = η0 0 7 by apply Int.le_antisymm <;> omega, show η2 0 6 = η0 0 6 by apply Int.le_antisymm <;> omega, show η2 0 8 = η0 0 8 by apply Int.le_antisymm <;> omega, Or.inr ⟨by decide, show ¬ η2 0 8 = 0 by omega⟩⟩, Nat.zero_lt_one⟩
  · have fig : yq_sgn η0 = yq_sgB (yq_sk η) η := fig
    show yq_sgn η0 = yq_sgB 4 η2
    obtain ⟨a1, b1⟩ : x1 = (yq_isK 10 η) ∧ η1 = η := y1
    clear k1 h1
    obtain ⟨a2, b2⟩ : x2 = (yq_isK 11 η1) ∧ η2 = η1 := y2
    clear k2 h2
    subst a1; subst b1
    subst a2; subst b2
    refine fig.trans (congrArg (fun k => yq_sgB k _) ?_)
    unfold yq_sk
    (repeat' split) <;> first | (exfalso; omega) | exact ⟨rfl, rfl⟩ | rfl
set_option maxHeartbeats 8000000 in
theorem zle_signs_o18 {ro : Nat → List Int32} (xs : List Int) (η0 : zE) (hp : sP wl_le zTr zPle_signs xs η0) (hpp : pPle_signs xs η0) (η : zE) (hI : zsI wl_le zTr zVle_signs zMle_signs η0 0 [] η) (hig : iCle_signs xs η0 0 [] η) : ∀ (x1 : Int) (η1 : zE), ((gC2 wl_le [(nat_lit 0, zPle_isSign, zOle_isSign, zMle_isSign), (nat_lit 1, zPle_wrong, zOle_wrong, zMle_wrong), (nat_lit 2, zPle_token, zOle_token, zMle_token), (nat_lit 3, zPle_isKey, zOle_isKey, zMle_isKey), (nat_lit 4, zPle_isCounted, zOle_isCounted, zMle_isCounted), (nat_lit 5, zPle_waitsFor, zOle_waitsFor, zMle_waitsFor), (nat_lit 6, zPle_rank, zOle_rank, zMle_rank), (nat_lit 7, zPle_bind, zOle_bind, zMle_bind)] pCle_signs qCle_signs) 3).2 [10] η x1 η1 → (¬ x1 = 0) → (iCle_signs xs η0) 1 [3] η1 ∧ (fun (_ : Nat) (_ : List Int) (_ : zE) => (0 : Nat)) 1 [3] η1 < 1 := by
  have fig := hig.2
  have hig := hig.1
  intro x1 η1 h1 c1
  have y1 : fQle_isKey [10] η x1 η1 := h1.2.2
  have k1 : sQ wl_le zTr zOle_isKey zMle_isKey [10] η x1 η1 ∧ oQle_isKey [10] η x1 η1 := ⟨h1.1, h1.2.1⟩
  refine yj_c ?_ ?_
  · have hw : η 0 45 = 0 := hig.2.1
    have hr1 : 1 ≤ η 0 19 := hig.2.2.1
    have hs1 : η 0 7 = η0 0 7 := hig.2.2.2.1
    have hs2 : η 0 6 = η0 0 6 := hig.2.2.2.2.1
    have hs3 : η 0 8 = η0 0 8 := hig.2.2.2.2.2
    have kk : η 0 8 = 5 → 0 ≤ η 0 9 ∧ η 0 9 ≤ 5 := hig.1.1.1.2.1.2
    have bd43 : (0 : Int) ≤ η 0 43 ∧ η 0 43 ≤ 8 := wf_ok (a := 43) (b := 43) (z := (0, 8)) hI.1.1 (by decide +kernel) (Nat.le_refl _) (Nat.le_refl _)
    have bd44 : (0 : Int) ≤ η 0 44 ∧ η 0 44 ≤ 64 := wf_ok (a := 44) (b := 44) (z := (0, 64)) hI.1.1 (by decide +kernel) (Nat.le_refl _) (Nat.le_refl _)
    have bd19 : (0 : Int) ≤ η 0 19 ∧ η 0 19 ≤ 64 := wf_ok (a := 19) (b := 19) (z := (0, 64)) hI.1.1 (by decide +kernel) (Nat.le_refl _) (Nat.le_refl _)
    obtain ⟨u1, u2, u3, u4⟩ := hig.1.2
    have cn := cz_n (η := η) (η 0 41).toNat
    have y1 : fQle_isKey [10] η x1 η1 := h1.2.2
    have k1 : sQ wl_le zTr zOle_isKey zMle_isKey [10] η x1 η1 ∧ oQle_isKey [10] η x1 η1 := ⟨h1.1, h1.2.1⟩
    have w0_0_8 : (0 : Int) ≤ η 0 8 ∧ η 0 8 ≤ 6 := wf_ok (a := 8) (b := 8) (z := (0, 6)) hI.1.1 (by decide +kernel) (Nat.le_refl _) (Nat.le_refl _)
    have c0_0_8 : η 0 8 = η 0 8 := rfl
    have wb1 : wB wl_le zTr η1 := k1.1.1
    have bx1 : (0 : Int) ≤ x1 ∧ x1 ≤ 1 := k1.1.2.1
    have fm1 : zFm zMle_signs η0 η1 := zFm_tr2 hI.2 k1.1.2.2.2.1 (by decide +kernel)
    have fmE : zFm zMle_signs η0 η1 := fm1
    have fr22_0 : ∀ j, η 22 j = η 22 j := fun _ => rfl
    have v1 : ∀ j, η1 22 j = η 22 j := fun j => k1.1.2.2.2.1 22 _ (zinr_not (by decide +kernel))
    have fr22_1 : ∀ j, η1 22 j = η 22 j := v1
    have fr22 : ∀ j, η1 22 j = η 22 j := v1
    have v3 : zEq (η1 0 41) (η 0 41) := (k1.1.2.2.2.1 0 41 (by decide +kernel)).trans rfl
    have f0_41 : η1 0 41 = η 0 41 := v3
    have w0_0_43 : (0 : Int) ≤ η 0 43 ∧ η 0 43 ≤ 8 := wf_ok (a := 43) (b := 43) (z := (0, 8)) hI.1.1 (by decide +kernel) (Nat.le_refl _) (Nat.le_refl _)
    have v5 : zEq (η1 0 43) (η 0 43) := (k1.1.2.2.2.1 0 43 (by decide +kernel)).trans rfl
    have f0_43 : η1 0 43 = η 0 43 := v5
    have v7 : zEq (η1 0 42) (η 0 42) := (k1.1.2.2.2.1 0 42 (by decide +kernel)).trans rfl
    have f0_42 : η1 0 42 = η 0 42 := v7
    have v9 : zEq (η1 0 45) (η 0 45) := (k1.1.2.2.2.1 0 45 (by decide +kernel)).trans rfl
    have f0_45 : η1 0 45 = η 0 45 := v9
    have w0_0_19 : (0 : Int) ≤ η 0 19 ∧ η 0 19 ≤ 64 := wf_ok (a := 19) (b := 19) (z := (0, 64)) hI.1.1 (by decide +kernel) (Nat.le_refl _) (Nat.le_refl _)
    have v11 : zEq (η1 0 19) (η 0 19) := (k1.1.2.2.2.1 0 19 (by decide +kernel)).trans rfl
    have f0_19 : η1 0 19 = η 0 19 := v11
    have w0_0_44 : (0 : Int) ≤ η 0 44 ∧ η 0 44 ≤ 64 := wf_ok (a := 44) (b := 44) (z := (0, 64)) hI.1.1 (by decide +kernel) (Nat.le_refl _) (Nat.le_refl _)
    have v13 : zEq (η1 0 44) (η 0 44) := (k1.1.2.2.2.1 0 44 (by decide +kernel)).trans rfl
    have f0_44 : η1 0 44 = η 0 44 := v13
    have w0_0_7 : (0 : Int) ≤ η 0 7 ∧ η 0 7 ≤ 700 := wf_ok (a := 7) (b := 7) (z := (0, 700)) hI.1.1 (by decide +kernel) (Nat.le_refl _) (Nat.le_refl _)
    have v15 : zEq (η1 0 7) (η 0 7) := (k1.1.2.2.2.1 0 7 (by decide +kernel)).trans rfl
    have f0_7 : η1 0 7 = η 0 7 := v15
    have w0_0_6 : (0 : Int) ≤ η 0 6 ∧ η 0 6 ≤ 700 := wf_ok (a := 6) (b := 6) (z := (0, 700)) hI.1.1 (by decide +kernel) (Nat.le_refl _) (Nat.le_refl _)
    have v17 : zEq (η1 0 6) (η 0 6) := (k1.1.2.2.2.1 0 6 (by decide +kernel)).trans rfl
    have f0_6 : η1 0 6 = η 0 6 := v17
    have v18 : zEq (η1 0 8) (η 0 8) := (k1.1.2.2.2.1 0 8 (by decide +kernel)).trans rfl
    have f0_8 : η1 0 8 = η 0 8 := v18
    have wbE : wB wl_le zTr η1 := wb1
    
    have I0 : H_l 0 0 0 η := hig.1
    have I1 : H_l 0 0 0 η1 := k1.2.1
    have qk1 : η 0 8 = 1 := k1.2.2 c1
    exact ⟨⟨I1, show η1 0 45 = 0 by apply Int.le_antisymm <;> omega, show 1 ≤ η1 0 19 by omega, show η1 0 7 = η0 0 7 by apply Int.le_antisymm <;> omega, show η1 0 6 = η0 0 6 by apply Int.le_antisymm <;> omega, show η1 0 8 = η0 0 8 by apply Int.le_antisymm <;> omega, Or.inr ⟨by decide, show ¬ η1 0 8 = 0 by omega⟩⟩, Nat.zero_lt_one⟩
  · have fig : yq_sgn η0 = yq_sgB (yq_sk η) η := fig
    show yq_sgn η0 = yq_sgB 3 η1
    obtain ⟨a1, b1⟩ : x1 = (yq_isK 10 η) ∧ η1 = η := y1
    clear k1 h1
    subst a1; subst b1
    refine fig.trans (congrArg (fun k => yq_sgB k _) ?_)
    unfold yq_sk
    (repeat' split) <;> first | (exfalso; omega) | exact ⟨rfl, rfl⟩ | rfl
set_option maxHeartbeats 8000000 in
theorem zle_signs_o19 {ro : Nat → List Int32} (xs : List Int) (η0 : zE) (hp : sP wl_le zTr zPle_signs xs η0) (hpp : pPle_signs xs η0) (η : zE) (hI : zsI wl_le zTr zVle_signs zMle_signs η0 0 [] η) (hig : iCle_signs xs η0 0 [] η) : ∀ (x1 : Int) (η1 : zE), ((gC wl_le [(nat_lit 0, zPle_isSign, zOle_isSign, zMle_isSign), (nat_lit 1, zPle_wrong, zOle_wrong, zMle_wrong), (nat_lit 2, zPle_token, zOle_token, zMle_token), (nat_lit 3, zPle_isKey, zOle_isKey, zMle_isKey), (nat_lit 4, zPle_isCounted, zOle_isCounted, zMle_isCounted), (nat_lit 5, zPle_waitsFor, zOle_waitsFor, zMle_waitsFor), (nat_lit 6, zPle_rank, zOle_rank, zMle_rank), (nat_lit 7, zPle_bind, zOle_bind, zMle_bind)] pCle_signs qCle_signs) 3).2 [10] η x1 η1 → (x1 = 0) → ∀ (x2 : Int) (η2 : zE), ((gC wl_le [(nat_lit 0, zPle_isSign, zOle_isSign, zMle_isSign), (nat_lit 1, zPle_wrong, zOle_wrong, zMle_wrong), (nat_lit 2, zPle_token, zOle_token, zMle_token), (nat_lit 3, zPle_isKey, zOle_isKey, zMle_isKey), (nat_lit 4, zPle_isCounted, zOle_isCounted, zMle_isCounted), (nat_lit 5, zPle_waitsFor, zOle_waitsFor, zMle_waitsFor), (nat_lit 6, zPle_rank, zOle_rank, zMle_rank), (nat_lit 7, zPle_bind, zOle_bind, zMle_bind)] pCle_signs qCle_signs) 3).2 [11] η1 x2 η2 → (x2 = 0) → ∀ x3 : Int, x3 = η2 0 (Int.toNat 8) → zok 0 x3 → (x3 = 5) → ∀ x4 : Int, x4 = η2 0 (Int.toNat 9) → zok 0 x4 → ∀ x5 : Int, x5 = zd 0 1 5 x4 → (fun c ys η1 => zsI wl_le zTr zVle_signs zMle_signs η0 c ys η1 ∧ iCle_signs xs η0 c ys η1) 1 [x5] η2 ∧ (zsM zVle_signs) 1 [x5] η2 < zsM zVle_signs 0 [] η := by
  have fig := hig.2
  have hig := hig.1
  intro x1 η1 h1 c1 x2 η2 h2 c2 x3 e3 r3 c3 x4 e4 r4 x5 e5
  have y1 : fQle_isKey [10] η x1 η1 := h1.2.2
  have k1 : sQ wl_le zTr zOle_isKey zMle_isKey [10] η x1 η1 ∧ oQle_isKey [10] η x1 η1 := ⟨h1.1, h1.2.1⟩
  have y2 : fQle_isKey [11] η1 x2 η2 := h2.2.2
  have k2 : sQ wl_le zTr zOle_isKey zMle_isKey [11] η1 x2 η2 ∧ oQle_isKey [11] η1 x2 η2 := ⟨h2.1, h2.2.1⟩
  refine yj_d ?_ ?_
  · have hw : η 0 45 = 0 := hig.2.1
    have hr1 : 1 ≤ η 0 19 := hig.2.2.1
    have hs1 : η 0 7 = η0 0 7 := hig.2.2.2.1
    have hs2 : η 0 6 = η0 0 6 := hig.2.2.2.2.1
    have hs3 : η 0 8 = η0 0 8 := hig.2.2.2.2.2
    have kk : η 0 8 = 5 → 0 ≤ η 0 9 ∧ η 0 9 ≤ 5 := hig.1.1.1.2.1.2
    have bd43 : (0 : Int) ≤ η 0 43 ∧ η 0 43 ≤ 8 := wf_ok (a := 43) (b := 43) (z := (0, 8)) hI.1.1 (by decide +kernel) (Nat.le_refl _) (Nat.le_refl _)
    have bd44 : (0 : Int) ≤ η 0 44 ∧ η 0 44 ≤ 64 := wf_ok (a := 44) (b := 44) (z := (0, 64)) hI.1.1 (by decide +kernel) (Nat.le_refl _) (Nat.le_refl _)
    have bd19 : (0 : Int) ≤ η 0 19 ∧ η 0 19 ≤ 64 := wf_ok (a := 19) (b := 19) (z := (0, 64)) hI.1.1 (by decide +kernel) (Nat.le_refl _) (Nat.le_refl _)
    obtain ⟨u1, u2, u3, u4⟩ := hig.1.2
    have cn := cz_n (η := η) (η 0 41).toNat
    replace e5 := zEq_i e5
    have y1 : fQle_isKey [10] η x1 η1 := h1.2.2
    have k1 : sQ wl_le zTr zOle_isKey zMle_isKey [10] η x1 η1 ∧ oQle_isKey [10] η x1 η1 := ⟨h1.1, h1.2.1⟩
    have y2 : fQle_isKey [11] η1 x2 η2 := h2.2.2
    have k2 : sQ wl_le zTr zOle_isKey zMle_isKey [11] η1 x2 η2 ∧ oQle_isKey [11] η1 x2 η2 := ⟨h2.1, h2.2.1⟩
    have w0_0_8 : (0 : Int) ≤ η 0 8 ∧ η 0 8 ≤ 6 := wf_ok (a := 8) (b := 8) (z := (0, 6)) hI.1.1 (by decide +kernel) (Nat.le_refl _) (Nat.le_refl _)
    have c0_0_8 : η 0 8 = η 0 8 := rfl
    have wb1 : wB wl_le zTr η1 := k1.1.1
    have bx1 : (0 : Int) ≤ x1 ∧ x1 ≤ 1 := k1.1.2.1
    have v1 : zEq (η1 0 8) (η 0 8) := (k1.1.2.2.2.1 0 8 (by decide +kernel)).trans rfl
    have c1_0_8 : η1 0 8 = η 0 8 := v1
    have wb2 : wB wl_le zTr η2 := k2.1.1
    have bx2 : (0 : Int) ≤ x2 ∧ x2 ≤ 1 := k2.1.2.1
    have v2 : zEq (η2 0 8) (η 0 8) := (k2.1.2.2.2.1 0 8 (by decide +kernel)).trans v1
    replace e3 : x3 = η 0 8 := e3.trans v2
    have v4 : zEq (η1 0 9) (η 0 9) := (k1.1.2.2.2.1 0 9 (by decide +kernel)).trans rfl
    have v5 : zEq (η2 0 9) (η 0 9) := (k2.1.2.2.2.1 0 9 (by decide +kernel)).trans v4
    replace e4 : x4 = η 0 9 := e4.trans v5
    replace r4 : -2147483648 ≤ x4 ∧ x4 ≤ 2147483647 := r4
    first
    | replace e5 : x5 = 5 + x4 := zd_a2 (zEq_o e5) (by clear e5; exact ⟨by omega, by omega⟩)
    | clear e5
    have fm1 : zFm zMle_signs η0 η1 := zFm_tr2 hI.2 k1.1.2.2.2.1 (by decide +kernel)
    have fm2 : zFm zMle_signs η0 η2 := zFm_tr2 fm1 k2.1.2.2.2.1 (by decide +kernel)
    have fmE : zFm zMle_signs η0 η2 := fm2
    have fr22_0 : ∀ j, η 22 j = η 22 j := fun _ => rfl
    have v6 : ∀ j, η1 22 j = η 22 j := fun j => k1.1.2.2.2.1 22 _ (zinr_not (by decide +kernel))
    have fr22_1 : ∀ j, η1 22 j = η 22 j := v6
    have v7 : ∀ j, η2 22 j = η 22 j := fun j => (k2.1.2.2.2.1 22 _ (zinr_not (by decide +kernel))).trans (v6 j)
    have fr22_2 : ∀ j, η2 22 j = η 22 j := v7
    have fr22 : ∀ j, η2 22 j = η 22 j := v7
    have v9 : zEq (η1 0 41) (η 0 41) := (k1.1.2.2.2.1 0 41 (by decide +kernel)).trans rfl
    have v10 : zEq (η2 0 41) (η 0 41) := (k2.1.2.2.2.1 0 41 (by decide +kernel)).trans v9
    have f0_41 : η2 0 41 = η 0 41 := v10
    have w0_0_43 : (0 : Int) ≤ η 0 43 ∧ η 0 43 ≤ 8 := wf_ok (a := 43) (b := 43) (z := (0, 8)) hI.1.1 (by decide +kernel) (Nat.le_refl _) (Nat.le_refl _)
    have v12 : zEq (η1 0 43) (η 0 43) := (k1.1.2.2.2.1 0 43 (by decide +kernel)).trans rfl
    have v13 : zEq (η2 0 43) (η 0 43) := (k2.1.2.2.2.1 0 43 (by decide +kernel)).trans v12
    have f0_43 : η2 0 43 = η 0 43 := v13
    have v15 : zEq (η1 0 42) (η 0 42) := (k1.1.2.2.2.1 0 42 (by decide +kernel)).trans rfl
    have v16 : zEq (η2 0 42) (η 0 42) := (k2.1.2.2.2.1 0 42 (by decide +kernel)).trans v15
    have f0_42 : η2 0 42 = η 0 42 := v16
    have v18 : zEq (η1 0 45) (η 0 45) := (k1.1.2.2.2.1 0 45 (by decide +kernel)).trans rfl
    have v19 : zEq (η2 0 45) (η 0 45) := (k2.1.2.2.2.1 0 45 (by decide +kernel)).trans v18
    have f0_45 : η2 0 45 = η 0 45 := v19
    have w0_0_19 : (0 : Int) ≤ η 0 19 ∧ η 0 19 ≤ 64 := wf_ok (a := 19) (b := 19) (z := (0, 64)) hI.1.1 (by decide +kernel) (Nat.le_refl _) (Nat.le_refl _)
    have v21 : zEq (η1 0 19) (η 0 19) := (k1.1.2.2.2.1 0 19 (by decide +kernel)).trans rfl
    have v22 : zEq (η2 0 19) (η 0 19) := (k2.1.2.2.2.1 0 19 (by decide +kernel)).trans v21
    have f0_19 : η2 0 19 = η 0 19 := v22
    have w0_0_44 : (0 : Int) ≤ η 0 44 ∧ η 0 44 ≤ 64 := wf_ok (a := 44) (b := 44) (z := (0, 64)) hI.1.1 (by decide +kernel) (Nat.le_refl _) (Nat.le_refl _)
    have v24 : zEq (η1 0 44) (η 0 44) := (k1.1.2.2.2.1 0 44 (by decide +kernel)).trans rfl
    have v25 : zEq (η2 0 44) (η 0 44) := (k2.1.2.2.2.1 0 44 (by decide +kernel)).trans v24
    have f0_44 : η2 0 44 = η 0 44 := v25
    have w0_0_7 : (0 : Int) ≤ η 0 7 ∧ η 0 7 ≤ 700 := wf_ok (a := 7) (b := 7) (z := (0, 700)) hI.1.1 (by decide +kernel) (Nat.le_refl _) (Nat.le_refl _)
    have v27 : zEq (η1 0 7) (η 0 7) := (k1.1.2.2.2.1 0 7 (by decide +kernel)).trans rfl
    have v28 : zEq (η2 0 7) (η 0 7) := (k2.1.2.2.2.1 0 7 (by decide +kernel)).trans v27
    have f0_7 : η2 0 7 = η 0 7 := v28
    have w0_0_6 : (0 : Int) ≤ η 0 6 ∧ η 0 6 ≤ 700 := wf_ok (a := 6) (b := 6) (z := (0, 700)) hI.1.1 (by decide +kernel) (Nat.le_refl _) (Nat.le_refl _)
    have v30 : zEq (η1 0 6) (η 0 6) := (k1.1.2.2.2.1 0 6 (by decide +kernel)).trans rfl
    have v31 : zEq (η2 0 6) (η 0 6) := (k2.1.2.2.2.1 0 6 (by decide +kernel)).trans v30
    have f0_6 : η2 0 6 = η 0 6 := v31
    have f0_8 : η2 0 8 = η 0 8 := v2
    have wbE : wB wl_le zTr η2 := wb2
    
    have I0 : H_l 0 0 0 η := hig.1
    have I1 : H_l 0 0 0 η1 := k1.2.1
    have I2 : H_l 0 0 0 η2 := k2.2.1
    exact ⟨⟨⟨⟨wbE, ⟨⟨show (0 : Int) ≤ x5 by omega, show x5 ≤ 14 by omega⟩, trivial⟩, fun f hf => nomatch hf⟩, fmE⟩, ⟨I2, show η2 0 45 = 0 by apply Int.le_antisymm <;> omega, show 1 ≤ η2 0 19 by omega, show η2 0 7 = η0 0 7 by apply Int.le_antisymm <;> omega, show η2 0 6 = η0 0 6 by apply Int.le_antisymm <;> omega, show η2 0 8 = η0 0 8 by apply Int.le_antisymm <;> omega, Or.inr ⟨show 3 ≤ x5 by omega, show ¬ η2 0 8 = 0 by omega⟩⟩⟩, show (8 : Nat) < 9 by decide⟩
  · have fig : yq_sgn η0 = yq_sgB (yq_sk η) η := fig
    show yq_sgn η0 = yq_sgB x5 η2
    obtain ⟨a1, b1⟩ : x1 = (yq_isK 10 η) ∧ η1 = η := y1
    clear k1 h1
    obtain ⟨a2, b2⟩ : x2 = (yq_isK 11 η1) ∧ η2 = η1 := y2
    clear k2 h2
    have e3 : x3 = η2 0 8 := e3
    clear r3
    have e4 : x4 = η2 0 9 := e4
    clear r4
    subst a1; subst b1
    subst a2; subst b2
    subst e3
    subst e4
    subst e5
    refine fig.trans (congrArg (fun k => yq_sgB k _) ?_)
    unfold yq_sk
    (repeat' split) <;> first | (exfalso; omega) | exact ⟨rfl, rfl⟩ | rfl
set_option maxHeartbeats 8000000 in
theorem zle_signs_o20 {ro : Nat → List Int32} (xs : List Int) (η0 : zE) (hp : sP wl_le zTr zPle_signs xs η0) (hpp : pPle_signs xs η0) (x1 : Int) (η : zE) (hI : zsI wl_le zTr zVle_signs zMle_signs η0 1 [x1] η) (hig : iCle_signs xs η0 1 [x1] η) : (¬ x1 = 0) → ((gC2 wl_le [(nat_lit 0, zPle_isSign, zOle_isSign, zMle_isSign), (nat_lit 1, zPle_wrong, zOle_wrong, zMle_wrong), (nat_lit 2, zPle_token, zOle_token, zMle_token), (nat_lit 3, zPle_isKey, zOle_isKey, zMle_isKey), (nat_lit 4, zPle_isCounted, zOle_isCounted, zMle_isCounted), (nat_lit 5, zPle_waitsFor, zOle_waitsFor, zMle_waitsFor), (nat_lit 6, zPle_rank, zOle_rank, zMle_rank), (nat_lit 7, zPle_bind, zOle_bind, zMle_bind)] pCle_signs qCle_signs) 6).1 [x1] η := by
  have fig := hig.2
  have hig := hig.1
  have hw : η 0 45 = 0 := hig.2.1
  have hr1 : 1 ≤ η 0 19 := hig.2.2.1
  have hs1 : η 0 7 = η0 0 7 := hig.2.2.2.1
  have hs2 : η 0 6 = η0 0 6 := hig.2.2.2.2.1
  have hs3 : η 0 8 = η0 0 8 := hig.2.2.2.2.2.1
  have hk : x1 = 0 ∨ (3 ≤ x1 ∧ ¬ η 0 8 = 0) := hig.2.2.2.2.2.2
  have kk : η 0 8 = 5 → 0 ≤ η 0 9 ∧ η 0 9 ≤ 5 := hig.1.1.1.2.1.2
  have bd43 : (0 : Int) ≤ η 0 43 ∧ η 0 43 ≤ 8 := wf_ok (a := 43) (b := 43) (z := (0, 8)) hI.1.1 (by decide +kernel) (Nat.le_refl _) (Nat.le_refl _)
  have bd44 : (0 : Int) ≤ η 0 44 ∧ η 0 44 ≤ 64 := wf_ok (a := 44) (b := 44) (z := (0, 64)) hI.1.1 (by decide +kernel) (Nat.le_refl _) (Nat.le_refl _)
  have bd19 : (0 : Int) ≤ η 0 19 ∧ η 0 19 ≤ 64 := wf_ok (a := 19) (b := 19) (z := (0, 64)) hI.1.1 (by decide +kernel) (Nat.le_refl _) (Nat.le_refl _)
  obtain ⟨u1, u2, u3, u4⟩ := hig.1.2
  have cn := cz_n (η := η) (η 0 41).toNat
  intro c1
  have bx1 : (0 : Int) ≤ x1 ∧ x1 ≤ 14 := hI.1.2.1.1
  have fmE : zFm zMle_signs η0 η := hI.2
  have fr22_0 : ∀ j, η 22 j = η 22 j := fun _ => rfl
  have fr22 : ∀ j, η 22 j = η 22 j := fun _ => rfl
  have f0_41 : η 0 41 = η 0 41 := rfl
  have w0_0_43 : (0 : Int) ≤ η 0 43 ∧ η 0 43 ≤ 8 := wf_ok (a := 43) (b := 43) (z := (0, 8)) hI.1.1 (by decide +kernel) (Nat.le_refl _) (Nat.le_refl _)
  have f0_43 : η 0 43 = η 0 43 := rfl
  have f0_42 : η 0 42 = η 0 42 := rfl
  have f0_45 : η 0 45 = η 0 45 := rfl
  have w0_0_19 : (0 : Int) ≤ η 0 19 ∧ η 0 19 ≤ 64 := wf_ok (a := 19) (b := 19) (z := (0, 64)) hI.1.1 (by decide +kernel) (Nat.le_refl _) (Nat.le_refl _)
  have f0_19 : η 0 19 = η 0 19 := rfl
  have w0_0_44 : (0 : Int) ≤ η 0 44 ∧ η 0 44 ≤ 64 := wf_ok (a := 44) (b := 44) (z := (0, 64)) hI.1.1 (by decide +kernel) (Nat.le_refl _) (Nat.le_refl _)
  have f0_44 : η 0 44 = η 0 44 := rfl
  have w0_0_7 : (0 : Int) ≤ η 0 7 ∧ η 0 7 ≤ 700 := wf_ok (a := 7) (b := 7) (z := (0, 700)) hI.1.1 (by decide +kernel) (Nat.le_refl _) (Nat.le_refl _)
  have f0_7 : η 0 7 = η 0 7 := rfl
  have w0_0_6 : (0 : Int) ≤ η 0 6 ∧ η 0 6 ≤ 700 := wf_ok (a := 6) (b := 6) (z := (0, 700)) hI.1.1 (by decide +kernel) (Nat.le_refl _) (Nat.le_refl _)
  have f0_6 : η 0 6 = η 0 6 := rfl
  have w0_0_8 : (0 : Int) ≤ η 0 8 ∧ η 0 8 ≤ 6 := wf_ok (a := 8) (b := 8) (z := (0, 6)) hI.1.1 (by decide +kernel) (Nat.le_refl _) (Nat.le_refl _)
  have f0_8 : η 0 8 = η 0 8 := rfl
  have wbE : wB wl_le zTr η := hI.1.1
  
  have I0 : H_l 0 0 0 η := hig.1
  exact I0
set_option maxHeartbeats 8000000 in
theorem zle_signs_o21 {ro : Nat → List Int32} (xs : List Int) (η0 : zE) (hp : sP wl_le zTr zPle_signs xs η0) (hpp : pPle_signs xs η0) (x1 : Int) (η : zE) (hI : zsI wl_le zTr zVle_signs zMle_signs η0 1 [x1] η) (hig : iCle_signs xs η0 1 [x1] η) : (¬ x1 = 0) → ∀ (x2 : Int) (η1 : zE), ((gC2 wl_le [(nat_lit 0, zPle_isSign, zOle_isSign, zMle_isSign), (nat_lit 1, zPle_wrong, zOle_wrong, zMle_wrong), (nat_lit 2, zPle_token, zOle_token, zMle_token), (nat_lit 3, zPle_isKey, zOle_isKey, zMle_isKey), (nat_lit 4, zPle_isCounted, zOle_isCounted, zMle_isCounted), (nat_lit 5, zPle_waitsFor, zOle_waitsFor, zMle_waitsFor), (nat_lit 6, zPle_rank, zOle_rank, zMle_rank), (nat_lit 7, zPle_bind, zOle_bind, zMle_bind)] pCle_signs qCle_signs) 6).2 [x1] η x2 η1 → (¬ x2 = 4) → ((gC2 wl_le [(nat_lit 0, zPle_isSign, zOle_isSign, zMle_isSign), (nat_lit 1, zPle_wrong, zOle_wrong, zMle_wrong), (nat_lit 2, zPle_token, zOle_token, zMle_token), (nat_lit 3, zPle_isKey, zOle_isKey, zMle_isKey), (nat_lit 4, zPle_isCounted, zOle_isCounted, zMle_isCounted), (nat_lit 5, zPle_waitsFor, zOle_waitsFor, zMle_waitsFor), (nat_lit 6, zPle_rank, zOle_rank, zMle_rank), (nat_lit 7, zPle_bind, zOle_bind, zMle_bind)] pCle_signs qCle_signs) 6).1 [x1] η1 := by
  have fig := hig.2
  have hig := hig.1
  have hw : η 0 45 = 0 := hig.2.1
  have hr1 : 1 ≤ η 0 19 := hig.2.2.1
  have hs1 : η 0 7 = η0 0 7 := hig.2.2.2.1
  have hs2 : η 0 6 = η0 0 6 := hig.2.2.2.2.1
  have hs3 : η 0 8 = η0 0 8 := hig.2.2.2.2.2.1
  have hk : x1 = 0 ∨ (3 ≤ x1 ∧ ¬ η 0 8 = 0) := hig.2.2.2.2.2.2
  have kk : η 0 8 = 5 → 0 ≤ η 0 9 ∧ η 0 9 ≤ 5 := hig.1.1.1.2.1.2
  have bd43 : (0 : Int) ≤ η 0 43 ∧ η 0 43 ≤ 8 := wf_ok (a := 43) (b := 43) (z := (0, 8)) hI.1.1 (by decide +kernel) (Nat.le_refl _) (Nat.le_refl _)
  have bd44 : (0 : Int) ≤ η 0 44 ∧ η 0 44 ≤ 64 := wf_ok (a := 44) (b := 44) (z := (0, 64)) hI.1.1 (by decide +kernel) (Nat.le_refl _) (Nat.le_refl _)
  have bd19 : (0 : Int) ≤ η 0 19 ∧ η 0 19 ≤ 64 := wf_ok (a := 19) (b := 19) (z := (0, 64)) hI.1.1 (by decide +kernel) (Nat.le_refl _) (Nat.le_refl _)
  obtain ⟨u1, u2, u3, u4⟩ := hig.1.2
  have cn := cz_n (η := η) (η 0 41).toNat
  intro c1 x2 η1 h2 c2
  have y2 : fQle_rank [x1] η x2 η1 := h2.2.2
  have k2 : sQ wl_le zTr zOle_rank zMle_rank [x1] η x2 η1 ∧ oQle_rank [x1] η x2 η1 := ⟨h2.1, h2.2.1⟩
  have bx1 : (0 : Int) ≤ x1 ∧ x1 ≤ 14 := hI.1.2.1.1
  have w0_0_8 : (0 : Int) ≤ η 0 8 ∧ η 0 8 ≤ 6 := wf_ok (a := 8) (b := 8) (z := (0, 6)) hI.1.1 (by decide +kernel) (Nat.le_refl _) (Nat.le_refl _)
  have c0_0_8 : η 0 8 = η 0 8 := rfl
  have wb1 : wB wl_le zTr η1 := k2.1.1
  have bx2 : (0 : Int) ≤ x2 ∧ x2 ≤ 6 := k2.1.2.1
  have fm1 : zFm zMle_signs η0 η1 := zFm_tr2 hI.2 k2.1.2.2.2.1 (by decide +kernel)
  have fmE : zFm zMle_signs η0 η1 := fm1
  have fr22_0 : ∀ j, η 22 j = η 22 j := fun _ => rfl
  have v1 : ∀ j, η1 22 j = η 22 j := fun j => k2.1.2.2.2.1 22 _ (zinr_not (by decide +kernel))
  have fr22_1 : ∀ j, η1 22 j = η 22 j := v1
  have fr22 : ∀ j, η1 22 j = η 22 j := v1
  have v3 : zEq (η1 0 41) (η 0 41) := (k2.1.2.2.2.1 0 41 (by decide +kernel)).trans rfl
  have f0_41 : η1 0 41 = η 0 41 := v3
  have w0_0_43 : (0 : Int) ≤ η 0 43 ∧ η 0 43 ≤ 8 := wf_ok (a := 43) (b := 43) (z := (0, 8)) hI.1.1 (by decide +kernel) (Nat.le_refl _) (Nat.le_refl _)
  have v5 : zEq (η1 0 43) (η 0 43) := (k2.1.2.2.2.1 0 43 (by decide +kernel)).trans rfl
  have f0_43 : η1 0 43 = η 0 43 := v5
  have v7 : zEq (η1 0 42) (η 0 42) := (k2.1.2.2.2.1 0 42 (by decide +kernel)).trans rfl
  have f0_42 : η1 0 42 = η 0 42 := v7
  have v9 : zEq (η1 0 45) (η 0 45) := (k2.1.2.2.2.1 0 45 (by decide +kernel)).trans rfl
  have f0_45 : η1 0 45 = η 0 45 := v9
  have w0_0_19 : (0 : Int) ≤ η 0 19 ∧ η 0 19 ≤ 64 := wf_ok (a := 19) (b := 19) (z := (0, 64)) hI.1.1 (by decide +kernel) (Nat.le_refl _) (Nat.le_refl _)
  have v11 : zEq (η1 0 19) (η 0 19) := (k2.1.2.2.2.1 0 19 (by decide +kernel)).trans rfl
  have f0_19 : η1 0 19 = η 0 19 := v11
  have w0_0_44 : (0 : Int) ≤ η 0 44 ∧ η 0 44 ≤ 64 := wf_ok (a := 44) (b := 44) (z := (0, 64)) hI.1.1 (by decide +kernel) (Nat.le_refl _) (Nat.le_refl _)
  have v13 : zEq (η1 0 44) (η 0 44) := (k2.1.2.2.2.1 0 44 (by decide +kernel)).trans rfl
  have f0_44 : η1 0 44 = η 0 44 := v13
  have w0_0_7 : (0 : Int) ≤ η 0 7 ∧ η 0 7 ≤ 700 := wf_ok (a := 7) (b := 7) (z := (0, 700)) hI.1.1 (by decide +kernel) (Nat.le_refl _) (Nat.le_refl _)
  have v15 : zEq (η1 0 7) (η 0 7) := (k2.1.2.2.2.1 0 7 (by decide +kernel)).trans rfl
  have f0_7 : η1 0 7 = η 0 7 := v15
  have w0_0_6 : (0 : Int) ≤ η 0 6 ∧ η 0 6 ≤ 700 := wf_ok (a := 6) (b := 6) (z := (0, 700)) hI.1.1 (by decide +kernel) (Nat.le_refl _) (Nat.le_refl _)
  have v17 : zEq (η1 0 6) (η 0 6) := (k2.1.2.2.2.1 0 6 (by decide +kernel)).trans rfl
  have f0_6 : η1 0 6 = η 0 6 := v17
  have v18 : zEq (η1 0 8) (η 0 8) := (k2.1.2.2.2.1 0 8 (by decide +kernel)).trans rfl
  have f0_8 : η1 0 8 = η 0 8 := v18
  have wbE : wB wl_le zTr η1 := wb1
  
  have I0 : H_l 0 0 0 η := hig.1
  have I1 : H_l 0 0 0 η1 := k2.2.1
  have qr2 : (1 ≤ x2 → 2 ≤ x1) ∧ (2 ≤ x1 → 1 ≤ x2) := k2.2.2
  exact I1
set_option maxHeartbeats 8000000 in
theorem zle_signs_o22 {ro : Nat → List Int32} (xs : List Int) (η0 : zE) (hp : sP wl_le zTr zPle_signs xs η0) (hpp : pPle_signs xs η0) (x1 : Int) (η : zE) (hI : zsI wl_le zTr zVle_signs zMle_signs η0 1 [x1] η) (hig : iCle_signs xs η0 1 [x1] η) : (¬ x1 = 0) → ∀ (x2 : Int) (η1 : zE), ((gC2 wl_le [(nat_lit 0, zPle_isSign, zOle_isSign, zMle_isSign), (nat_lit 1, zPle_wrong, zOle_wrong, zMle_wrong), (nat_lit 2, zPle_token, zOle_token, zMle_token), (nat_lit 3, zPle_isKey, zOle_isKey, zMle_isKey), (nat_lit 4, zPle_isCounted, zOle_isCounted, zMle_isCounted), (nat_lit 5, zPle_waitsFor, zOle_waitsFor, zMle_waitsFor), (nat_lit 6, zPle_rank, zOle_rank, zMle_rank), (nat_lit 7, zPle_bind, zOle_bind, zMle_bind)] pCle_signs qCle_signs) 6).2 [x1] η x2 η1 → (x2 = 4) → ((gC2 wl_le [(nat_lit 0, zPle_isSign, zOle_isSign, zMle_isSign), (nat_lit 1, zPle_wrong, zOle_wrong, zMle_wrong), (nat_lit 2, zPle_token, zOle_token, zMle_token), (nat_lit 3, zPle_isKey, zOle_isKey, zMle_isKey), (nat_lit 4, zPle_isCounted, zOle_isCounted, zMle_isCounted), (nat_lit 5, zPle_waitsFor, zOle_waitsFor, zMle_waitsFor), (nat_lit 6, zPle_rank, zOle_rank, zMle_rank), (nat_lit 7, zPle_bind, zOle_bind, zMle_bind)] pCle_signs qCle_signs) 7).1 [5] η1 := by
  have fig := hig.2
  have hig := hig.1
  have hw : η 0 45 = 0 := hig.2.1
  have hr1 : 1 ≤ η 0 19 := hig.2.2.1
  have hs1 : η 0 7 = η0 0 7 := hig.2.2.2.1
  have hs2 : η 0 6 = η0 0 6 := hig.2.2.2.2.1
  have hs3 : η 0 8 = η0 0 8 := hig.2.2.2.2.2.1
  have hk : x1 = 0 ∨ (3 ≤ x1 ∧ ¬ η 0 8 = 0) := hig.2.2.2.2.2.2
  have kk : η 0 8 = 5 → 0 ≤ η 0 9 ∧ η 0 9 ≤ 5 := hig.1.1.1.2.1.2
  have bd43 : (0 : Int) ≤ η 0 43 ∧ η 0 43 ≤ 8 := wf_ok (a := 43) (b := 43) (z := (0, 8)) hI.1.1 (by decide +kernel) (Nat.le_refl _) (Nat.le_refl _)
  have bd44 : (0 : Int) ≤ η 0 44 ∧ η 0 44 ≤ 64 := wf_ok (a := 44) (b := 44) (z := (0, 64)) hI.1.1 (by decide +kernel) (Nat.le_refl _) (Nat.le_refl _)
  have bd19 : (0 : Int) ≤ η 0 19 ∧ η 0 19 ≤ 64 := wf_ok (a := 19) (b := 19) (z := (0, 64)) hI.1.1 (by decide +kernel) (Nat.le_refl _) (Nat.le_refl _)
  obtain ⟨u1, u2, u3, u4⟩ := hig.1.2
  have cn := cz_n (η := η) (η 0 41).toNat
  intro c1 x2 η1 h2 c2
  have y2 : fQle_rank [x1] η x2 η1 := h2.2.2
  have k2 : sQ wl_le zTr zOle_rank zMle_rank [x1] η x2 η1 ∧ oQle_rank [x1] η x2 η1 := ⟨h2.1, h2.2.1⟩
  have bx1 : (0 : Int) ≤ x1 ∧ x1 ≤ 14 := hI.1.2.1.1
  have w0_0_8 : (0 : Int) ≤ η 0 8 ∧ η 0 8 ≤ 6 := wf_ok (a := 8) (b := 8) (z := (0, 6)) hI.1.1 (by decide +kernel) (Nat.le_refl _) (Nat.le_refl _)
  have c0_0_8 : η 0 8 = η 0 8 := rfl
  have wb1 : wB wl_le zTr η1 := k2.1.1
  have bx2 : (0 : Int) ≤ x2 ∧ x2 ≤ 6 := k2.1.2.1
  have fm1 : zFm zMle_signs η0 η1 := zFm_tr2 hI.2 k2.1.2.2.2.1 (by decide +kernel)
  have fmE : zFm zMle_signs η0 η1 := fm1
  have fr22_0 : ∀ j, η 22 j = η 22 j := fun _ => rfl
  have v1 : ∀ j, η1 22 j = η 22 j := fun j => k2.1.2.2.2.1 22 _ (zinr_not (by decide +kernel))
  have fr22_1 : ∀ j, η1 22 j = η 22 j := v1
  have fr22 : ∀ j, η1 22 j = η 22 j := v1
  have v3 : zEq (η1 0 41) (η 0 41) := (k2.1.2.2.2.1 0 41 (by decide +kernel)).trans rfl
  have f0_41 : η1 0 41 = η 0 41 := v3
  have w0_0_43 : (0 : Int) ≤ η 0 43 ∧ η 0 43 ≤ 8 := wf_ok (a := 43) (b := 43) (z := (0, 8)) hI.1.1 (by decide +kernel) (Nat.le_refl _) (Nat.le_refl _)
  have v5 : zEq (η1 0 43) (η 0 43) := (k2.1.2.2.2.1 0 43 (by decide +kernel)).trans rfl
  have f0_43 : η1 0 43 = η 0 43 := v5
  have v7 : zEq (η1 0 42) (η 0 42) := (k2.1.2.2.2.1 0 42 (by decide +kernel)).trans rfl
  have f0_42 : η1 0 42 = η 0 42 := v7
  have v9 : zEq (η1 0 45) (η 0 45) := (k2.1.2.2.2.1 0 45 (by decide +kernel)).trans rfl
  have f0_45 : η1 0 45 = η 0 45 := v9
  have w0_0_19 : (0 : Int) ≤ η 0 19 ∧ η 0 19 ≤ 64 := wf_ok (a := 19) (b := 19) (z := (0, 64)) hI.1.1 (by decide +kernel) (Nat.le_refl _) (Nat.le_refl _)
  have v11 : zEq (η1 0 19) (η 0 19) := (k2.1.2.2.2.1 0 19 (by decide +kernel)).trans rfl
  have f0_19 : η1 0 19 = η 0 19 := v11
  have w0_0_44 : (0 : Int) ≤ η 0 44 ∧ η 0 44 ≤ 64 := wf_ok (a := 44) (b := 44) (z := (0, 64)) hI.1.1 (by decide +kernel) (Nat.le_refl _) (Nat.le_refl _)
  have v13 : zEq (η1 0 44) (η 0 44) := (k2.1.2.2.2.1 0 44 (by decide +kernel)).trans rfl
  have f0_44 : η1 0 44 = η 0 44 := v13
  have w0_0_7 : (0 : Int) ≤ η 0 7 ∧ η 0 7 ≤ 700 := wf_ok (a := 7) (b := 7) (z := (0, 700)) hI.1.1 (by decide +kernel) (Nat.le_refl _) (Nat.le_refl _)
  have v15 : zEq (η1 0 7) (η 0 7) := (k2.1.2.2.2.1 0 7 (by decide +kernel)).trans rfl
  have f0_7 : η1 0 7 = η 0 7 := v15
  have w0_0_6 : (0 : Int) ≤ η 0 6 ∧ η 0 6 ≤ 700 := wf_ok (a := 6) (b := 6) (z := (0, 700)) hI.1.1 (by decide +kernel) (Nat.le_refl _) (Nat.le_refl _)
  have v17 : zEq (η1 0 6) (η 0 6) := (k2.1.2.2.2.1 0 6 (by decide +kernel)).trans rfl
  have f0_6 : η1 0 6 = η 0 6 := v17
  have v18 : zEq (η1 0 8) (η 0 8) := (k2.1.2.2.2.1 0 8 (by decide +kernel)).trans rfl
  have f0_8 : η1 0 8 = η 0 8 := v18
  have wbE : wB wl_le zTr η1 := wb1
  
  have I0 : H_l 0 0 0 η := hig.1
  have I1 : H_l 0 0 0 η1 := k2.2.1
  have qr2 : (1 ≤ x2 → 2 ≤ x1) ∧ (2 ≤ x1 → 1 ≤ x2) := k2.2.2
  exact ⟨I1, show η1 0 45 = 0 by apply Int.le_antisymm <;> omega⟩
set_option maxHeartbeats 8000000 in
theorem zle_signs_o23 {ro : Nat → List Int32} (xs : List Int) (η0 : zE) (hp : sP wl_le zTr zPle_signs xs η0) (hpp : pPle_signs xs η0) (x1 : Int) (η : zE) (hI : zsI wl_le zTr zVle_signs zMle_signs η0 1 [x1] η) (hig : iCle_signs xs η0 1 [x1] η) : (x1 = 0) → ((gC2 wl_le [(nat_lit 0, zPle_isSign, zOle_isSign, zMle_isSign), (nat_lit 1, zPle_wrong, zOle_wrong, zMle_wrong), (nat_lit 2, zPle_token, zOle_token, zMle_token), (nat_lit 3, zPle_isKey, zOle_isKey, zMle_isKey), (nat_lit 4, zPle_isCounted, zOle_isCounted, zMle_isCounted), (nat_lit 5, zPle_waitsFor, zOle_waitsFor, zMle_waitsFor), (nat_lit 6, zPle_rank, zOle_rank, zMle_rank), (nat_lit 7, zPle_bind, zOle_bind, zMle_bind)] pCle_signs qCle_signs) 1).1 [1] η := by
  have fig := hig.2
  have hig := hig.1
  have hw : η 0 45 = 0 := hig.2.1
  have hr1 : 1 ≤ η 0 19 := hig.2.2.1
  have hs1 : η 0 7 = η0 0 7 := hig.2.2.2.1
  have hs2 : η 0 6 = η0 0 6 := hig.2.2.2.2.1
  have hs3 : η 0 8 = η0 0 8 := hig.2.2.2.2.2.1
  have hk : x1 = 0 ∨ (3 ≤ x1 ∧ ¬ η 0 8 = 0) := hig.2.2.2.2.2.2
  have kk : η 0 8 = 5 → 0 ≤ η 0 9 ∧ η 0 9 ≤ 5 := hig.1.1.1.2.1.2
  have bd43 : (0 : Int) ≤ η 0 43 ∧ η 0 43 ≤ 8 := wf_ok (a := 43) (b := 43) (z := (0, 8)) hI.1.1 (by decide +kernel) (Nat.le_refl _) (Nat.le_refl _)
  have bd44 : (0 : Int) ≤ η 0 44 ∧ η 0 44 ≤ 64 := wf_ok (a := 44) (b := 44) (z := (0, 64)) hI.1.1 (by decide +kernel) (Nat.le_refl _) (Nat.le_refl _)
  have bd19 : (0 : Int) ≤ η 0 19 ∧ η 0 19 ≤ 64 := wf_ok (a := 19) (b := 19) (z := (0, 64)) hI.1.1 (by decide +kernel) (Nat.le_refl _) (Nat.le_refl _)
  obtain ⟨u1, u2, u3, u4⟩ := hig.1.2
  have cn := cz_n (η := η) (η 0 41).toNat
  intro c1
  have bx1 : (0 : Int) ≤ x1 ∧ x1 ≤ 14 := hI.1.2.1.1
  have fmE : zFm zMle_signs η0 η := hI.2
  have fr22_0 : ∀ j, η 22 j = η 22 j := fun _ => rfl
  have fr22 : ∀ j, η 22 j = η 22 j := fun _ => rfl
  have f0_41 : η 0 41 = η 0 41 := rfl
  have w0_0_43 : (0 : Int) ≤ η 0 43 ∧ η 0 43 ≤ 8 := wf_ok (a := 43) (b := 43) (z := (0, 8)) hI.1.1 (by decide +kernel) (Nat.le_refl _) (Nat.le_refl _)
  have f0_43 : η 0 43 = η 0 43 := rfl
  have f0_42 : η 0 42 = η 0 42 := rfl
  have f0_45 : η 0 45 = η 0 45 := rfl
  have w0_0_19 : (0 : Int) ≤ η 0 19 ∧ η 0 19 ≤ 64 := wf_ok (a := 19) (b := 19) (z := (0, 64)) hI.1.1 (by decide +kernel) (Nat.le_refl _) (Nat.le_refl _)
  have f0_19 : η 0 19 = η 0 19 := rfl
  have w0_0_44 : (0 : Int) ≤ η 0 44 ∧ η 0 44 ≤ 64 := wf_ok (a := 44) (b := 44) (z := (0, 64)) hI.1.1 (by decide +kernel) (Nat.le_refl _) (Nat.le_refl _)
  have f0_44 : η 0 44 = η 0 44 := rfl
  have w0_0_7 : (0 : Int) ≤ η 0 7 ∧ η 0 7 ≤ 700 := wf_ok (a := 7) (b := 7) (z := (0, 700)) hI.1.1 (by decide +kernel) (Nat.le_refl _) (Nat.le_refl _)
  have f0_7 : η 0 7 = η 0 7 := rfl
  have w0_0_6 : (0 : Int) ≤ η 0 6 ∧ η 0 6 ≤ 700 := wf_ok (a := 6) (b := 6) (z := (0, 700)) hI.1.1 (by decide +kernel) (Nat.le_refl _) (Nat.le_refl _)
  have f0_6 : η 0 6 = η 0 6 := rfl
  have w0_0_8 : (0 : Int) ≤ η 0 8 ∧ η 0 8 ≤ 6 := wf_ok (a := 8) (b := 8) (z := (0, 6)) hI.1.1 (by decide +kernel) (Nat.le_refl _) (Nat.le_refl _)
  have f0_8 : η 0 8 = η 0 8 := rfl
  have wbE : wB wl_le zTr η := hI.1.1
  
  have I0 : H_l 0 0 0 η := hig.1
  exact I0
