def zPm_f_likely : zPq := ([((.negSucc (nat_lit 2147483647)), (.ofNat (nat_lit 2147483647))), ((.negSucc (nat_lit 2147483647)), (.ofNat (nat_lit 2147483647))), ((.negSucc (nat_lit 2147483647)), (.ofNat (nat_lit 2147483647)))], [])
def zOm_f_likely : zPo := (((.negSucc (nat_lit 9223372036854775807)), (.ofNat (nat_lit 9223372036854775807))), [], [])
def zMm_f_likely : List zCe := [(nat_lit 0, nat_lit 3), (nat_lit 0, nat_lit 50), (nat_lit 0, nat_lit 61), (nat_lit 0, nat_lit 62), (nat_lit 0, nat_lit 63), (nat_lit 0, nat_lit 64), (nat_lit 0, nat_lit 65), (nat_lit 0, nat_lit 66), (nat_lit 0, nat_lit 67), (nat_lit 0, nat_lit 68), (nat_lit 0, nat_lit 69), (nat_lit 0, nat_lit 70), (nat_lit 0, nat_lit 71), (nat_lit 0, nat_lit 72), (nat_lit 24, nat_lit 0), (nat_lit 25, nat_lit 0), (nat_lit 26, nat_lit 0), (nat_lit 27, nat_lit 0), (nat_lit 28, nat_lit 0), (nat_lit 29, nat_lit 0), (nat_lit 30, nat_lit 0), (nat_lit 31, nat_lit 0), (nat_lit 32, nat_lit 0), (nat_lit 33, nat_lit 0), (nat_lit 34, nat_lit 0), (nat_lit 35, nat_lit 0)]
theorem zm_f_likely {ro : Nat → List Int32} : zMet pr_P pr_K pr_df ro (sm_X0 1 6) 7 187 tm_m [(.inr (.inr (.inl (nat_lit 0)))), (.inl (nat_lit 1, (.ofNat (nat_lit 0)))), (.inl (nat_lit 2, (.ofNat (nat_lit 0)))), (.inl (nat_lit 3, (.ofNat (nat_lit 0))))] 3 [(nat_lit 0, nat_lit 0, nat_lit 1), (nat_lit 0, nat_lit 3, nat_lit 2), (nat_lit 0, nat_lit 20, nat_lit 3), (nat_lit 0, nat_lit 21, nat_lit 4), (nat_lit 0, nat_lit 22, nat_lit 5), (nat_lit 0, nat_lit 23, nat_lit 6), (nat_lit 0, nat_lit 24, nat_lit 7), (nat_lit 0, nat_lit 25, nat_lit 8), (nat_lit 0, nat_lit 26, nat_lit 9), (nat_lit 0, nat_lit 27, nat_lit 10), (nat_lit 0, nat_lit 28, nat_lit 11), (nat_lit 0, nat_lit 29, nat_lit 12), (nat_lit 0, nat_lit 30, nat_lit 13), (nat_lit 0, nat_lit 31, nat_lit 14), (nat_lit 0, nat_lit 32, nat_lit 15), (nat_lit 0, nat_lit 33, nat_lit 16), (nat_lit 0, nat_lit 34, nat_lit 17), (nat_lit 0, nat_lit 35, nat_lit 18), (nat_lit 0, nat_lit 36, nat_lit 19), (nat_lit 0, nat_lit 37, nat_lit 20), (nat_lit 0, nat_lit 38, nat_lit 21), (nat_lit 0, nat_lit 39, nat_lit 22), (nat_lit 0, nat_lit 40, nat_lit 23), (nat_lit 0, nat_lit 47, nat_lit 24), (nat_lit 0, nat_lit 48, nat_lit 25), (nat_lit 0, nat_lit 50, nat_lit 26), (nat_lit 0, nat_lit 51, nat_lit 27), (nat_lit 0, nat_lit 52, nat_lit 28), (nat_lit 0, nat_lit 53, nat_lit 29), (nat_lit 0, nat_lit 54, nat_lit 30), (nat_lit 0, nat_lit 55, nat_lit 31), (nat_lit 0, nat_lit 56, nat_lit 32), (nat_lit 0, nat_lit 57, nat_lit 33), (nat_lit 0, nat_lit 58, nat_lit 34), (nat_lit 0, nat_lit 59, nat_lit 35), (nat_lit 0, nat_lit 72, nat_lit 36), (nat_lit 0, nat_lit 73, nat_lit 37), (nat_lit 0, nat_lit 76, nat_lit 38), (nat_lit 0, nat_lit 77, nat_lit 39), (nat_lit 0, nat_lit 79, nat_lit 40), (nat_lit 0, nat_lit 81, nat_lit 41), (nat_lit 0, nat_lit 82, nat_lit 42)] [] (sP wl_m G_m zPm_f_likely) (fun xs η y η' => sQ wl_m G_m zOm_f_likely zMm_f_likely xs η y η') :=
  zmet_join (fun xs η hp => by
    obtain ⟨x0, r0, e0, q0, hb0⟩ := sB_cons hp.2.1
    have q0 : (-2147483648 : Int) ≤ x0 ∧ x0 ≤ 2147483647 := q0
    subst e0
    by_cases c0 : x0 ≤ -1
    · exact ⟨1, sP wl_m G_m zPm_f_likelyN, by decide, zm_f_likelyN, hp.1, show (-2147483648 ≤ x0 ∧ x0 ≤ -1) ∧ _ from ⟨⟨by omega, by omega⟩, hb0⟩, hp.2.2⟩
    by_cases c1 : x0 ≤ 0
    · exact ⟨7, sP wl_m G_m zPm_f_likely0, by decide, zm_f_likely0, hp.1, show (0 ≤ x0 ∧ x0 ≤ 0) ∧ _ from ⟨⟨by omega, by omega⟩, hb0⟩, hp.2.2⟩
    by_cases c2 : x0 ≤ 1
    · exact ⟨7, sP wl_m G_m zPm_f_likely1, by decide, zm_f_likely1, hp.1, show (1 ≤ x0 ∧ x0 ≤ 1) ∧ _ from ⟨⟨by omega, by omega⟩, hb0⟩, hp.2.2⟩
    by_cases c3 : x0 ≤ 2
    · exact ⟨7, sP wl_m G_m zPm_f_likely2, by decide, zm_f_likely2, hp.1, show (2 ≤ x0 ∧ x0 ≤ 2) ∧ _ from ⟨⟨by omega, by omega⟩, hb0⟩, hp.2.2⟩
    by_cases c4 : x0 ≤ 3
    · exact ⟨7, sP wl_m G_m zPm_f_likely3, by decide, zm_f_likely3, hp.1, show (3 ≤ x0 ∧ x0 ≤ 3) ∧ _ from ⟨⟨by omega, by omega⟩, hb0⟩, hp.2.2⟩
    by_cases c5 : x0 ≤ 4
    · exact ⟨7, sP wl_m G_m zPm_f_likely4, by decide, zm_f_likely4, hp.1, show (4 ≤ x0 ∧ x0 ≤ 4) ∧ _ from ⟨⟨by omega, by omega⟩, hb0⟩, hp.2.2⟩
    by_cases c6 : x0 ≤ 5
    · exact ⟨7, sP wl_m G_m zPm_f_likely5, by decide, zm_f_likely5, hp.1, show (5 ≤ x0 ∧ x0 ≤ 5) ∧ _ from ⟨⟨by omega, by omega⟩, hb0⟩, hp.2.2⟩
    by_cases c7 : x0 ≤ 6
    · exact ⟨7, sP wl_m G_m zPm_f_likely6, by decide, zm_f_likely6, hp.1, show (6 ≤ x0 ∧ x0 ≤ 6) ∧ _ from ⟨⟨by omega, by omega⟩, hb0⟩, hp.2.2⟩
    by_cases c8 : x0 ≤ 7
    · exact ⟨7, sP wl_m G_m zPm_f_likely7, by decide, zm_f_likely7, hp.1, show (7 ≤ x0 ∧ x0 ≤ 7) ∧ _ from ⟨⟨by omega, by omega⟩, hb0⟩, hp.2.2⟩
    exact ⟨1, sP wl_m G_m zPm_f_likelyP, by decide, zm_f_likelyP, hp.1, show (8 ≤ x0 ∧ x0 ≤ 2147483647) ∧ _ from ⟨⟨by omega, by omega⟩, hb0⟩, hp.2.2⟩)
