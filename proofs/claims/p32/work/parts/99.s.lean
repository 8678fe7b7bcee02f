/-! The runs joined. -/
def rn_rho (L : Nat) : List Int := [0, (L : Int)]
def rn_ro (L : Nat) (xs : Nat → Int32) : Nat → List Int32 := fun j => if j = 1 then (List.range L).map xs else if j = 2 then rk_l else []
theorem rn_ok0 {L : Nat} (hL : L ≤ 3072) : ab_ok (rn_rho L) rn_E0 := by
  refine ⟨(by decide : 0 < 2), rfl, fun q hq => ?_, (fun q hq => by cases hq), (fun q hq => by cases hq)⟩
  have h6 : (0 : Int) ≤ (L : Int) ∧ (L : Int) ≤ 3072 := by omega
  have hq : q ∈ [(1, (0 : Int), (3072 : Int))] := hq
  simp only [List.mem_cons, List.not_mem_nil, or_false] at hq
  subst hq
  exact ⟨(by decide : 1 < 2), h6.1, h6.2⟩
theorem rn_ro_len {L : Nat} {xs : Nat → Int32} : (rn_ro L xs 1).length = L := by
  show ((List.range L).map xs).length = L
  rw [List.length_map, List.length_range]
theorem rn_roR {L : Nat} (hL : L ≤ 3072) (xs : Nat → Int32) : ab_roR (rn_rho L) rn_R (rn_ro L xs 1) := by
  refine ⟨(by decide : 1 < 2), ?_, by rw [rn_ro_len]; omega, fun k a hk hl => by cases hk⟩
  rw [rn_ro_len]
  show (L : Int) = (L : Int) + 0
  omega
theorem rn_run {L : Nat} (hL : L ≤ 3072) (xs : Nat → Int32) : ∃ n h' c' s', sx pr_P pr_K pr_df (rn_ro L xs) (sm_X0 1 6) n 40 0 0 [(0, .retAddr 1)] [] [] 0 0 = some (some (.int 1), h', c', s') ∧ c' ≤ 601024 ∧ s' ≤ 7293034 := by
  have h := ax_ok (an := []) (ro := rn_ro L xs) pr_mtR rn_df _ [rn_Y] _ _ _ _ _ _ _ _ rn_m _ _ _ _ rn_first (rn_rho L) [(0, .retAddr 1)] [] [] [] (fun Y hY => by rw [List.mem_singleton] at hY; subst hY; exact ⟨(by decide : 2 ≤ 2), rn_cu rfl (by rw [rn_ro_len]; exact hL) (rn_rho L)⟩) ⟨rn_ok0 hL, rfl, ⟨rfl, (fun k q hk => by cases hk)⟩, rn_mR, ⟨⟨rfl, rfl⟩, trivial⟩, trivial, trivial, rn_roR hL xs⟩
  obtain ⟨n, v, h', c', s', h1, h2, h3, h4⟩ := h
  subst h2
  exact ⟨n, h', c', s', h1, h3, h4⟩
