/-! Lines told once. -/
theorem yr_on0 {s m : zE} (h : yr_Q s m) (x : yr_x s m) : yr_out s (yq_onl 0 4 0 9 m) (yp_onc 0 s) := by
  obtain ⟨xg, xc, xu, xo, xl⟩ := x
  obtain ⟨o1, o2, o3, o4, o5, o6, o7⟩ := id xo
  have q0 := o1 0 (by decide)
  unfold yq_onl yp_onc
  rw [show Int.toNat (0 : Int) = 0 from rfl]
  by_cases q : m 3 0 = 0
  case neg =>
    rw [if_pos q, if_pos (Or.inr (Or.inr (show ¬ s 61 0 = 0 by rw [q0]; exact q)))]
    exact yr_no h (by decide)
  rw [if_neg (show ¬ ¬ m 3 0 = 0 from fun w => w q), if_neg (show ¬ ((0 : Int) < 0 ∨ (2 : Int) < 0 ∨ ¬ s 61 0 = 0) from fun w => by
    rcases w with w | w | w
    · omega
    · omega
    · exact w (q0.trans q))]
  have Z := yr_us (r := 61) (j := 0) (x := 1) (yr_um (r := 3) (j := 0) (x := 1) h (by decide) (Or.inl (by decide))) (by decide) (by decide)
  have A := yr_adv Z
  have lt0 := yr_lt Z
  show yr_out s (yq_nt 0 9 (yq_tok (zup m 3 0 1)) _) (yp_rw 0 9 32 4 (yp_adv (zup s 61 0 1)))
  have T1 : ∀ q i, ¬ q = 60 → yp_adv (zup s 61 0 1) q i = if q = 61 ∧ i = 0 then 1 else s q i := fun q i hq => by
    rw [adv_fr hq]
    rfl
  have U1 : ∀ q i, ¬ q = 0 ∨ i < 7 ∨ 11 < i → yq_tok (zup m 3 0 1) q i = if q = 3 ∧ i = 0 then 1 else m q i := fun q i hq => by
    rw [tok_fx (by omega)]
    rfl
  generalize yp_adv (zup s 61 0 1) = T at *
  generalize yq_tok (zup m 3 0 1) = U at *
  rcases yr_st (lo := 0) (hi := 9) (r := 32) (j := 4) A (by decide) (by decide) (by decide) with B | ⟨v, B1, Ba, Bb, B2, B3, B4, B5, B6, B7⟩
  · rw [yq_nt0 B.1]
    exact Or.inl ⟨rfl, B.2⟩
  rw [yq_nt1 B1]
  have lt0 : s 60 5 < T 60 5 := lt0 B7
  clear B1
  generalize yp_rw 0 9 32 4 T = X at *
  generalize yq_ns 0 9 U = M at *
  rw [B4, if_pos rfl]
  have SX : ∀ q i, ¬ q = 60 → X q i = if q = 32 ∧ i = 4 then v else if q = 61 ∧ i = 0 then 1 else s q i := fun q i hq => by rw [B2 q i hq, T1 q i hq]
  have MX : ∀ q i, ¬ q = 0 ∨ i < 7 ∨ 11 < i → zup M 4 4 v q i = if q = 4 ∧ i = 4 then v else if q = 3 ∧ i = 0 then 1 else m q i := fun q i hq => by
    unfold zup
    rw [B3 q i hq, U1 q i hq]
  refine Or.inr ⟨rfl, ?_, ⟨?_, ?_, ?_, ?_, ?_⟩, ?_⟩
  · exact yr_um B5 (by decide) (Or.inl (by decide))
  · exact yg_fr xg (fun r j hr => by rw [SX r j (by omega), if_neg (by omega), if_neg (by omega)]) (fun r j hr => by dsimp only; rw [MX r j (by omega), if_neg (by omega), if_neg (by omega)])
  · exact yc_fr xc (fun r j hr => by rw [SX r j (by omega), if_neg (by omega), if_neg (by omega)]) (fun r j hr => by dsimp only; rw [MX r j (by omega), if_neg (by omega), if_neg (by omega)])
  · exact yu_fr xu (fun r j hr => by rw [SX r j (by omega), if_neg (by omega), if_neg (by omega)]) (fun r j hr => by dsimp only; rw [MX r j (by omega), if_neg (by omega), if_neg (by omega)])
  · unfold yr_o
    dsimp only
    rw [SX 32 4 (by decide), SX 32 5 (by decide), SX 32 6 (by decide), SX 32 7 (by decide), MX 4 4 (by omega), MX 4 5 (by omega), MX 4 6 (by omega), MX 4 7 (by omega)]
    refine ⟨fun w hw => ?_, ?_⟩
    · rw [SX 61 w (by decide), MX 3 w (by omega)]
      by_cases e : w = 0
      · simp [e]
      · simp [e]
        exact o1 w hw
    · simp [o2, o3, o4, o5]
      omega
  · exact yl_fr xl (fun r j hr => by rw [SX r j (by omega), if_neg (by omega), if_neg (by omega)]) (fun r j hr => by dsimp only; rw [MX r j (by omega), if_neg (by omega), if_neg (by omega)])
  · show s 60 5 < X 60 5
    omega
theorem yr_on2 {s m : zE} (h : yr_Q s m) (x : yr_x s m) : yr_out s (yq_onl 2 6 0 99999 m) (yp_onc 2 s) := by
  obtain ⟨xg, xc, xu, xo, xl⟩ := x
  obtain ⟨o1, o2, o3, o4, o5, o6, o7⟩ := id xo
  have q0 := o1 2 (by decide)
  unfold yq_onl yp_onc
  rw [show Int.toNat (2 : Int) = 2 from rfl]
  by_cases q : m 3 2 = 0
  case neg =>
    rw [if_pos q, if_pos (Or.inr (Or.inr (show ¬ s 61 2 = 0 by rw [q0]; exact q)))]
    exact yr_no h (by decide)
  rw [if_neg (show ¬ ¬ m 3 2 = 0 from fun w => w q), if_neg (show ¬ ((2 : Int) < 0 ∨ (2 : Int) < 2 ∨ ¬ s 61 2 = 0) from fun w => by
    rcases w with w | w | w
    · omega
    · omega
    · exact w (q0.trans q))]
  have Z := yr_us (r := 61) (j := 2) (x := 1) (yr_um (r := 3) (j := 2) (x := 1) h (by decide) (Or.inl (by decide))) (by decide) (by decide)
  have A := yr_adv Z
  have lt0 := yr_lt Z
  show yr_out s (yq_nt 0 99999 (yq_tok (zup m 3 2 1)) _) (yp_rw 0 99999 32 7 (yp_adv (zup s 61 2 1)))
  have T1 : ∀ q i, ¬ q = 60 → yp_adv (zup s 61 2 1) q i = if q = 61 ∧ i = 2 then 1 else s q i := fun q i hq => by
    rw [adv_fr hq]
    rfl
  have U1 : ∀ q i, ¬ q = 0 ∨ i < 7 ∨ 11 < i → yq_tok (zup m 3 2 1) q i = if q = 3 ∧ i = 2 then 1 else m q i := fun q i hq => by
    rw [tok_fx (by omega)]
    rfl
  generalize yp_adv (zup s 61 2 1) = T at *
  generalize yq_tok (zup m 3 2 1) = U at *
  rcases yr_st (lo := 0) (hi := 99999) (r := 32) (j := 7) A (by decide) (by decide) (by decide) with B | ⟨v, B1, Ba, Bb, B2, B3, B4, B5, B6, B7⟩
  · rw [yq_nt0 B.1]
    exact Or.inl ⟨rfl, B.2⟩
  rw [yq_nt1 B1]
  have lt0 : s 60 5 < T 60 5 := lt0 B7
  clear B1
  generalize yp_rw 0 99999 32 7 T = X at *
  generalize yq_ns 0 99999 U = M at *
  rw [B4, if_pos rfl]
  have SX : ∀ q i, ¬ q = 60 → X q i = if q = 32 ∧ i = 7 then v else if q = 61 ∧ i = 2 then 1 else s q i := fun q i hq => by rw [B2 q i hq, T1 q i hq]
  have MX : ∀ q i, ¬ q = 0 ∨ i < 7 ∨ 11 < i → zup M 4 6 v q i = if q = 4 ∧ i = 6 then v else if q = 3 ∧ i = 2 then 1 else m q i := fun q i hq => by
    unfold zup
    rw [B3 q i hq, U1 q i hq]
  refine Or.inr ⟨rfl, ?_, ⟨?_, ?_, ?_, ?_, ?_⟩, ?_⟩
  · exact yr_um B5 (by decide) (Or.inl (by decide))
  · exact yg_fr xg (fun r j hr => by rw [SX r j (by omega), if_neg (by omega), if_neg (by omega)]) (fun r j hr => by dsimp only; rw [MX r j (by omega), if_neg (by omega), if_neg (by omega)])
  · exact yc_fr xc (fun r j hr => by rw [SX r j (by omega), if_neg (by omega), if_neg (by omega)]) (fun r j hr => by dsimp only; rw [MX r j (by omega), if_neg (by omega), if_neg (by omega)])
  · exact yu_fr xu (fun r j hr => by rw [SX r j (by omega), if_neg (by omega), if_neg (by omega)]) (fun r j hr => by dsimp only; rw [MX r j (by omega), if_neg (by omega), if_neg (by omega)])
  · unfold yr_o
    dsimp only
    rw [SX 32 4 (by decide), SX 32 5 (by decide), SX 32 6 (by decide), SX 32 7 (by decide), MX 4 4 (by omega), MX 4 5 (by omega), MX 4 6 (by omega), MX 4 7 (by omega)]
    refine ⟨fun w hw => ?_, ?_⟩
    · rw [SX 61 w (by decide), MX 3 w (by omega)]
      by_cases e : w = 2
      · simp [e]
      · simp [e]
        exact o1 w hw
    · simp [o2, o3, o4, o5]
      omega
  · exact yl_fr xl (fun r j hr => by rw [SX r j (by omega), if_neg (by omega), if_neg (by omega)]) (fun r j hr => by dsimp only; rw [MX r j (by omega), if_neg (by omega), if_neg (by omega)])
  · show s 60 5 < X 60 5
    omega
theorem yr_on1 {s m : zE} (h : yr_Q s m) (x : yr_x s m) : yr_out s (yq_onl 1 5 1 99 m) (yp_onc 1 s) := by
  obtain ⟨xg, xc, xu, xo, xl⟩ := x
  obtain ⟨o1, o2, o3, o4, o5, o6, o7⟩ := id xo
  have q0 := o1 1 (by decide)
  unfold yq_onl yp_onc
  rw [show Int.toNat (1 : Int) = 1 from rfl]
  by_cases q : m 3 1 = 0
  case neg =>
    rw [if_pos q, if_pos (Or.inr (Or.inr (show ¬ s 61 1 = 0 by rw [q0]; exact q)))]
    exact yr_no h (by decide)
  rw [if_neg (show ¬ ¬ m 3 1 = 0 from fun w => w q), if_neg (show ¬ ((1 : Int) < 0 ∨ (2 : Int) < 1 ∨ ¬ s 61 1 = 0) from fun w => by
    rcases w with w | w | w
    · omega
    · omega
    · exact w (q0.trans q))]
  have Z := yr_us (r := 61) (j := 1) (x := 1) (yr_um (r := 3) (j := 1) (x := 1) h (by decide) (Or.inl (by decide))) (by decide) (by decide)
  have A := yr_adv Z
  have lt0 := yr_lt Z
  show yr_out s (yq_nt 0 99 (yq_tok (zup m 3 1 1)) _) (yp_rw 0 9 32 6 (yp_rw 0 99 32 5 (yp_adv (zup s 61 1 1))))
  have T1 : ∀ q i, ¬ q = 60 → yp_adv (zup s 61 1 1) q i = if q = 61 ∧ i = 1 then 1 else s q i := fun q i hq => by
    rw [adv_fr hq]
    rfl
  have U1 : ∀ q i, ¬ q = 0 ∨ i < 7 ∨ 11 < i → yq_tok (zup m 3 1 1) q i = if q = 3 ∧ i = 1 then 1 else m q i := fun q i hq => by
    rw [tok_fx (by omega)]
    rfl
  generalize yp_adv (zup s 61 1 1) = T at *
  generalize yq_tok (zup m 3 1 1) = U at *
  rcases yr_st (lo := 0) (hi := 99) (r := 32) (j := 5) A (by decide) (by decide) (by decide) with B | ⟨v, B1, Ba, Bb, B2, B3, B4, B5, B6, B7⟩
  · rw [yq_nt0 B.1]
    exact Or.inl ⟨rfl, st_F B.2 (st_rw (by decide))⟩
  rw [yq_nt1 B1]
  have lt0 : s 60 5 < T 60 5 := lt0 B7
  clear B1
  generalize yp_rw 0 99 32 5 T = X at *
  generalize yq_ns 0 99 U = M at *
  rw [B4, if_neg (by decide)]
  have C := yr_um (r := 4) (j := 5) (x := v) B5 (by decide) (Or.inl (by decide))
  rcases yr_st (lo := 0) (hi := 9) (r := 32) (j := 6) C (by decide) (by decide) (by decide) with E | ⟨v2, E1, Ea, Eb, E2, E3, E4, E5, E6, E7⟩
  · rw [yq_nt0 E.1]
    exact Or.inl ⟨rfl, E.2⟩
  rw [yq_nt1 E1]
  clear E1 C B5
  generalize yp_rw 0 9 32 6 X = X2 at *
  generalize yq_ns 0 9 (zup M 4 5 v) = M2 at *
  rw [E4]
  have SX : ∀ q i, ¬ q = 60 → X2 q i = if q = 32 ∧ i = 6 then v2 else if q = 32 ∧ i = 5 then v else if q = 61 ∧ i = 1 then 1 else s q i := fun q i hq => by rw [E2 q i hq, B2 q i hq, T1 q i hq]
  have MX : ∀ q i, ¬ q = 0 ∨ i < 7 ∨ 11 < i → zup M2 4 7 v2 q i = if q = 4 ∧ i = 7 then v2 else if q = 4 ∧ i = 5 then v else if q = 3 ∧ i = 1 then 1 else m q i := fun q i hq => by
    unfold zup
    rw [E3 q i hq]
    unfold zup
    rw [B3 q i hq, U1 q i hq]
  refine Or.inr ⟨rfl, ?_, ⟨?_, ?_, ?_, ?_, ?_⟩, ?_⟩
  · exact yr_um E5 (by decide) (Or.inl (by decide))
  · exact yg_fr xg (fun r j hr => by rw [SX r j (by omega), if_neg (by omega), if_neg (by omega), if_neg (by omega)]) (fun r j hr => by dsimp only; rw [MX r j (by omega), if_neg (by omega), if_neg (by omega), if_neg (by omega)])
  · exact yc_fr xc (fun r j hr => by rw [SX r j (by omega), if_neg (by omega), if_neg (by omega), if_neg (by omega)]) (fun r j hr => by dsimp only; rw [MX r j (by omega), if_neg (by omega), if_neg (by omega), if_neg (by omega)])
  · exact yu_fr xu (fun r j hr => by rw [SX r j (by omega), if_neg (by omega), if_neg (by omega), if_neg (by omega)]) (fun r j hr => by dsimp only; rw [MX r j (by omega), if_neg (by omega), if_neg (by omega), if_neg (by omega)])
  · unfold yr_o
    dsimp only
    rw [SX 32 4 (by decide), SX 32 5 (by decide), SX 32 6 (by decide), SX 32 7 (by decide), MX 4 4 (by omega), MX 4 5 (by omega), MX 4 6 (by omega), MX 4 7 (by omega)]
    refine ⟨fun w hw => ?_, ?_⟩
    · rw [SX 61 w (by decide), MX 3 w (by omega)]
      by_cases e : w = 1
      · simp [e]
      · simp [e]
        exact o1 w hw
    · simp [o2, o3, o4, o5]
      omega
  · exact yl_fr xl (fun r j hr => by rw [SX r j (by omega), if_neg (by omega), if_neg (by omega), if_neg (by omega)]) (fun r j hr => by dsimp only; rw [MX r j (by omega), if_neg (by omega), if_neg (by omega), if_neg (by omega)])
  · show s 60 5 < X2 60 5
    omega
