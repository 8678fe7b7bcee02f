/-! the next token -/
def yp_zI (η0 η : zE) : Prop := ∃ a : Nat, η = zup η0 60 5 a ∧ yp_skp (η0 1) (yp_len η0) a = yp_skp (η0 1) (yp_len η0) (yp_at η0)
theorem yzI_0 {η : zE} (h0 : 0 ≤ η 60 5) : yp_zI η η := by
  refine ⟨yp_at η, ?_, rfl⟩
  rw [show ((yp_at η : Nat) : Int) = η 60 5 by unfold yp_at; omega]
  funext r j
  grind [zup]
theorem yzI_s {η0 η : zE} (h : yp_zI η0 η) (h0 : 0 ≤ η 60 5) (hl : η 60 5 < η 60 4) (hb : yp_bl (η 1 (η 60 5).toNat) = true) : yp_zI η0 (zup η 60 5 (η 60 5 + 1)) := by
  obtain ⟨a, a1, a2⟩ := h
  have e5 : η 60 5 = a := by rw [a1]; exact zup_eq
  have e4 : η 60 4 = η0 60 4 := by rw [a1]; rfl
  have e1 : η 1 = η0 1 := by rw [a1]; rfl
  rw [e1, e5, Int.toNat_natCast] at hb
  refine ⟨a + 1, ?_, ?_⟩
  · rw [e5, a1, show ((a + 1 : Nat) : Int) = (a : Int) + 1 by omega]
    funext r j
    grind [zup]
  · rw [← a2]
    have la : a < yp_len η0 := by unfold yp_len; omega
    unfold yp_skp
    rw [if_neg (show ¬ yp_len η0 ≤ a by omega), ys_s la hb]
    split
    · next w => rw [ys_e w]; omega
    · rfl
theorem yzI_q {η0 η : zE} (h : yp_zI η0 η) (h0 : 0 ≤ η 60 5) (hc : η 60 4 ≤ η 60 5 ∨ (η 60 5 < η 60 4 ∧ yp_bl (η 1 (η 60 5).toNat) = false)) : yp_skp (η0 1) (yp_len η0) (yp_at η0) = yp_at η ∧ η = zup η0 60 5 (yp_at η) ∧ η 1 = η0 1 ∧ yp_len η = yp_len η0 := by
  obtain ⟨a, a1, a2⟩ := h
  have e5 : η 60 5 = a := by rw [a1]; exact zup_eq
  have e4 : η 60 4 = η0 60 4 := by rw [a1]; rfl
  have e1 : η 1 = η0 1 := by rw [a1]; rfl
  have ea : yp_at η = a := by unfold yp_at; rw [e5]; rfl
  rw [ea]
  refine ⟨?_, a1, e1, by unfold yp_len; rw [e4]⟩
  rw [← a2]
  unfold yp_skp
  rcases hc with hc | hc
  · rw [if_pos (by unfold yp_len; omega)]
  · rw [if_neg (by unfold yp_len; omega)]
    refine ys_x (by unfold yp_len; omega) ?_
    have := hc.2
    rw [e1, e5] at this
    exact this
theorem lay_of {η0 η ηE : zE} {t : Int × Int × Nat × Nat} (h1 : η = zup η0 60 5 (yp_at η)) (h2 : ηE = yp_lay η t) : ηE = yp_lay η0 t := by
  rw [h2]
  generalize yp_at η = a at h1
  rw [h1]
  unfold yp_lay
  funext r j
  grind [zup]
theorem adv_of {η0 η ηE : zE} (h : yp_zI η0 η) (h0 : 0 ≤ η 60 5) (hc : η 60 4 ≤ η 60 5 ∨ (η 60 5 < η 60 4 ∧ yp_bl (η 1 (η 60 5).toNat) = false)) (h2 : ηE = yp_lay η (yp_tk2 (η 1) (yp_len η) (yp_at η))) : ηE = yp_adv η0 := by
  obtain ⟨g1, g2, g3, g4⟩ := yzI_q h h0 hc
  refine lay_of (t := yp_tk (η0 1) (yp_len η0) (yp_at η0)) g2 ?_
  unfold yp_tk
  rw [g1, ← g3, ← g4]
  exact h2
theorem adv_e {η : zE} (h0 : 0 ≤ η 60 5) (hc : η 60 4 ≤ η 60 5) : zup (zup (zup η 60 7 (η 60 5)) 60 8 0) 60 6 21 = yp_lay η (yp_tk2 (η 1) (yp_len η) (yp_at η)) := by
  unfold yp_tk2
  rw [if_pos (by unfold yp_len yp_at; omega)]
  unfold yp_lay
  dsimp only
  rw [show ((yp_at η : Nat) : Int) = η 60 5 by unfold yp_at; omega]
  funext r j
  grind [zup]
theorem adv_s {η : zE} (h0 : 0 ≤ η 60 5) (hc : η 60 5 < η 60 4) (hl : yp_le (η 1 (η 60 5).toNat) = false) (hd : yp_di (η 1 (η 60 5).toNat) = false) {S : zE} (hS : S = zup (zup (zup η 60 7 (η 60 5)) 60 8 0) 60 5 (η 60 5 + 1)) (h5 : z32 (η 60 5 + 2)) : zup (yp_snS (η 1 (η 60 5).toNat) S) 60 6 (yp_snY (η 1 (η 60 5).toNat) S) = yp_lay η (yp_tk2 (η 1) (yp_len η) (yp_at η)) := by
  have s1 : S 1 = η 1 := by rw [hS]; rfl
  have s4 : S 60 4 = η 60 4 := by rw [hS]; rfl
  have s5 : S 60 5 = η 60 5 + 1 := by rw [hS]; rfl
  have ea : ((yp_at η : Nat) : Int) = η 60 5 := by unfold yp_at; omega
  have en : yp_nx S = if yp_at η + 1 < yp_len η then η 1 (yp_at η + 1) else 0 := by
    unfold yp_nx
    rw [s1, s4, s5, show (η 60 5 + 1).toNat = yp_at η + 1 by unfold yp_at; omega]
    by_cases w : η 60 5 + 1 < η 60 4
    · rw [if_pos w, if_pos (by unfold yp_at yp_len; omega)]
    · rw [if_neg w, if_neg (by unfold yp_at yp_len; omega)]
  unfold yp_tk2
  rw [if_neg (by unfold yp_len yp_at; omega)]
  have hl : yp_le (η 1 (yp_at η)) = false := hl
  have hd : yp_di (η 1 (yp_at η)) = false := hd
  rw [if_neg (by rw [hl]; decide), if_neg (by rw [hd]; decide), ← en]
  unfold yp_lay yp_snS yp_snY
  dsimp only
  have ec : η 1 (η 60 5).toNat = η 1 (yp_at η) := rfl
  rw [ec]
  generalize hk : yp_sg (η 1 (yp_at η)) (yp_nx S) = k
  have k2 : k.2 = 0 ∨ k.2 = 1 := by
    rw [← hk]
    generalize η 1 (yp_at η) = c
    generalize yp_nx S = d
    unfold yp_sg
    repeat' split
    all_goals first | exact Or.inl rfl | exact Or.inr rfl
  rcases k2 with k2 | k2
  · rw [if_pos k2, hS, k2, show ((yp_at η + 1 + 0 : Nat) : Int) = η 60 5 + 1 by omega, ea]
    funext r j
    grind [zup]
  · rw [if_neg (by omega), k2, show ((yp_at η + 1 + 1 : Nat) : Int) = η 60 5 + 2 by omega, ea]
    unfold yp_inc
    rw [s5, zd_a (by unfold z32 at h5 ⊢; omega), hS]
    funext r j
    grind [zup]
theorem adv_n {η : zE} (h0 : 0 ≤ η 60 5) (hc : η 60 5 < η 60 4) (h1 : 48 ≤ η 1 (η 60 5).toNat) (h2 : η 1 (η 60 5).toNat ≤ 57) : yp_nn (zup (zup η 60 7 (η 60 5)) 60 8 0) = yp_lay η (yp_tk2 (η 1) (yp_len η) (yp_at η)) := by
  have ea : ((yp_at η : Nat) : Int) = η 60 5 := by unfold yp_at; omega
  unfold yp_tk2
  have hl : yp_le (η 1 (yp_at η)) = false := yl_n (Or.inl (by unfold yp_at; omega))
  have hd : yp_di (η 1 (yp_at η)) = true := yd_y h1 h2
  rw [if_neg (by unfold yp_len yp_at; omega), if_neg (by rw [hl]; decide), if_pos hd]
  unfold yp_nn yp_lay
  have e1 : (zup (zup η 60 7 (η 60 5)) 60 8 0) 1 = η 1 := rfl
  have e2 : yp_at (zup (zup η 60 7 (η 60 5)) 60 8 0) = yp_at η := rfl
  have e3 : yp_len (zup (zup η 60 7 (η 60 5)) 60 8 0) = yp_len η := rfl
  rw [e1, e2, e3]
  dsimp only
  rw [ea]
  funext r j
  grind [zup]
theorem adv_w {η : zE} (h0 : 0 ≤ η 60 5) (hc : η 60 5 < η 60 4) (h1 : 97 ≤ η 1 (η 60 5).toNat) (h2 : η 1 (η 60 5).toNat ≤ 122) : yp_nw (zup (zup η 60 7 (η 60 5)) 60 8 0) = yp_lay η (yp_tk2 (η 1) (yp_len η) (yp_at η)) := by
  have ea : ((yp_at η : Nat) : Int) = η 60 5 := by unfold yp_at; omega
  unfold yp_tk2
  have hl : yp_le (η 1 (yp_at η)) = true := yl_y h1 h2
  rw [if_neg (by unfold yp_len yp_at; omega), if_pos hl]
  unfold yp_nw yp_lay
  have e1 : (zup (zup η 60 7 (η 60 5)) 60 8 0) 1 = η 1 := rfl
  have e2 : yp_at (zup (zup η 60 7 (η 60 5)) 60 8 0) = yp_at η := rfl
  have e3 : yp_len (zup (zup η 60 7 (η 60 5)) 60 8 0) = yp_len η := rfl
  rw [e1, e2, e3]
  dsimp only
  split
  · dsimp only
    rw [ea]
    funext r j
    grind [zup]
  · dsimp only
    rw [ea]
    funext r j
    grind [zup]
