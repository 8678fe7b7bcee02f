/-! the model's next token -/
def yq_at (s : zE) : Nat := (s 0 7).toNat
def yq_len (s : zE) : Nat := (s 0 6).toNat
def yq_zI (η0 η : zE) : Prop := ∃ a : Nat, η = zup η0 0 7 a ∧ yp_skp (η0 1) (yq_len η0) a = yp_skp (η0 1) (yq_len η0) (yq_at η0)
theorem qzI_0 {η : zE} (h0 : 0 ≤ η 0 7) : yq_zI η η := by
  refine ⟨yq_at η, ?_, rfl⟩
  rw [show ((yq_at η : Nat) : Int) = η 0 7 by unfold yq_at; omega]
  funext r j
  grind [zup]
theorem qzI_s {η0 η : zE} (h : yq_zI η0 η) (h0 : 0 ≤ η 0 7) (hl : η 0 7 < η 0 6) (hb : yp_bl (η 1 (η 0 7).toNat) = true) : yq_zI η0 (zup η 0 7 (η 0 7 + 1)) := by
  obtain ⟨a, a1, a2⟩ := h
  have e5 : η 0 7 = a := by rw [a1]; exact zup_eq
  have e4 : η 0 6 = η0 0 6 := by rw [a1]; rfl
  have e1 : η 1 = η0 1 := by rw [a1]; rfl
  rw [e1, e5, Int.toNat_natCast] at hb
  refine ⟨a + 1, ?_, ?_⟩
  · rw [e5, a1, show ((a + 1 : Nat) : Int) = (a : Int) + 1 by omega]
    funext r j
    grind [zup]
  · rw [← a2]
    have la : a < yq_len η0 := by unfold yq_len; omega
    unfold yp_skp
    rw [if_neg (show ¬ yq_len η0 ≤ a by omega), ys_s la hb]
    split
    · next w => rw [ys_e w]; omega
    · rfl
theorem qzI_q {η0 η : zE} (h : yq_zI η0 η) (h0 : 0 ≤ η 0 7) (hc : η 0 6 ≤ η 0 7 ∨ (η 0 7 < η 0 6 ∧ yp_bl (η 1 (η 0 7).toNat) = false)) : yp_skp (η0 1) (yq_len η0) (yq_at η0) = yq_at η ∧ η = zup η0 0 7 (yq_at η) ∧ η 1 = η0 1 ∧ yq_len η = yq_len η0 := by
  obtain ⟨a, a1, a2⟩ := h
  have e5 : η 0 7 = a := by rw [a1]; exact zup_eq
  have e4 : η 0 6 = η0 0 6 := by rw [a1]; rfl
  have e1 : η 1 = η0 1 := by rw [a1]; rfl
  have ea : yq_at η = a := by unfold yq_at; rw [e5]; rfl
  rw [ea]
  refine ⟨?_, a1, e1, by unfold yq_len; rw [e4]⟩
  rw [← a2]
  unfold yp_skp
  rcases hc with hc | hc
  · rw [if_pos (by unfold yq_len; omega)]
  · rw [if_neg (by unfold yq_len; omega)]
    refine ys_x (by unfold yq_len; omega) ?_
    have := hc.2
    rw [e1, e5] at this
    exact this
theorem qlay_of {η0 η ηE : zE} {t : Int × Int × Nat × Nat} (h1 : η = zup η0 0 7 (yq_at η)) (h2 : ηE = yq_lay η t) : ηE = yq_lay η0 t := by
  rw [h2]
  generalize yq_at η = a at h1
  rw [h1]
  unfold yq_lay
  funext r j
  grind [zup]
/-- the state where the token begins decides -/
theorem qtok_of {η0 η ηE : zE} (h : yq_zI η0 η) (h0 : 0 ≤ η 0 7) (hc : η 0 6 ≤ η 0 7 ∨ (η 0 7 < η 0 6 ∧ yp_bl (η 1 (η 0 7).toNat) = false)) (h2 : ηE = yq_lay η (yq_tk2 (η 1) (yq_len η) (yq_at η) (η 0 9))) : ηE = yq_tok η0 := by
  obtain ⟨g1, g2, g3, g4⟩ := qzI_q h h0 hc
  have e9 : η 0 9 = η0 0 9 := by rw [g2]; rfl
  refine qlay_of (t := yq_tk (η0 1) (yq_len η0) (yq_at η0) (η0 0 9)) g2 ?_
  unfold yq_tk
  rw [g1, ← g3, ← g4, ← e9]
  exact h2
theorem qtok_e {η : zE} (h0 : 0 ≤ η 0 7) (hc : η 0 6 ≤ η 0 7) : zup (zup η 0 10 (η 0 7)) 0 8 0 = yq_lay η (yq_tk2 (η 1) (yq_len η) (yq_at η) (η 0 9)) := by
  unfold yq_tk2
  rw [if_pos (by unfold yq_len yq_at; omega)]
  unfold yq_lay
  dsimp only
  rw [show ((yq_at η : Nat) : Int) = η 0 7 by unfold yq_at; omega]
  funext r j
  grind [zup]
/-- letters of a word: S the state where it begins -/
def yq_wL (S η : zE) : Prop := ∃ a : Nat, yq_at S ≤ a ∧ a ≤ yq_len S ∧ η = zup (zup S 0 10 (S 0 7)) 0 7 a ∧ yp_scn yp_le (S 1) (yq_len S) (yq_len S - a) = yp_scn yp_le (S 1) (yq_len S) (yq_len S - yq_at S) ∧ yp_le (S 1 (yq_at S)) = true ∧ yq_at S < yq_len S
theorem qwL_s {S η : zE} (h : yq_wL S η) (h0 : 0 ≤ η 0 7) (hl : η 0 7 < η 0 6) (h1 : 97 ≤ η 1 (η 0 7).toNat) (h2 : η 1 (η 0 7).toNat ≤ 122) : yq_wL S (zup η 0 7 (η 0 7 + 1)) := by
  obtain ⟨a, a1, a2, a3, a4, a5⟩ := h
  have e5 : η 0 7 = a := by rw [a3]; exact zup_eq
  have e4 : η 0 6 = S 0 6 := by rw [a3]; rfl
  have e1 : η 1 = S 1 := by rw [a3]; rfl
  rw [e1, e5] at h1 h2
  have h1 : 97 ≤ S 1 a := h1
  have h2 : S 1 a ≤ 122 := h2
  have la : a < yq_len S := by unfold yq_len; omega
  refine ⟨a + 1, by omega, by omega, ?_, ?_, a5⟩
  · rw [e5, a3, show ((a + 1 : Nat) : Int) = (a : Int) + 1 by omega]
    funext r j
    grind [zup]
  · rw [← a4]
    exact (ys_s la (yl_y h1 h2)).symm
/-- a word's end -/
theorem qwL_e {S η : zE} (h : yq_wL S η) (h0 : 0 ≤ η 0 7) (hc : η 0 6 ≤ η 0 7 ∨ (η 0 7 < η 0 6 ∧ yp_le (η 1 (η 0 7).toNat) = false)) : yp_scn yp_le (S 1) (yq_len S) (yq_len S - yq_at S) = yq_at η ∧ yq_at S ≤ yq_at η ∧ η = zup (zup S 0 10 (S 0 7)) 0 7 (yq_at η) ∧ η 1 = S 1 ∧ yq_let (S 1) (yq_at S) (yq_at η - yq_at S) ∧ yp_le (S 1 (yq_at S)) = true ∧ yq_at S < yq_len S := by
  obtain ⟨a, a1, a2, a3, a4, a5, a6⟩ := h
  have e5 : η 0 7 = a := by rw [a3]; exact zup_eq
  have e4 : η 0 6 = S 0 6 := by rw [a3]; rfl
  have e1 : η 1 = S 1 := by rw [a3]; rfl
  have ea : yq_at η = a := by unfold yq_at; rw [e5]; rfl
  rw [ea]
  have q : yp_scn yp_le (S 1) (yq_len S) (yq_len S - yq_at S) = a := by
    rw [← a4]
    rcases hc with hc | hc
    · rw [ys_e (by unfold yq_len; omega)]
      unfold yq_len at a2 ⊢
      omega
    · refine ys_x (by unfold yq_len; omega) ?_
      have := hc.2
      rw [e1, e5] at this
      exact this
  refine ⟨q, a1, a3, e1, fun j hj => ?_, a5, a6⟩
  have g := (ys_p (P := yp_le) (b := S 1) (n := yq_len S) (yq_len S - yq_at S) (by omega)).1 (yq_at S + j) (by omega) (by rw [q]; omega)
  unfold yp_le at g
  exact of_decide_eq_true g
/-- digits of a number -/
def yq_nL (S η : zE) : Prop := ∃ a : Nat, yq_at S ≤ a ∧ a ≤ yq_len S ∧ η = zup (zup (zup (zup S 0 10 (S 0 7)) 0 8 3) 0 9 (yq_num (S 1) (yq_at S) (a - yq_at S))) 0 7 a ∧ yp_scn yp_di (S 1) (yq_len S) (yq_len S - a) = yp_scn yp_di (S 1) (yq_len S) (yq_len S - yq_at S) ∧ yp_le (S 1 (yq_at S)) = false ∧ yp_di (S 1 (yq_at S)) = true ∧ yq_at S < yq_len S
theorem qnL_s {S η η' : zE} {v : Int} (h : yq_nL S η) (h0 : 0 ≤ η 0 7) (hl : η 0 7 < η 0 6) (h1 : 48 ≤ η 1 (η 0 7).toNat) (h2 : η 1 (η 0 7).toNat ≤ 57) (hv : v = if 99999 < η 0 9 then η 0 9 else 10 * η 0 9 + η 1 (η 0 7).toNat - 48) (hη : η' = zup (zup η 0 9 v) 0 7 (η 0 7 + 1)) : yq_nL S η' := by
  obtain ⟨a, a1, a2, a3, a4, a5⟩ := h
  have e5 : η 0 7 = a := by rw [a3]; exact zup_eq
  have e4 : η 0 6 = S 0 6 := by rw [a3]; rfl
  have e1 : η 1 = S 1 := by rw [a3]; rfl
  have e9 : η 0 9 = yq_num (S 1) (yq_at S) (a - yq_at S) := by rw [a3]; rfl
  rw [e1, e5] at h1 h2
  have h1 : 48 ≤ S 1 a := h1
  have h2 : S 1 a ≤ 57 := h2
  have la : a < yq_len S := by unfold yq_len; omega
  refine ⟨a + 1, by omega, by omega, ?_, ?_, a5⟩
  · have n1 : yq_num (S 1) (yq_at S) (a + 1 - yq_at S) = v := by
      rw [show a + 1 - yq_at S = (a - yq_at S) + 1 by omega, yq_num, hv, e9, e1, e5, show yq_at S + (a - yq_at S) = a by omega]
      rfl
    rw [n1, hη, e5, a3, show ((a + 1 : Nat) : Int) = (a : Int) + 1 by omega]
    funext r j
    grind [zup]
  · rw [← a4]
    exact (ys_s la (yd_y h1 h2)).symm
theorem qnL_e {S η : zE} (hS : 0 ≤ S 0 7) (h : yq_nL S η) (h0 : 0 ≤ η 0 7) (hc : η 0 6 ≤ η 0 7 ∨ (η 0 7 < η 0 6 ∧ yp_di (η 1 (η 0 7).toNat) = false)) : η = yq_lay S (yq_tk2 (S 1) (yq_len S) (yq_at S) (S 0 9)) := by
  obtain ⟨a, a1, a2, a3, a4, a5, a6, a7⟩ := h
  have e5 : η 0 7 = a := by rw [a3]; exact zup_eq
  have e4 : η 0 6 = S 0 6 := by rw [a3]; rfl
  have e1 : η 1 = S 1 := by rw [a3]; rfl
  have q : yp_scn yp_di (S 1) (yq_len S) (yq_len S - yq_at S) = a := by
    rw [← a4]
    rcases hc with hc | hc
    · rw [ys_e (by unfold yq_len; omega)]
      unfold yq_len at a2 ⊢
      omega
    · refine ys_x (by unfold yq_len; omega) ?_
      have := hc.2
      rw [e1, e5] at this
      exact this
  have es : ((yq_at S : Nat) : Int) = S 0 7 := by
    unfold yq_at
    omega
  unfold yq_tk2
  rw [if_neg (by omega), if_neg (by rw [a5]; decide), if_pos a6, q, a3]
  unfold yq_lay
  dsimp only
  rw [es]
  funext r j
  grind [zup]
