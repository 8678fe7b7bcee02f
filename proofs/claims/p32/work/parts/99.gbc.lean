/-! numbers -/
def yp_nI (η0 η : zE) : Prop := ∃ a : Nat, yp_at η0 ≤ a ∧ a ≤ yp_len η0 ∧ η = zup (zup (zup η0 60 6 16) 60 8 (yp_num (η0 1) (yp_at η0) (a - yp_at η0))) 60 5 a ∧ yp_scn yp_di (η0 1) (yp_len η0) (yp_len η0 - a) = yp_scn yp_di (η0 1) (yp_len η0) (yp_len η0 - yp_at η0)
theorem ynI_0 {η : zE} (h0 : 0 ≤ η 60 5) (h1 : η 60 5 ≤ η 60 4) (h8 : η 60 8 = 0) : yp_nI η (zup η 60 6 16) := by
  refine ⟨yp_at η, Nat.le_refl _, by unfold yp_at yp_len; omega, ?_, rfl⟩
  rw [Nat.sub_self, yp_num, ← h8, show ((yp_at η : Nat) : Int) = η 60 5 by unfold yp_at; omega]
  funext r j
  grind [zup]
theorem ynI_x {η0 η : zE} (h : yp_nI η0 η) (h0 : 0 ≤ η 60 5) (hc : η 60 4 ≤ η 60 5 ∨ (η 60 5 < η 60 4 ∧ yp_di (η 1 (η 60 5).toNat) = false)) : η = yp_nn η0 := by
  obtain ⟨a, h1, h2, h3, h4⟩ := h
  have e5 : η 60 5 = a := by rw [h3]; exact zup_eq
  have e4 : η 60 4 = η0 60 4 := by rw [h3]; rfl
  have e1 : η 1 = η0 1 := by rw [h3]; rfl
  have q : yp_scn yp_di (η0 1) (yp_len η0) (yp_len η0 - yp_at η0) = a := by
    rw [← h4]
    rcases hc with hc | hc
    · rw [ys_e (by unfold yp_len; omega)]
      unfold yp_len at h2 ⊢
      omega
    · refine ys_x (by unfold yp_len; omega) ?_
      have := hc.2
      rw [e1, e5] at this
      exact this
  unfold yp_nn
  rw [q]
  exact h3
theorem ynI_s {η0 η η' : zE} {v : Int} (h : yp_nI η0 η) (h0 : 0 ≤ η 60 5) (hl : η 60 5 < η 60 4) (h1 : 48 ≤ η 1 (η 60 5).toNat) (h2 : η 1 (η 60 5).toNat ≤ 57) (hv : v = if η 60 8 < 1000000 then η 60 8 * 10 + η 1 (η 60 5).toNat - 48 else η 60 8) (hη : η' = zup (zup η 60 8 v) 60 5 (η 60 5 + 1)) : yp_nI η0 η' := by
  obtain ⟨a, a1, a2, a3, a4⟩ := h
  have e5 : η 60 5 = a := by rw [a3]; exact zup_eq
  have e4 : η 60 4 = η0 60 4 := by rw [a3]; rfl
  have e1 : η 1 = η0 1 := by rw [a3]; rfl
  have e8 : η 60 8 = yp_num (η0 1) (yp_at η0) (a - yp_at η0) := by rw [a3]; rfl
  rw [e1, e5] at h1 h2
  have h1 : 48 ≤ η0 1 a := h1
  have h2 : η0 1 a ≤ 57 := h2
  have la : a < yp_len η0 := by unfold yp_len; omega
  refine ⟨a + 1, by omega, by omega, ?_, ?_⟩
  · have n1 : yp_num (η0 1) (yp_at η0) (a + 1 - yp_at η0) = v := by
      rw [show a + 1 - yp_at η0 = (a - yp_at η0) + 1 by omega, yp_num, hv, e8, e1, e5, show yp_at η0 + (a - yp_at η0) = a by omega]
      rfl
    rw [n1, hη, e5, a3, show ((a + 1 : Nat) : Int) = (a : Int) + 1 by omega]
    funext r j
    grind [zup]
  · rw [← a4]
    exact (ys_s la (yd_y h1 h2)).symm
