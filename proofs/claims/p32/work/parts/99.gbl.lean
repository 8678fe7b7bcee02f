/-! loops of laws and lines -/
theorem add_fr {x : Int} {s : zE} {r j : Nat} (h : ¬ r = 48) (h2 : ¬ r = 47) : yp_add x s r j = s r j := by
  unfold yp_add yp_inc
  split
  · rw [zup_ne (fun e _ => h2 e), zup_ne (fun e _ => h e)]
  · rfl
theorem unk_x {rk : Int} {s : zE} (h : ¬ (0 < s 60 12 ∧ rk ≤ yp_top s)) : yp_unk rk (s 60 12).toNat s = s := by
  cases hk : (s 60 12).toNat with
  | zero => rw [yp_unk]
  | succ k => rw [yp_unk, if_neg h]
theorem unk_s {rk : Int} {s s' : zE} (h0 : 0 < s 60 12) (h1 : s 60 12 ≤ 72) (h : rk ≤ yp_top s) (e : s' = yp_ad2 (yp_dec 60 12 s)) : yp_unk rk (s 60 12).toNat s = yp_unk rk (s' 60 12).toNat s' := by
  have g : s' 60 12 = s 60 12 - 1 := by
    rw [e]
    unfold yp_ad2
    rw [add_fr (by decide) (by decide)]
    unfold yp_dec
    rw [zup_eq]
    exact zd_s ⟨by omega, by omega⟩
  rw [g, show (s 60 12).toNat = (s 60 12 - 1).toNat + 1 by omega, yp_unk, if_pos ⟨h0, h⟩, ← e]
def yp_lJ (η0 : zE) (l w i : Int) (η : zE) : Prop := l = η0 60 8 ∧ η0 60 6 = 19 ∧ ¬ η0 49 (η0 60 8).toNat < η0 50 (η0 60 8).toNat ∧ η 60 4 = η0 60 4 ∧ 0 ≤ i ∧ yp_lwl ((η0 60 4).toNat + 1) 1 (yp_law2 (η0 60 8).toNat (yp_adv η0)) = yp_lwl (η0 60 4 + 1 - i).toNat w η
def yp_lK (η0 : zE) (l : Int) (η : zE) : Prop := l = η0 60 8 ∧ η0 60 6 = 19 ∧ ¬ η0 49 (η0 60 8).toNat < η0 50 (η0 60 8).toNat ∧ yp_lwl ((η0 60 4).toNat + 1) 1 (yp_law2 (η0 60 8).toNat (yp_adv η0)) = η
theorem lwl_e {η0 η : zE} {l w i : Int} (h : yp_lJ η0 l w i η) (hc : η 60 4 < i ∨ ¬ η 60 0 = 0 ∨ (w = 0 ∧ η 60 6 = 15 ∧ η 60 13 = 0)) : yp_lK η0 l η := by
  obtain ⟨h1, h2, h3, h4, h5, h6⟩ := h
  refine ⟨h1, h2, h3, ?_⟩
  rw [h6]
  cases hk : (η0 60 4 + 1 - i).toNat with
  | zero => rw [yp_lwl]
  | succ k =>
    rw [yp_lwl]
    rcases hc with hc | hc | hc
    · omega
    · rw [if_pos hc]
    · split
      · rfl
      · rw [if_neg (by omega), if_pos hc.2]
theorem lwl_o {η0 η η' : zE} {l w i : Int} (h : yp_lJ η0 l w i η) (h0 : η 60 0 = 0) (hi : i ≤ η 60 4) (hw : ¬ w = 0) (he : η' = yp_opd η) (h4 : η' 60 4 = η 60 4) : yp_lJ η0 l (yp_opw η) (i + 1) η' := by
  obtain ⟨g1, g2, g3, g4, g5, g6⟩ := h
  refine ⟨g1, g2, g3, h4.trans g4, by omega, ?_⟩
  rw [g6, show (η0 60 4 + 1 - i).toNat = (η0 60 4 + 1 - (i + 1)).toNat + 1 by omega, yp_lwl, if_neg (fun w => w h0), if_pos hw, ← he]
theorem lwl_s {η0 η η' : zE} {l w i : Int} (h : yp_lJ η0 l w i η) (h0 : η 60 0 = 0) (hi : i ≤ η 60 4) (hw : w = 0) (hc : ¬ (η 60 6 = 15 ∧ η 60 13 = 0)) (he : η' = yp_sgn η) (h4 : η' 60 4 = η 60 4) : yp_lJ η0 l (yp_sgw η) (i + 1) η' := by
  obtain ⟨g1, g2, g3, g4, g5, g6⟩ := h
  refine ⟨g1, g2, g3, h4.trans g4, by omega, ?_⟩
  rw [g6, show (η0 60 4 + 1 - i).toNat = (η0 60 4 + 1 - (i + 1)).toNat + 1 by omega, yp_lwl, if_neg (fun w => w h0), if_neg (fun x => x hw), if_neg hc, ← he]
theorem law_e {η0 η : zE} {l : Int} (h : yp_lK η0 l η) : yp_law3 l.toNat (yp_unw 1 η) = yp_law η0 := by
  obtain ⟨g1, g2, g3, g4⟩ := h
  unfold yp_law
  rw [if_neg (fun w => w g2), if_neg g3, g4, g1]
def yp_rJ (n : Int) (η0 : zE) (i : Int) (η : zE) : Prop := η 60 4 = n ∧ 0 ≤ i ∧ yp_rdl (n + 1).toNat (yp_adv (yp_ini n η0)) = yp_rdl (n + 1 - i).toNat η
theorem rdl_e {n i : Int} {η0 η : zE} (h : yp_rJ n η0 i η) (hc : η 60 4 < i ∨ η 60 6 = 21 ∨ ¬ η 60 0 = 0) : η = yp_rdl (n + 1).toNat (yp_adv (yp_ini n η0)) := by
  obtain ⟨h1, h2, h3⟩ := h
  rw [h3]
  cases hk : (n + 1 - i).toNat with
  | zero => rw [yp_rdl]
  | succ k =>
    rw [yp_rdl]
    rcases hc with hc | hc
    · omega
    · rw [if_pos hc]
theorem rdl_s {n i : Int} {η0 η η' : zE} (h : yp_rJ n η0 i η) (hi : i ≤ η 60 4) (h0 : η 60 0 = 0) (hk : ¬ η 60 6 = 21) (he : η' = yp_end (yp_lin η)) (h4 : η' 60 4 = η 60 4) : yp_rJ n η0 (i + 1) η' := by
  obtain ⟨g1, g2, g3⟩ := h
  refine ⟨h4.trans g1, by omega, ?_⟩
  rw [g3, show (n + 1 - i).toNat = (n + 1 - (i + 1)).toNat + 1 by omega, yp_rdl, if_neg (by omega), ← he]
def yp_R (n : Int) (η : zE) : zE := yp_rdl (n + 1).toNat (yp_adv (yp_ini n η))
def yp_t0 (n : Int) (η : zE) (y : Int) (η' : zE) : Prop := ((n < 0 ∨ η 0 1 < n) → y = -2 ∧ η' 0 2 = η 0 2 ∧ η' 0 3 = η 0 3) ∧ (0 ≤ n → n ≤ η 0 1 → y = -1 ∧ ¬ yp_R n η 60 0 = 0 ∧ η' 0 2 = yp_R n η 60 0 ∧ η' 0 3 = yp_R n η 60 1)
def yp_t1 (n : Int) (η : zE) (y : Int) (η' : zE) : Prop := 0 ≤ n ∧ n ≤ η 0 1 ∧ yp_R n η 60 0 = 0 ∧ y = yp_R n η 32 0 ∧ η' 0 2 = yp_R n η 60 0 ∧ η' 0 3 = yp_R n η 60 1 ∧ ∀ r j, 32 ≤ r → r ≤ 50 → η' r j = yp_R n η r j
