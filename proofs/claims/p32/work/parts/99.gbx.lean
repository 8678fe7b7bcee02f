/-! the model's next token: a word's end, a sign, a number's bounds -/
theorem qnum_b {b : Nat → Int} {p : Nat} : ∀ m, (∀ j, j < m → 48 ≤ b (p + j) ∧ b (p + j) ≤ 57) → 0 ≤ yq_num b p m ∧ yq_num b p m ≤ 999999
  | 0, _ => by rw [yq_num]; omega
  | m + 1, h => by
    have g := qnum_b (b := b) (p := p) m (fun j hj => h j (by omega))
    have c := h m (by omega)
    rw [yq_num]
    split <;> omega
theorem qnL_b {S η : zE} (h : yq_nL S η) : 0 ≤ η 0 9 ∧ η 0 9 ≤ 999999 := by
  obtain ⟨a, a1, a2, a3, a4, a5, a6, a7⟩ := h
  have e9 : η 0 9 = yq_num (S 1) (yq_at S) (a - yq_at S) := by rw [a3]; rfl
  rw [e9]
  have r := ys_r (P := yp_di) (b := S 1) (n := yq_len S) (yq_len S - a)
  have g := (ys_p (P := yp_di) (b := S 1) (n := yq_len S) (yq_len S - yq_at S) (by omega)).1
  rw [← a4] at g
  refine qnum_b _ (fun j hj => ?_)
  have := g (yq_at S + j) (by omega) (by omega)
  unfold yp_di at this
  exact of_decide_eq_true this
theorem qw_E {S η ηE : zE} {w p : Int} (hS : 0 ≤ S 0 7) (hL : yq_wL S η) (h0 : 0 ≤ η 0 7) (hc : η 0 6 ≤ η 0 7 ∨ (η 0 7 < η 0 6 ∧ yp_le (η 1 (η 0 7).toNat) = false)) (hw : w = yq_wa (η 1) (η 0 10).toNat (η 0 7 - η 0 10).toNat 20) (hp : yq_let (η 1) (η 0 10).toNat (η 0 7 - η 0 10).toNat → p = yq_pk (η 1) (η 0 10).toNat (η 0 7 - η 0 10).toNat 6) (hE : ηE = if 0 ≤ w then zup (zup η 0 9 w) 0 8 1 else if 6 < η 0 7 - η 0 10 then zup (zup η 0 9 w) 0 8 6 else zup (zup (zup η 0 9 w) 0 8 2) 0 9 p) : ηE = yq_lay S (yq_tk2 (S 1) (yq_len S) (yq_at S) (S 0 9)) := by
  obtain ⟨g1, g2, g3, g4, g5, g6, g7⟩ := qwL_e hL h0 hc
  have e10 : η 0 10 = S 0 7 := by rw [g3]; rfl
  have ea : ((yq_at η : Nat) : Int) = η 0 7 := by unfold yq_at; omega
  have es : ((yq_at S : Nat) : Int) = S 0 7 := by unfold yq_at; omega
  have em : (η 0 7 - η 0 10).toNat = yq_at η - yq_at S := by omega
  have et : (η 0 10).toNat = yq_at S := by rw [e10]; rfl
  rw [g4, et, em] at hw hp
  have hp := hp g5
  unfold yq_tk2
  rw [if_neg (by omega), if_pos g6, g1, ← hw, ← hp, hE]
  generalize yq_at η = a at g3 ea g2 em
  unfold yq_wk yq_lay
  by_cases c1 : 0 ≤ w
  · rw [if_pos c1, if_pos c1, if_neg (by decide)]
    dsimp only
    rw [es, g3]
    funext r j
    grind [zup]
  · rw [if_neg c1, if_neg c1]
    by_cases c2 : 6 < η 0 7 - η 0 10
    · rw [if_pos c2, if_pos (show 6 < a - yq_at S by omega), if_neg (by decide)]
      dsimp only
      rw [es, g3]
      funext r j
      grind [zup]
    · rw [if_neg c2, if_neg (show ¬ 6 < a - yq_at S by omega), if_pos rfl]
      dsimp only
      rw [es, g3]
      funext r j
      grind [zup]
theorem qs_E {η : zE} (h0 : 0 ≤ η 0 7) (hc : η 0 7 < η 0 6) (hl : yp_le (η 1 (η 0 7).toNat) = false) (hd : yp_di (η 1 (η 0 7).toNat) = false) (h5 : z32 (η 0 7 + 2)) : yq_snS (zup η 0 10 (η 0 7)) = yq_lay η (yq_tk2 (η 1) (yq_len η) (yq_at η) (η 0 9)) := by
  have ea : ((yq_at η : Nat) : Int) = η 0 7 := by unfold yq_at; omega
  have a1 : zd 0 1 (η 0 7) 1 = η 0 7 + 1 := zd_a (by unfold z32 at h5 ⊢; omega)
  unfold yq_tk2
  have hl : yp_le (η 1 (yq_at η)) = false := hl
  have hd : yp_di (η 1 (yq_at η)) = false := hd
  rw [if_neg (by unfold yq_len yq_at; omega), if_neg (by rw [hl]; decide), if_neg (by rw [hd]; decide)]
  have ec : η 1 (η 0 7).toNat = η 1 (yq_at η) := rfl
  generalize hk : yq_sg (η 1 (yq_at η)) (if yq_at η + 1 < yq_len η then η 1 (yq_at η + 1) else 0) = t
  have k2 : t.2.2 = 0 ∨ t.2.2 = 1 := by
    rw [← hk]
    generalize η 1 (yq_at η) = c
    generalize (if yq_at η + 1 < yq_len η then η 1 (yq_at η + 1) else 0) = d
    unfold yq_sg
    repeat' split
    all_goals first | exact Or.inl rfl | exact Or.inr rfl
  have hx : (η 0 7 + 1).toNat = yq_at η + 1 := by unfold yq_at; omega
  rw [qsn_l (s := zup η 0 10 (η 0 7)) (c := η 1 (yq_at η)) (x := η 0 7 + 1) (d := if yq_at η + 1 < yq_len η then η 1 (yq_at η + 1) else 0) (k := t.1) (w := t.2.1) (e := t.2.2) rfl a1.symm (by
    show (η 0 7 + 1 < η 0 6 ∧ _ = η 1 (η 0 7 + 1).toNat) ∨ (η 0 6 ≤ η 0 7 + 1 ∧ _ = (0 : Int)) ∨ _
    rw [hx]
    by_cases w : η 0 7 + 1 < η 0 6
    · exact Or.inl ⟨w, if_pos (by unfold yq_at yq_len; omega)⟩
    · exact Or.inr (Or.inl ⟨by omega, if_neg (by unfold yq_at yq_len; omega)⟩)) hk]
  unfold yq_lay
  dsimp only
  rcases k2 with k2 | k2
  · rw [if_pos k2, k2, show ((yq_at η + 1 + 0 : Nat) : Int) = η 0 7 + 1 by omega, ea]
    funext r j
    grind [zup]
  · rw [if_neg (by omega), k2, show ((yq_at η + 1 + 1 : Nat) : Int) = η 0 7 + 2 by omega, ea, zd_a (by unfold z32 at h5 ⊢; omega), show η 0 7 + 1 + 1 = η 0 7 + 2 by omega]
    funext r j
    grind [zup]
def yq_S0 (η0 S : zE) : Prop := yq_zI η0 S ∧ 0 ≤ S 0 7 ∧ S 0 7 < S 0 6 ∧ yp_bl (S 1 (S 0 7).toNat) = false ∧ z32 (S 0 7 + 2)
def yq_tW (η0 η : zE) : Prop := ∃ S, yq_S0 η0 S ∧ yq_wL S η
def yq_tN (η0 η : zE) : Prop := ∃ S, yq_S0 η0 S ∧ yq_nL S η
theorem tW_0 {η0 S η : zE} (h : yq_S0 η0 S) (hl : yp_le (S 1 (S 0 7).toNat) = true) (e : η = zup S 0 10 (S 0 7)) : yq_tW η0 η := by
  refine ⟨S, h, yq_at S, Nat.le_refl _, ?_, ?_, rfl, hl, ?_⟩
  · have := h.2.2.1; have := h.2.1; unfold yq_at yq_len; omega
  · rw [e, show ((yq_at S : Nat) : Int) = S 0 7 by have := h.2.1; unfold yq_at; omega]
    funext r j
    grind [zup]
  · have := h.2.2.1; have := h.2.1; unfold yq_at yq_len; omega
theorem tN_0 {η0 S η : zE} (h : yq_S0 η0 S) (hl : yp_le (S 1 (S 0 7).toNat) = false) (hd : yp_di (S 1 (S 0 7).toNat) = true) (e : η = zup (zup (zup S 0 10 (S 0 7)) 0 8 3) 0 9 0) : yq_tN η0 η := by
  refine ⟨S, h, yq_at S, Nat.le_refl _, ?_, ?_, rfl, hl, hd, ?_⟩
  · have := h.2.2.1; have := h.2.1; unfold yq_at yq_len; omega
  · rw [e, Nat.sub_self, yq_num, show ((yq_at S : Nat) : Int) = S 0 7 by have := h.2.1; unfold yq_at; omega]
    funext r j
    grind [zup]
  · have := h.2.2.1; have := h.2.1; unfold yq_at yq_len; omega
theorem tS_of {η0 S ηE : zE} (h : yq_S0 η0 S) (h2 : ηE = yq_lay S (yq_tk2 (S 1) (yq_len S) (yq_at S) (S 0 9))) : ηE = yq_tok η0 := qtok_of h.1 h.2.1 (Or.inr ⟨h.2.2.1, h.2.2.2.1⟩) h2
theorem l_no {c : Int} (h : ¬ (97 ≤ c ∧ c ≤ 122)) : yp_le c = false := decide_eq_false h
theorem d_no {c : Int} (h : ¬ (48 ≤ c ∧ c ≤ 57)) : yp_di c = false := decide_eq_false h
def yq_in (n lo hi : Int) : Int := if lo ≤ n ∧ n ≤ hi then 1 else 0
theorem in_0 {n lo hi : Int} (h : yq_in n lo hi = 0) : n < lo ∨ hi < n := by
  unfold yq_in at h
  split at h
  · cases h
  · omega
theorem in_1 {n lo hi : Int} (h : ¬ yq_in n lo hi = 0) : lo ≤ n ∧ n ≤ hi := by
  unfold yq_in at h
  split at h
  · assumption
  · exact absurd rfl h
def yq_nm (s : zE) : Int := if s 0 8 = 1 ∧ 13 ≤ s 0 9 then zd 0 2 (s 0 9) 13 else -1
