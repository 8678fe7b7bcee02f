/-! A fault made once is kept; numbers of both readers. -/
def zS_r (s s' : zE) : Prop := ¬ s 60 0 = 0 → s' 60 0 = s 60 0 ∧ s' 60 1 = s 60 1
def zF_r (s m : zE) : Prop := ¬ s 60 0 = 0 ∧ s 60 0 = m 0 4 ∧ s 60 1 = m 0 5
theorem st_rf {s : zE} : zS_r s s := fun _ => ⟨rfl, rfl⟩
theorem st_tr {s t u : zE} (h : zS_r s t) (g : zS_r t u) : zS_r s u := fun w => by
  have a := h w
  have b := g (by rw [a.1]; exact w)
  exact ⟨b.1.trans a.1, b.2.trans a.2⟩
theorem st_F {s s' m : zE} (h : zF_r s m) (g : zS_r s s') : zF_r s' m := by
  have a := g h.1
  exact ⟨by rw [a.1]; exact h.1, a.1.trans h.2.1, a.2.trans h.2.2⟩
theorem st_zup {s : zE} {r j : Nat} {x : Int} (h : ¬ r = 60 ∨ 2 ≤ j) : zS_r s (zup s r j x) := fun _ => ⟨zup_ne (fun e f => by omega), zup_ne (fun e f => by omega)⟩
theorem st_inc {s : zE} {r j : Nat} (h : ¬ r = 60 ∨ 2 ≤ j) : zS_r s (yp_inc r j s) := st_zup h
theorem st_dec {s : zE} {r j : Nat} (h : ¬ r = 60 ∨ 2 ≤ j) : zS_r s (yp_dec r j s) := st_zup h
theorem st_flw {s : zE} {w p : Int} : zS_r s (yp_flw w p s) := fun h => by
  unfold yp_flw
  rw [if_neg h]
  exact ⟨rfl, rfl⟩
theorem st_adv {s : zE} : zS_r s (yp_adv s) := fun _ => ⟨rfl, rfl⟩
theorem st_rd {s : zE} {lo hi : Int} : zS_r s (yp_rd lo hi s) := fun h => by
  unfold yp_rd
  rw [if_pos h]
  exact ⟨rfl, rfl⟩
theorem st_rw {s : zE} {lo hi : Int} {r j : Nat} (h : ¬ r = 60) : zS_r s (yp_rw lo hi r j s) := st_tr st_rd (st_zup (Or.inl h))
theorem st_if {s a b : zE} {c : Prop} [Decidable c] (h : zS_r s a) (g : zS_r s b) : zS_r s (if c then a else b) := by
  split
  · exact h
  · exact g
theorem st_sc4 {s : zE} {k : Nat} (hk : k ≤ 4) : zS_r s (yp_scr4 k s) := st_tr (st_rw (by omega)) (st_rw (by omega))
theorem st_sc3 {s : zE} {k : Nat} {g : Int} (hk : k ≤ 4) : zS_r s (yp_scr3 k g s) := st_tr (st_zup (Or.inl (by omega))) (st_tr (st_rw (by omega)) (st_tr (st_rw (by omega)) (st_tr (st_sc4 hk) (st_tr (st_zup (Or.inl (by decide))) (st_inc (Or.inl (by decide)))))))
theorem st_sc2 {s : zE} {k : Nat} {g p : Int} (hk : k ≤ 4) : zS_r s (yp_scr2 k g p s) := st_if st_rf (st_if st_flw (st_sc3 hk))
theorem st_end {s : zE} : zS_r s (yp_end s) := st_tr (st_if st_flw st_rf) (st_tr st_adv (st_inc (Or.inl (by decide))))
theorem st_add {s : zE} {x : Int} : zS_r s (yp_add x s) := st_if (st_tr (st_zup (Or.inl (by decide))) (st_inc (Or.inl (by decide)))) st_rf
theorem st_tie {s : zE} : zS_r s (yp_tie s) := st_if st_flw (st_inc (Or.inl (by decide)))
theorem st_psh {s : zE} {x : Int} : zS_r s (yp_psh x s) := st_if (st_tr (st_zup (Or.inl (by decide))) (st_inc (Or.inr (by decide)))) st_rf
theorem st_unk {rk : Int} : ∀ {k : Nat} {s : zE}, zS_r s (yp_unk rk k s)
  | 0, _ => st_rf
  | _ + 1, _ => st_if (st_tr (st_dec (Or.inr (by decide))) (st_tr st_add st_unk)) st_rf
theorem st_unw {rk : Int} {s : zE} : zS_r s (yp_unw rk s) := st_unk
theorem st_opd {s : zE} : zS_r s (yp_opd s) := st_if (st_tr (st_if st_flw st_rf) (st_tr (st_inc (Or.inr (by decide))) (st_tr st_psh st_adv))) (st_if (st_tr st_tie (st_tr st_psh st_adv)) (st_if (st_tr (st_if st_flw st_rf) (st_tr st_tie (st_tr st_add st_adv))) (st_if (st_tr st_tie (st_tr st_add st_adv)) (st_tr st_flw st_adv))))
theorem st_sg2 {s : zE} : zS_r s (yp_sg2 s) := st_if (st_if (st_tr st_unw st_flw) st_unw) st_unw
theorem st_sgn {s : zE} : zS_r s (yp_sgn s) := st_if (st_tr st_unw (st_tr (st_dec (Or.inr (by decide))) (st_tr (st_dec (Or.inr (by decide))) st_adv))) (st_if st_flw (st_tr st_sg2 (st_tr st_tie (st_tr st_psh st_adv))))
/-- no fault yet, the same token, the same text -/
def yr_Q (s m : zE) : Prop := s 60 0 = 0 ∧ zk_r s m ∧ zl_r s m ∧ s 60 1 = m 0 5 ∧ m 0 4 = 0
theorem yr_adv {s m : zE} (h : yr_Q s m) : yr_Q (yp_adv s) (yq_tok m) := ⟨h.1, (zk_adv h.2.2.1).2.1, (zk_adv h.2.2.1).1, h.2.2.2⟩
theorem yr_lt {s m : zE} (h : yr_Q s m) (w : ¬ yp_adv s 60 6 = 21) : s 60 5 < yp_adv s 60 5 := (zk_adv h.2.2.1).2.2.2.1 w
theorem yr_le {s m : zE} (h : yr_Q s m) : s 60 5 ≤ yp_adv s 60 5 := (zk_adv h.2.2.1).2.2.2.2
theorem yr_us {s m : zE} {r j : Nat} {x : Int} (h : yr_Q s m) (a : ¬ r = 60) (b : ¬ r = 1) : yr_Q (zup s r j x) m := by
  have e : ∀ k, zup s r j x 60 k = s 60 k := fun k => zup_ne (fun e _ => a e.symm)
  have f : ∀ k, zup s r j x 1 k = s 1 k := fun k => zup_ne (fun e _ => b e.symm)
  unfold yr_Q zk_r zl_r at h ⊢
  simp only [e, f]
  exact h
theorem yr_us2 {s m : zE} {j : Nat} {x : Int} (h : yr_Q s m) (a : 9 ≤ j) : yr_Q (zup s 60 j x) m := by
  have e : ∀ k, k < 9 → zup s 60 j x 60 k = s 60 k := fun k hk => zup_ne (fun _ e => by omega)
  have f : ∀ k, zup s 60 j x 1 k = s 1 k := fun k => zup_ne (fun e _ => absurd e (by decide))
  unfold yr_Q zk_r zl_r at h ⊢
  simp only [e 0 (by decide), e 1 (by decide), e 4 (by decide), e 5 (by decide), e 6 (by decide), e 7 (by decide), e 8 (by decide), f]
  exact h
theorem yr_um {s m : zE} {r j : Nat} {x : Int} (h : yr_Q s m) (a : ¬ r = 1) (b : ¬ r = 0 ∨ 10 < j) : yr_Q s (zup m r j x) := by
  have e : ∀ k, 4 ≤ k → k ≤ 10 → zup m r j x 0 k = m 0 k := fun k h1 h2 => zup_ne (fun _ e => by omega)
  have f : ∀ k, zup m r j x 1 k = m 1 k := fun k => zup_ne (fun e _ => a e.symm)
  unfold yr_Q zk_r zl_r at h ⊢
  simp only [e 4 (by decide) (by decide), e 5 (by decide) (by decide), e 6 (by decide) (by decide), e 7 (by decide) (by decide), e 8 (by decide) (by decide), e 9 (by decide) (by decide), e 10 (by decide) (by decide), f]
  exact h
theorem yr_wr {s m : zE} {w : Int} (h : yr_Q s m) (hw : ¬ w = 0) : zF_r (yp_flw w (s 60 7) s) (yq_wr w m) := by
  unfold yp_flw
  rw [if_pos h.1]
  exact ⟨hw, rfl, h.2.1.2.2.1⟩
theorem yr_bnd {s m : zE} (h : yr_Q s m) : 0 ≤ m 0 8 ∧ m 0 8 ≤ 6 := by
  have := h.2.1.2.2.2
  unfold zt_r at this
  omega
/-- a number -/
theorem yr_num {s m : zE} {lo hi : Int} (h : yr_Q s m) (hh : hi ≤ 99999) : (yq_ny lo hi m = 0 ∧ zF_r (yp_rd lo hi s) (yq_ns lo hi m)) ∨ (yq_ny lo hi m = 1 ∧ yp_rd lo hi s = yp_adv s ∧ yq_ns lo hi m = yq_tok (zup m 0 11 (m 0 9)) ∧ yp_ry lo hi s = m 0 9 ∧ lo ≤ m 0 9 ∧ m 0 9 ≤ hi ∧ ¬ s 60 6 = 21) := by
  have hk := h.2.1.2.2.2
  have k1 : s 60 6 = 16 ↔ m 0 8 = 3 := by unfold zt_r at hk; omega
  unfold yq_ny yq_ns yp_rd yp_ry
  simp only [if_neg (show ¬ ¬ s 60 0 = 0 from fun w => w h.1)]
  by_cases q : m 0 8 = 3
  · have q2 := k1.mpr q
    have hn : zn_r (s 60 8) (m 0 9) := by
      unfold zt_r at hk
      rcases hk with hk | hk | hk | hk | hk | hk | hk | hk | hk | hk <;> first | (exfalso; omega) | exact hk.2.2
    unfold zn_r at hn
    simp only [if_neg (show ¬ ¬ m 0 8 = 3 from fun w => w q), if_neg (show ¬ ¬ s 60 6 = 16 from fun w => w q2)]
    by_cases q3 : m 0 9 < lo ∨ hi < m 0 9
    · simp only [if_pos q3, if_pos (show s 60 8 < lo ∨ hi < s 60 8 by omega)]
      exact Or.inl ⟨trivial, yr_wr h (by decide)⟩
    · simp only [if_neg q3, if_neg (show ¬ (s 60 8 < lo ∨ hi < s 60 8) by omega)]
      exact Or.inr ⟨trivial, trivial, trivial, by omega, by omega, by omega, by omega⟩
  · simp only [if_pos q, if_pos (show ¬ s 60 6 = 16 from fun w => q (k1.mp w))]
    exact Or.inl ⟨trivial, yr_wr h (by decide)⟩
/-- a number is read and laid, on both sides -/
theorem yr_rw {s m : zE} {lo hi : Int} {r j : Nat} (h : yr_Q s m) (hh : hi ≤ 99999) (hr : ¬ r = 60) (hr1 : ¬ r = 1) : (yq_ny lo hi m = 0 ∧ zF_r (yp_rw lo hi r j s) (yq_ns lo hi m)) ∨ (yq_ny lo hi m = 1 ∧ yp_rw lo hi r j s = zup (yp_adv s) r j (m 0 9) ∧ yq_ns lo hi m = yq_tok (zup m 0 11 (m 0 9)) ∧ lo ≤ m 0 9 ∧ m 0 9 ≤ hi ∧ yr_Q (yp_rw lo hi r j s) (yq_ns lo hi m) ∧ ¬ s 60 6 = 21) := by
  unfold yp_rw
  rcases yr_num (lo := lo) h hh with a | a
  · exact Or.inl ⟨a.1, st_F a.2 (st_zup (Or.inl hr))⟩
  · obtain ⟨a1, a2, a3, a4, a5, a6, a7⟩ := a
    rw [a2, a3, a4]
    exact Or.inr ⟨a1, rfl, rfl, a5, a6, yr_us (yr_adv (yr_um h (by decide) (Or.inr (by decide)))) hr hr1, a7⟩
