/-! What the model's reader leaves of the sheet that is kept. -/
def hK_r (m s : zE) : Prop := ∀ r j, ((r = 5 ∨ r = 6) ∧ j < 12) ∨ ((r = 4 ∨ (7 ≤ r ∧ r ≤ 15)) ∧ j < 4) ∨ (r = 0 ∧ 12 ≤ j ∧ j ≤ 15) → s r j = m r j
def hB_r (m : zE) : Prop := (0 ≤ m 0 16 ∧ m 0 16 ≤ 12) ∧ (0 ≤ m 0 17 ∧ m 0 17 ≤ 4) ∧ 0 ≤ m 0 18 ∧ m 0 18 ≤ 4
def hC_r (m s : zE) : Prop := hK_r m s ∧ s 0 16 = m 0 16 ∧ s 0 17 = m 0 17 ∧ s 0 18 = m 0 18
def hL_r (m : zE) (r : Int × zE) : Prop := hK_r m r.2 ∧ hB_r r.2
/-- a cell that may be written -/
def hW_r (r j : Nat) : Prop := ((r = 5 ∨ r = 6) → 12 ≤ j) ∧ ((r = 4 ∨ (7 ≤ r ∧ r ≤ 15)) → 4 ≤ j) ∧ (r = 0 → j < 12 ∨ 18 < j)
theorem hC_rf {m : zE} : hC_r m m := ⟨fun _ _ _ => rfl, rfl, rfl, rfl⟩
theorem hC_zup {m s : zE} {r j : Nat} {x : Int} (h : hC_r m s) (w : hW_r r j) : hC_r m (zup s r j x) := by
  obtain ⟨h1, h2, h3, h4⟩ := h
  obtain ⟨w1, w2, w3⟩ := w
  refine ⟨fun r' j' q => ?_, ?_, ?_, ?_⟩
  · rw [zup_ne (fun e f => by omega)]
    exact h1 r' j' q
  · rw [zup_ne (fun e f => by omega)]; exact h2
  · rw [zup_ne (fun e f => by omega)]; exact h3
  · rw [zup_ne (fun e f => by omega)]; exact h4
theorem hC_o {m s : zE} {j : Nat} {x : Int} (h : hC_r m s) (w : j < 12 ∨ 18 < j) : hC_r m (zup s 0 j x) := hC_zup h ⟨fun q => by omega, fun q => by omega, fun _ => w⟩
theorem hC_hi {m s : zE} {r j : Nat} {x : Int} (h : hC_r m s) (w : 16 ≤ r ∨ r = 3) : hC_r m (zup s r j x) := hC_zup h ⟨fun q => by omega, fun q => by omega, fun q => by omega⟩
theorem hC_tok {m s : zE} (h : hC_r m s) : hC_r m (yq_tok s) := hC_o (hC_o (hC_o (hC_o h (by decide)) (by decide)) (by decide)) (by decide)
theorem hC_wr {m s : zE} {w : Int} (h : hC_r m s) : hC_r m (yq_wr w s) := hC_o (hC_o h (by decide)) (by decide)
theorem hC_if {m a b : zE} {c : Prop} [Decidable c] (h : hC_r m a) (g : hC_r m b) : hC_r m (if c then a else b) := by
  split
  · exact h
  · exact g
theorem hC_ns {m s : zE} {lo hi : Int} (h : hC_r m s) : hC_r m (yq_ns lo hi s) := hC_if (hC_wr h) (hC_if (hC_wr h) (hC_tok (hC_o h (by decide))))
theorem hC_L {m s : zE} {y : Int} (b : hB_r m) (h : hC_r m s) : hL_r m (y, s) := ⟨h.1, by unfold hB_r; dsimp only; rw [h.2.1, h.2.2.1, h.2.2.2]; exact b⟩
theorem hL_no {m s : zE} {w : Int} (b : hB_r m) (h : hC_r m s) : hL_r m (yq_no w s) := hC_L b (hC_wr h)
theorem hL_if {m : zE} {x y : Int × zE} {c : Prop} [Decidable c] (h : c → hL_r m x) (g : ¬ c → hL_r m y) : hL_r m (if c then x else y) := by
  split
  · exact h (by assumption)
  · exact g (by assumption)
theorem hL_nt {m s : zE} {lo hi : Int} {f : zE → Int × zE} (b : hB_r m) (h : hC_r m s) (g : ∀ t, hC_r m t → hL_r m (f t)) : hL_r m (yq_nt lo hi s f) := hL_if (fun _ => hC_L b (hC_ns h)) (fun _ => g _ (hC_ns h))
theorem hx_12 {x : Int} (h : 0 ≤ x ∧ x ≤ 12) : 12 ≤ (zd 0 1 12 x).toNat := by rw [show zd 0 1 12 x = 12 + x from zd_a ⟨by omega, by omega⟩]; omega
theorem hx_4 {x : Int} (h : 0 ≤ x ∧ x ≤ 4) : 4 ≤ (zd 0 1 4 x).toNat := by rw [show zd 0 1 4 x = 4 + x from zd_a ⟨by omega, by omega⟩]; omega
theorem hL_in {m s : zE} {j : Nat} {v : Int} (b : hB_r m) (h : hC_r m s) (w : (j = 16 ∧ ¬ m 0 16 = 12) ∨ (j = 17 ∧ ¬ m 0 17 = 4) ∨ (j = 18 ∧ ¬ m 0 18 = 4)) : hL_r m (v, yq_inc 0 j s) := by
  obtain ⟨h1, h2, h3, h4⟩ := h
  obtain ⟨b1, b2, b3⟩ := b
  unfold yq_inc
  refine ⟨fun r' j' q => ?_, ?_⟩
  · dsimp only
    rw [zup_ne (fun e f => by omega)]
    exact h1 r' j' q
  · unfold hB_r
    dsimp only
    rcases w with ⟨rfl, w⟩ | ⟨rfl, w⟩ | ⟨rfl, w⟩
    · rw [zup_eq, zup_ne (fun _ f => absurd f (by decide)), zup_ne (fun _ f => absurd f (by decide)), zd_1 (by omega) (by omega), h2, h3, h4]
      exact ⟨by omega, b2, b3⟩
    · rw [zup_ne (fun _ f => absurd f (by decide)), zup_eq, zup_ne (fun _ f => absurd f (by decide)), zd_1 (by omega) (by omega), h2, h3, h4]
      exact ⟨b1, by omega, b3⟩
    · rw [zup_ne (fun _ f => absurd f (by decide)), zup_ne (fun _ f => absurd f (by decide)), zup_eq, zd_1 (by omega) (by omega), h2, h3, h4]
      exact ⟨b1, b2, by omega⟩
theorem hW_5 {j : Nat} {r : Nat} (hr : r = 5 ∨ r = 6) (h : 12 ≤ j) : hW_r r j := ⟨fun _ => h, fun q => by omega, fun q => by omega⟩
theorem hW_7 {j : Nat} {r : Nat} (hr : r = 4 ∨ (7 ≤ r ∧ r ≤ 15)) (h : 4 ≤ j) : hW_r r j := ⟨fun q => by omega, fun _ => h, fun q => by omega⟩
theorem hL_grl {m : zE} (b : hB_r m) : hL_r m (yq_grl m) := hL_if (fun _ => hL_no b hC_rf) (fun w => hL_nt b (hC_tok hC_rf) (fun s h => hL_nt b (hC_zup h (hW_5 (Or.inl rfl) (hx_12 (by rw [h.2.1]; exact b.1)))) (fun s h => hL_in b (hC_zup h (hW_5 (Or.inr rfl) (hx_12 (by rw [h.2.1]; exact b.1)))) (Or.inl ⟨rfl, w⟩))))
theorem hL_scl {m : zE} (b : hB_r m) : hL_r m (yq_scl m) := hL_if (fun _ => hL_no b hC_rf) (fun w => by
  have k4 : 4 ≤ (zd 0 1 4 (yq_tok m 0 17)).toNat := hx_4 (by rw [tok_f0 (by omega)]; exact b.2.1)
  generalize (zd 0 1 4 (yq_tok m 0 17)).toNat = k at *
  exact hL_nt b (hC_tok hC_rf) (fun s h => hL_if (fun _ => hL_no b (hC_o h (by decide))) (fun _ => hL_nt b (hC_zup h (hW_7 (Or.inr (by decide)) k4)) (fun s h => hL_nt b (hC_zup h (hW_7 (Or.inr (by decide)) k4)) (fun s h => hL_nt b (hC_zup h (hW_7 (Or.inr (by decide)) k4)) (fun s h => hL_nt b (hC_zup h (hW_7 (Or.inr (by decide)) k4)) (fun s h => hL_in b (hC_zup h (hW_7 (Or.inr (by decide)) k4)) (Or.inr (Or.inl ⟨rfl, w⟩)))))))))
theorem hL_gul {m : zE} (b : hB_r m) : hL_r m (yq_gul m) := hL_if (fun _ => hL_no b hC_rf) (fun w => by
  have k4 : 4 ≤ (zd 0 1 4 (yq_tok m 0 18)).toNat := hx_4 (by rw [tok_f0 (by omega)]; exact b.2.2)
  have h0 : hC_r m (yq_tok m) := hC_tok hC_rf
  unfold yq_gu2
  generalize (zd 0 1 4 (yq_tok m 0 18)).toNat = k at *
  exact hL_if (fun _ => hL_no b h0) (fun _ => hL_if (fun _ => hL_no b h0) (fun _ => hL_nt b (hC_tok (hC_zup h0 (hW_7 (Or.inr (by decide)) k4))) (fun s h => hL_nt b (hC_zup h (hW_7 (Or.inr (by decide)) k4)) (fun s h => hL_nt b (hC_zup h (hW_7 (Or.inr (by decide)) k4)) (fun s h => hL_in b (hC_zup h (hW_7 (Or.inr (by decide)) k4)) (Or.inr (Or.inr ⟨rfl, w⟩))))))))
theorem hL_onl {m : zE} {k j two : Nat} {most : Int} (b : hB_r m) (hj : 4 ≤ j) : hL_r m (yq_onl k j two most m) := hL_if (fun _ => hL_no b hC_rf) (fun _ => hL_nt b (hC_tok (hC_hi hC_rf (Or.inr rfl))) (fun s h => hL_if (fun _ => hC_L b (hC_zup h (hW_7 (Or.inl rfl) hj))) (fun _ => hL_nt b (hC_zup h (hW_7 (Or.inl rfl) hj)) (fun s h => hC_L b (hC_zup h (hW_7 (Or.inl rfl) (by decide)))))))
theorem hC_gro {m s : zE} {k a c : Int} (h : hC_r m s) : hC_r m (yq_gro k a c s) := hC_o (hC_o (hC_hi (hC_hi (hC_hi (hC_hi h (Or.inl (by decide))) (Or.inl (by decide))) (Or.inl (by decide))) (Or.inl (by decide))) (by decide)) (by decide)
theorem hC_bi1 {m s : zE} (h : hC_r m s) : hC_r m (yq_bi1 s) := hC_if (hC_gro (hC_o (hC_o h (by decide)) (by decide))) (hC_gro (hC_o (hC_o (hC_o h (by decide)) (by decide)) (by decide)))
theorem hC_bik {m : zE} {l : Int} : ∀ {k : Nat} {s : zE}, hC_r m s → hC_r m (yq_bik l k s)
  | 0, _, h => h
  | _ + 1, _, h => hC_if (hC_bik (hC_bi1 h)) h
theorem hC_bin {m s : zE} {l : Int} (h : hC_r m s) : hC_r m (yq_bin l s) := hC_bik h
theorem hC_cns {m s : zE} (h : hC_r m s) : hC_r m (yq_cns s) := hC_if (hC_wr h) (hC_o h (by decide))
theorem hC_wai {m s : zE} {k : Int} (h : hC_r m s) : hC_r m (yq_wai k s) := hC_o (hC_hi h (Or.inl (by decide))) (by decide)
def hP_r (m : zE) (r : Int × zE) : Prop := hC_r m r.2
theorem hP_if {m : zE} {x y : Int × zE} {c : Prop} [Decidable c] (h : hP_r m x) (g : hP_r m y) : hP_r m (if c then x else y) := by
  split
  · exact h
  · exact g
theorem hP_ct {m s : zE} {f : zE → Int × zE} (h : hC_r m s) (g : ∀ t, hC_r m t → hP_r m (f t)) : hP_r m (yq_ct s f) := hP_if (hC_cns h) (g _ (hC_cns h))
theorem hP_lf {m s : zE} (h : hC_r m s) : hP_r m (yq_lf s) := hP_if (hP_if (hC_wr h) (hC_tok (hC_o (hC_wai (hC_o h (by decide))) (by decide)))) (hP_if (hP_ct h (fun _ h => hC_tok (hC_wai h))) (hP_if (hC_wr h) (hP_if (hC_wr h) (hP_ct h (fun _ h => hP_if (hC_tok (hC_o (hC_gro h) (by decide))) (hC_tok (hC_o (hC_gro h) (by decide))))))))
theorem hP_sgn {m s : zE} (h : hC_r m s) : hP_r m (yq_sgn s) := hP_if (hC_tok (hC_o (hC_o (hC_bin h) (by decide)) (by decide))) (hP_if (hC_wr h) (hP_if (hC_wr (hC_bin h)) (hP_ct (hC_bin h) (fun _ h => hC_tok (hC_o (hC_o (hC_wai h) (by decide)) (by decide))))))
theorem hP_lp {m : zE} : ∀ {k : Nat} {s : zE}, hC_r m s → hP_r m (yq_lp k s)
  | 0, _, h => h
  | _ + 1, _, h => hP_if (hC_bin h) (hP_if (hP_if (hP_lf h) (hP_lp (hP_lf h))) (hP_if (hP_sgn h) (hP_lp (hP_sgn h))))
theorem hP_sum {m s : zE} (h : hC_r m s) : hP_r m (yq_sum s) := hP_lp (hC_o (hC_o (hC_o (hC_o (hC_o h (by decide)) (by decide)) (by decide)) (by decide)) (by decide))
theorem hP_le {m : zE} {r : Int × zE} (h : hP_r m r) : hP_r m (yq_le r) := hP_if h (hP_if (hC_wr h) (hC_tok h))
theorem hP_law {m s : zE} (h : hC_r m s) : hP_r m (yq_law s) := hP_if (hC_wr h) (hP_if (hC_wr h) (hP_le (hC_hi (hP_sum (hC_hi (hC_tok (hC_hi h (Or.inl (by decide)))) (Or.inl (by decide)))) (Or.inl (by decide)))))
theorem hL_le {m : zE} {r : Int × zE} (h : hL_r m r) : hL_r m (yq_le r) := by
  have t : ∀ s : zE, hK_r m s ∧ hB_r s → hK_r m (yq_tok s) ∧ hB_r (yq_tok s) := fun s h => by
    have g := hC_tok (m := s) hC_rf
    exact ⟨fun r j q => (g.1 r j q).trans (h.1 r j q), by unfold hB_r; rw [g.2.1, g.2.2.1, g.2.2.2]; exact h.2⟩
  have u : ∀ s : zE, hK_r m s ∧ hB_r s → hK_r m (yq_wr 1 s) ∧ hB_r (yq_wr 1 s) := fun s h => by
    have g := hC_wr (m := s) (w := 1) hC_rf
    exact ⟨fun r j q => (g.1 r j q).trans (h.1 r j q), by unfold hB_r; rw [g.2.1, g.2.2.1, g.2.2.2]; exact h.2⟩
  exact hL_if (fun _ => h) (fun _ => hL_if (fun _ => u _ h) (fun _ => t _ h))
theorem hL_lnr {m : zE} (b : hB_r m) : hL_r m (yq_lnr m) := hL_if (fun _ => hL_no b hC_rf) (fun _ => hL_if (fun _ => hL_le (hL_grl b)) (fun _ => hL_if (fun _ => hL_le (hL_scl b)) (fun _ => hL_if (fun _ => hL_le (hL_gul b)) (fun _ => hL_if (fun _ => hL_le (hL_onl b (by decide))) (fun _ => hL_if (fun _ => hL_le (hL_onl b (by decide))) (fun _ => hL_if (fun _ => hL_le (hL_onl b (by decide))) (fun _ => hC_L b (hP_law (hC_tok hC_rf)))))))))
theorem hL_rdl {m : zE} : ∀ {k : Nat} {l : Int} {s : zE}, hK_r m s → hB_r s → hK_r m (yq_rdl k l s).2
  | 0, _, _, h, _ => h
  | k + 1, l, s, h, b => by
    have g := hL_lnr b
    have h2 : hK_r m (yq_lnr s).2 := fun r j q => (g.1 r j q).trans (h r j q)
    rw [yq_rdl]
    split
    · exact h
    · split
      · exact h2
      · exact hL_rdl h2 g.2
theorem hK_R {n : Int} {m : zE} : hK_r m (yq_R n m).2 := by
  unfold yq_R yq_ist
  have i : hK_r m (yq_pln (yq_ini n m)) ∧ hB_r (yq_pln (yq_ini n m)) := by
    refine ⟨fun r j q => ?_, ⟨Int.le_refl 0, show (0 : Int) ≤ 12 by decide⟩, ⟨Int.le_refl 0, show (0 : Int) ≤ 4 by decide⟩, Int.le_refl 0, show (0 : Int) ≤ 4 by decide⟩
    unfold yq_pln yq_ini
    rw [zup_ne (fun e f => by omega), zup_ne (fun e f => by omega), zup_ne (fun e f => by omega), zup_ne (fun e f => by omega), zup_ne (fun e f => by omega), zup_ne (fun e f => by omega), zup_ne (fun e f => by omega), zup_ne (fun e f => by omega), zup_ne (fun e f => by omega), zup_ne (fun e f => by omega), zup_ne (fun e f => by omega), zup_ne (fun e f => by omega), zup_ne (fun e f => by omega), zup_ne (fun e f => by omega), zup_ne (fun e f => by omega), zup_ne (fun e f => by omega), zup_ne (fun e f => by omega), zup_ne (fun e f => by omega), zup_ne (fun e f => by omega), zup_ne (fun e f => by omega), zup_ne (fun e f => by omega)]
  have g := hC_tok (m := yq_pln (yq_ini n m)) hC_rf
  exact hL_rdl (fun r j q => (g.1 r j q).trans (i.1 r j q)) (by unfold hB_r; rw [g.2.1, g.2.2.1, g.2.2.2]; exact i.2)
