/-! The model's lines and laws, answer and state together, as the program goes. -/
def yq_no (w : Int) (s : zE) : Int × zE := (0, yq_wr w s)
def yq_nt (lo hi : Int) (s : zE) (f : zE → Int × zE) : Int × zE := if yq_ny lo hi s = 0 then (0, yq_ns lo hi s) else f (yq_ns lo hi s)
def yq_grl (s : zE) : Int × zE := if s 0 16 = 12 then yq_no 2 s else
  yq_nt 1 9 (yq_tok s) (fun s => yq_nt 0 9 (zup s 5 (zd 0 1 12 (s 0 16)).toNat (s 0 11)) (fun s => (1, yq_inc 0 16 (zup s 6 (zd 0 1 12 (s 0 16)).toNat (s 0 11)))))
def yq_sc5 (k : Nat) (s : zE) : Int × zE := yq_nt 1 9 (zup s 10 k (s 0 11)) (fun s => (1, yq_inc 0 17 (zup s 11 k (s 0 11))))
def yq_sc4 (k : Nat) (s : zE) : Int × zE := yq_nt 0 (zd 0 2 100 (s 8 k)) s (yq_sc5 k)
def yq_sc3 (k : Nat) (s : zE) : Int × zE := yq_nt 1 9 (zup s 8 k (s 0 11)) (fun s => yq_sc4 k (zup s 9 k (s 0 11)))
def yq_sc2 (k : Nat) (p : Int) (s : zE) : Int × zE := if 0 ≤ yp_fd (fun k => s 7 (4 + k)) (s 0 11) (s 0 17).toNat (s 0 17).toNat then yq_no 3 (zup s 0 10 p) else yq_nt 0 100 (zup s 7 k (s 0 11)) (yq_sc3 k)
def yq_scl (s : zE) : Int × zE := if s 0 17 = 4 then yq_no 2 s else
  yq_nt 0 11 (yq_tok s) (yq_sc2 (zd 0 1 4 (yq_tok s 0 17)).toNat (yq_tok s 0 10))
def yq_gu4 (g : Nat) (s : zE) : Int × zE := yq_nt 0 99 (zup s 14 g (s 0 11)) (fun s => (1, yq_inc 0 18 (zup s 15 g (s 0 11))))
def yq_gu3 (g : Nat) (s : zE) : Int × zE := yq_nt 1 9 (yq_tok (zup s 12 g (s 0 9))) (fun s => yq_nt 0 9 (zup s 13 g (s 0 11)) (yq_gu4 g))
def yq_gu2 (s : zE) : Int × zE := if ¬ s 0 8 = 2 then yq_no 1 s else if 0 ≤ yp_fd (fun k => s 12 (4 + k)) (s 0 9) (s 0 18).toNat (s 0 18).toNat then yq_no 3 s else yq_gu3 (zd 0 1 4 (s 0 18)).toNat s
def yq_gul (s : zE) : Int × zE := if s 0 18 = 4 then yq_no 2 s else yq_gu2 (yq_tok s)
def yq_onl (k j : Nat) (two : Nat) (most : Int) (s : zE) : Int × zE := if ¬ s 3 k = 0 then yq_no 3 s else
  yq_nt 0 most (yq_tok (zup s 3 k 1)) (fun s => if two = 0 then (1, zup s 4 j (s 0 11)) else yq_nt 0 9 (zup s 4 j (s 0 11)) (fun s => (1, zup s 4 7 (s 0 11))))
/-! laws: 41 waits, 42 helds, 43 brackets, 44 counted, 45 wants, 46 mayNot, 19 knotsRead; rows 19 knot, 20 part, 21 other, 22 wait, 23 held -/
def yq_rk (k : Int) : Int := if 13 ≤ k then 6 else if 11 ≤ k then 5 else if 5 ≤ k then 4 else if k = 2 then 3 else if k = 3 then 2 else if k = 4 then 1 else 0
def yq_gro (k a b : Int) (s : zE) : zE := yq_inc 0 19 (yq_inc 0 42 ((fun s => zup s 23 (s 0 42).toNat (s 0 19)) ((fun s => zup s 21 (zd 0 1 64 (s 0 19)).toNat b) ((fun s => zup s 20 (zd 0 1 64 (s 0 19)).toNat a) (zup s 19 (zd 0 1 64 (s 0 19)).toNat k)))))
def yq_drY (s : zE) : Int := yq_dec 0 42 s 23 (yq_dec 0 42 s 0 42).toNat
def yq_drS (s : zE) : zE := yq_dec 0 42 s
def yq_bi2 (k : Int) (s : zE) : zE := if k = 2 then yq_gro k (yq_drY s) (-1) (yq_drS s) else yq_gro k (yq_drY (yq_drS s)) (yq_drY s) (yq_drS (yq_drS s))
def yq_bi1 (s : zE) : zE := yq_bi2 (yq_dec 0 41 s 22 (yq_dec 0 41 s 0 41).toNat) (yq_dec 0 41 s)
def yq_bik (least : Int) : Nat → zE → zE
  | 0, s => s
  | k + 1, s => if 0 < s 0 41 ∧ least ≤ yq_rk (s 22 (zd 0 2 (s 0 41) 1).toNat) then yq_bik least k (yq_bi1 s) else s
def yq_bin (least : Int) (s : zE) : zE := yq_bik least (s 0 41).toNat s
def yq_cny (s : zE) : Int := if s 0 44 = 64 then 0 else 1
def yq_cns (s : zE) : zE := if s 0 44 = 64 then yq_wr 2 s else yq_inc 0 44 s
def yq_ct (s : zE) (f : zE → Int × zE) : Int × zE := if yq_cny s = 0 then (0, yq_cns s) else f (yq_cns s)
def yq_wai (k : Int) (s : zE) : zE := yq_inc 0 41 (zup s 22 (s 0 41).toNat k)
def yq_lf (s : zE) : Int × zE :=
  if ¬ yq_isS 40 s = 0 then (if s 0 43 = 8 then yq_no 2 s else (1, yq_tok (zup (yq_wai 0 (yq_inc 0 43 s)) 0 46 1)))
  else if ¬ yq_isK 12 s = 0 ∧ ¬ s 0 46 = 0 then yq_ct s (fun s => (1, yq_tok (yq_wai 2 s)))
  else if yq_nm s < 0 ∧ ¬ s 0 8 = 3 then yq_no 1 s
  else if yq_nm s < 0 ∧ 9999 < s 0 9 then yq_no 2 s
  else yq_ct s (fun t => if 0 ≤ yq_nm s then (1, yq_tok (zup (yq_gro 1 (yq_nm s) 0 t) 0 45 0)) else (1, yq_tok (zup (yq_gro 0 (t 0 9) 0 t) 0 45 0)))
def yq_sk (s : zE) : Int := if ¬ yq_isK 10 s = 0 then 3 else if ¬ yq_isK 11 s = 0 then 4 else if s 0 8 = 5 then zd 0 1 5 (s 0 9) else if ¬ yq_isS 43 s = 0 then 11 else if ¬ yq_isS 45 s = 0 then 12 else if ¬ yq_isS 42 s = 0 then 13 else if ¬ yq_isS 47 s = 0 then 14 else 0
def yq_sg3 (k : Int) (s : zE) : Int × zE := yq_ct s (fun s => (1, yq_tok (zup (zup (yq_wai k s) 0 45 1) 0 46 (if yq_rk k < 3 then 1 else 0))))
def yq_sg2 (k : Int) (s : zE) : Int × zE := if yq_rk k = 4 ∧ 0 < s 0 41 ∧ yq_rk (s 22 (zd 0 2 (s 0 41) 1).toNat) = 4 then yq_no 1 s else yq_sg3 k s
def yq_sgB (k : Int) (s : zE) : Int × zE := if k = 0 then yq_no 1 s else yq_sg2 k (yq_bin (if yq_rk k = 4 then 5 else yq_rk k) s)
def yq_sgn (s : zE) : Int × zE := if ¬ yq_isS 41 s = 0 ∧ 0 < s 0 43 then (1, yq_tok (yq_dec 0 43 (yq_dec 0 41 (yq_bin 1 s)))) else yq_sgB (yq_sk s) s
def yq_smi (s : zE) : zE := zup (zup (zup (zup (zup s 0 41 0) 0 42 0) 0 43 0) 0 45 1) 0 46 1
def yq_mu (s : zE) : Nat := (10 * s 0 6 - 10 * s 0 7 + s 0 8).toNat
def yq_lp : Nat → zE → Int × zE
  | 0, s => (0, s)
  | m + 1, s => if ¬ yq_isS 59 s = 0 ∧ s 0 45 = 0 ∧ s 0 43 ≤ 0 then (1, yq_bin 1 s) else if ¬ s 0 45 = 0 then (if (yq_lf s).1 = 0 then (0, (yq_lf s).2) else yq_lp m (yq_lf s).2) else (if (yq_sgn s).1 = 0 then (0, (yq_sgn s).2) else yq_lp m (yq_sgn s).2)
def yq_sum (s : zE) : Int × zE := yq_lp (yq_mu (yq_smi s) + 1) (yq_smi s)
def yq_le (r : Int × zE) : Int × zE := if r.1 = 0 then (0, r.2) else if yq_isS 59 r.2 = 0 then yq_no 1 r.2 else (1, yq_tok r.2)
def yq_lw2 (k : Nat) (s : zE) : Int × zE := yq_le ((yq_sum (zup s 17 k (s 0 19))).1, zup (yq_sum (zup s 17 k (s 0 19))).2 18 k ((yq_sum (zup s 17 k (s 0 19))).2 0 19))
def yq_lw1 (k : Nat) (s : zE) : Int × zE := if ¬ s 16 k = 0 then yq_no 3 s else yq_lw2 k (yq_tok (zup s 16 k 1))
def yq_law (s : zE) : Int × zE := if ¬ s 0 8 = 1 ∨ s 0 9 < 7 ∨ 9 < s 0 9 then yq_no 1 s else yq_lw1 (zd 0 2 (zd 0 1 3 (s 0 9)) 7).toNat s
def yq_lnr (s : zE) : Int × zE := if ¬ s 0 8 = 1 ∨ 6 < s 0 9 then yq_no 1 s else
  if s 0 9 = 0 then yq_le (yq_grl s) else if s 0 9 = 1 then yq_le (yq_scl s) else if s 0 9 = 2 then yq_le (yq_gul s) else if s 0 9 = 3 then yq_le (yq_onl 0 4 0 9 s) else if s 0 9 = 4 then yq_le (yq_onl 1 5 1 99 s) else if s 0 9 = 5 then yq_le (yq_onl 2 6 0 99999 s) else yq_law (yq_tok s)
def yq_pln (s : zE) : zE := zup (zup (zup (zup (zup (zup (zup (zup (zup (zup (zup (zup (zup (zup (zup s 0 16 0) 0 17 0) 0 18 0) 0 19 0) 0 44 0) 3 0 0) 16 3 0) 3 1 0) 16 4 0) 3 2 0) 16 5 0) 4 4 3) 4 5 0) 4 6 0) 4 7 0
def yq_ini (n : Int) (s : zE) : zE := zup (zup (zup (zup (zup (zup s 0 2 0) 0 6 n) 0 1 0) 0 4 0) 0 5 (-1)) 0 7 0
def yq_rdl : Nat → Int → zE → Int × zE
  | 0, _, s => (-1, s)
  | m + 1, l, s => if s 0 8 = 0 then (l, s) else if (yq_lnr s).1 = 0 then (-1, (yq_lnr s).2) else yq_rdl m (zd 0 1 l 1) (yq_lnr s).2
def yq_ist (n : Int) (s : zE) : zE := yq_tok (yq_pln (yq_ini n s))
def yq_R (n : Int) (s : zE) : Int × zE := yq_rdl (yq_mu (yq_ist n s) + 1) 0 (yq_ist n s)
/-! loops of the model's laws and lines -/
theorem qik_x {l : Int} {s : zE} (h : ¬ (0 < s 0 41 ∧ l ≤ yq_rk (s 22 (zd 0 2 (s 0 41) 1).toNat))) : yq_bik l (s 0 41).toNat s = s := by
  cases hk : (s 0 41).toNat with
  | zero => rw [yq_bik]
  | succ k => rw [yq_bik, if_neg h]
theorem qbi_w {s : zE} : yq_bi1 s 0 41 = zd 0 2 (s 0 41) 1 := by
  unfold yq_bi1 yq_bi2
  split <;> rfl
theorem qik_s {l : Int} {s s' : zE} (h0 : 0 < s 0 41) (h1 : s 0 41 ≤ 96) (h : l ≤ yq_rk (s 22 (zd 0 2 (s 0 41) 1).toNat)) (e : s' = yq_bi1 s) : yq_bik l (s 0 41).toNat s = yq_bik l (s' 0 41).toNat s' := by
  have g : s' 0 41 = s 0 41 - 1 := by
    rw [e, qbi_w]
    exact zd_s ⟨by omega, by omega⟩
  rw [g, show (s 0 41).toNat = (s 0 41 - 1).toNat + 1 by omega, yq_bik, if_pos ⟨h0, h⟩, ← e]
def yq_lI (η0 η : zE) : Prop := ∃ m, yq_mu η < m ∧ yq_sum η0 = yq_lp m η
theorem qlI_0 {η0 η : zE} (h : η = yq_smi η0) : yq_lI η0 η := ⟨yq_mu (yq_smi η0) + 1, by rw [h]; omega, by rw [h]; rfl⟩
theorem qlI_e {η0 η : zE} (h : yq_lI η0 η) (c : ¬ yq_isS 59 η = 0 ∧ η 0 45 = 0 ∧ η 0 43 ≤ 0) : yq_sum η0 = (1, yq_bin 1 η) := by
  obtain ⟨m, h1, h2⟩ := h
  obtain ⟨k, rfl⟩ : ∃ k, m = k + 1 := ⟨m - 1, by omega⟩
  rw [h2, yq_lp, if_pos c]
theorem qlI_l {η0 η : zE} (h : yq_lI η0 η) (c : yq_isS 59 η = 0 ∨ ¬ η 0 45 = 0 ∨ 0 < η 0 43) (w : ¬ η 0 45 = 0) : ((yq_lf η).1 = 0 → yq_sum η0 = (0, (yq_lf η).2)) ∧ (¬ (yq_lf η).1 = 0 → yq_mu (yq_lf η).2 < yq_mu η → yq_lI η0 (yq_lf η).2) := by
  obtain ⟨m, h1, h2⟩ := h
  obtain ⟨k, rfl⟩ : ∃ k, m = k + 1 := ⟨m - 1, by omega⟩
  rw [yq_lp, if_neg (by omega), if_pos w] at h2
  exact ⟨fun q => by rw [h2, if_pos q], fun q u => ⟨k, by omega, by rw [h2, if_neg q]⟩⟩
theorem qlI_s {η0 η : zE} (h : yq_lI η0 η) (c : yq_isS 59 η = 0 ∨ ¬ η 0 45 = 0 ∨ 0 < η 0 43) (w : η 0 45 = 0) : ((yq_sgn η).1 = 0 → yq_sum η0 = (0, (yq_sgn η).2)) ∧ (¬ (yq_sgn η).1 = 0 → yq_mu (yq_sgn η).2 < yq_mu η → yq_lI η0 (yq_sgn η).2) := by
  obtain ⟨m, h1, h2⟩ := h
  obtain ⟨k, rfl⟩ : ∃ k, m = k + 1 := ⟨m - 1, by omega⟩
  rw [yq_lp, if_neg (by omega), if_neg (fun x => x w)] at h2
  exact ⟨fun q => by rw [h2, if_pos q], fun q u => ⟨k, by omega, by rw [h2, if_neg q]⟩⟩
/-- find's loop -/
def yq_fI (η0 : zE) (r : Nat) (n x i : Int) (η : zE) : Prop := η = η0 ∧ 0 ≤ i ∧ yp_fd (fun k => η0 r (4 + k)) x n.toNat n.toNat = yp_fd (fun k => η0 r (4 + k)) x n.toNat (n.toNat - i.toNat)
theorem qfI_e {η0 η : zE} {r : Nat} {n x i : Int} (h : yq_fI η0 r n x i η) (c : n ≤ i) : -1 = yp_fd (fun k => η0 r (4 + k)) x n.toNat n.toNat ∧ η = η0 := by
  obtain ⟨h1, h2, h3⟩ := h
  exact ⟨by rw [h3, yfd_e (by omega)], h1⟩
theorem qfI_t {η0 η : zE} {r : Nat} {n x i : Int} (h : yq_fI η0 r n x i η) (c : i < n) (e : η r (4 + i).toNat = x) : i = yp_fd (fun k => η0 r (4 + k)) x n.toNat n.toNat ∧ η = η0 := by
  obtain ⟨h1, h2, h3⟩ := h
  refine ⟨?_, h1⟩
  rw [h3, yfd_0 (by omega), if_pos (by rw [← h1, ← e]; congr 1; omega)]
  omega
theorem qfI_n {η0 η : zE} {r : Nat} {n x i : Int} (h : yq_fI η0 r n x i η) (c : i < n) (e : ¬ η r (4 + i).toNat = x) : yq_fI η0 r n x (i + 1) η := by
  obtain ⟨h1, h2, h3⟩ := h
  refine ⟨h1, by omega, ?_⟩
  rw [h3, yfd_0 (by omega), if_neg (fun w => e (by rw [← w, ← h1]; congr 1; omega)), show (i + 1).toNat = i.toNat + 1 by omega]
