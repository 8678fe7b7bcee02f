/-! The face's plain answers on both sides: names, tapes. -/
def yv_ad (a b c d : Int) (s : zE) : zE := if 24 ≤ s 95 0 then s else yp_inc 95 0 ((fun s => zup s 99 (s 95 0).toNat d) ((fun s => zup s 98 (s 95 0).toNat c) ((fun s => zup s 97 (s 95 0).toNat b) (zup s 96 (s 95 0).toNat a))))
def yv_ay (s : zE) : Int := if 24 ≤ s 95 0 then -1 else zd 0 2 (zd 0 1 (s 95 0) 1) 1
def yv_ig (g : Int) (s : zE) : Int := if 0 ≤ g ∧ g < s 2 1 then 1 else 0
def yv_tp (t g i : Int) (s : zE) : Int × zE := if yq_in t 1 60 = 0 then (-1, s) else if yv_ig g s = 0 then (-1, s) else (yv_ay s, yv_ad t g i (-1) s)
def yv_sk (k : Int) (s : zE) : Int × zE := if k < 0 ∨ s 95 0 ≤ k then (-1, s) else (yv_ay s, yv_ad 0 (-1) 0 k s)
def yv_kn (n : Int) (s : zE) : Int × zE := if yq_in n (-1) (s 95 0) = 0 then (0, s) else (1, zup s 95 1 n)
def yv_gI (η0 : zE) (x0 x i : Int) (η : zE) : Prop := η = η0 ∧ x = x0 ∧ 0 ≤ i ∧ yp_fd (η0 16) x0 (η0 2 3).toNat (η0 2 3).toNat = yp_fd (η0 16) x0 (η0 2 3).toNat ((η0 2 3).toNat - i.toNat)
def yv_nm (x : Int) (s : zE) : Int := yp_fd (s 16) x (s 2 3).toNat (s 2 3).toNat
/-! the model -/
def yw_fI (η0 : zE) (r : Nat) (n x i : Int) (η : zE) : Prop := η = η0 ∧ 0 ≤ i ∧ yp_fd (η0 r) x n.toNat n.toNat = yp_fd (η0 r) x n.toNat (n.toNat - i.toNat)
theorem wfI_e {η0 η : zE} {r : Nat} {n x i : Int} (h : yw_fI η0 r n x i η) (c : n ≤ i) : -1 = yp_fd (η0 r) x n.toNat n.toNat ∧ η = η0 := by
  obtain ⟨h1, h2, h3⟩ := h
  exact ⟨by rw [h3, yfd_e (by omega)], h1⟩
theorem wfI_t {η0 η : zE} {r : Nat} {n x i : Int} (h : yw_fI η0 r n x i η) (c : i < n) (e : η r i.toNat = x) : i = yp_fd (η0 r) x n.toNat n.toNat ∧ η = η0 := by
  obtain ⟨h1, h2, h3⟩ := h
  refine ⟨?_, h1⟩
  rw [h3, yfd_0 (by omega), if_pos (by rw [← h1, ← e])]
  omega
theorem wfI_n {η0 η : zE} {r : Nat} {n x i : Int} (h : yw_fI η0 r n x i η) (c : i < n) (e : ¬ η r i.toNat = x) : yw_fI η0 r n x (i + 1) η := by
  obtain ⟨h1, h2, h3⟩ := h
  refine ⟨h1, by omega, ?_⟩
  rw [h3, yfd_0 (by omega), if_neg (fun w => e (by rw [← w, ← h1])), show (i + 1).toNat = i.toNat + 1 by omega]
def yw_ig (g : Int) (s : zE) : Int := if 0 ≤ g ∧ g < s 0 12 then 1 else 0
def yw_no (t g i : Int) (s : zE) : zE := yq_inc 0 74 ((fun s => zup s 38 (zd 0 1 (zd 0 3 3 (s 0 74)) 2).toNat i) ((fun s => zup s 38 (zd 0 1 (zd 0 3 3 (s 0 74)) 1).toNat g) (zup s 38 (zd 0 3 3 (s 0 74)).toNat t)))
def yw_ny (s : zE) : Int := zd 0 2 (zd 0 1 (s 0 74) 1) 1
def yw_tp (t g i : Int) (s : zE) : Int × zE := if s 0 74 = 24 then (-1, s) else if yq_in t 1 60 = 0 then (-1, s) else if yw_ig g s = 0 then (-1, s) else if i = 0 then (yw_ny s, yw_no t g 0 s) else (yw_ny s, yw_no t g 1 s)
def yw_sk (k : Int) (s : zE) : Int × zE := if s 0 74 = 24 ∨ k < 0 ∨ s 0 74 ≤ k then (-1, s) else (yw_ny s, yw_no (-1) k 0 s)
def yw_kn (n : Int) (s : zE) : Int × zE := if yq_in n (-1) (s 0 74) = 0 then (0, s) else (1, zup s 0 75 n)
/-! lines, counted -/
def yq_rK (n : Int) (η0 : zE) (l : Int) (η : zE) : Prop := ∃ m : Nat, yq_mu η < m ∧ yq_R n η0 = yq_rdl m l η ∧ 0 ≤ l ∧ l + m ≤ 8000
theorem qrK_0 {n : Int} {η0 η : zE} (h : η = yq_ist n η0) (b : yq_mu η ≤ 7999) : yq_rK n η0 0 η := ⟨yq_mu η + 1, by omega, by rw [h]; rfl, Int.le_refl 0, by omega⟩
theorem qrK_e {n l : Int} {η0 η : zE} (h : yq_rK n η0 l η) (c : η 0 8 = 0) : yq_R n η0 = (l, η) ∧ ¬ l < 0 := by
  obtain ⟨m, h1, h2, h3, h4⟩ := h
  obtain ⟨k, rfl⟩ : ∃ k, m = k + 1 := ⟨m - 1, by omega⟩
  exact ⟨by rw [h2, yq_rdl, if_pos c], by omega⟩
theorem qrK_s {n l : Int} {η0 η : zE} (h : yq_rK n η0 l η) (c : ¬ η 0 8 = 0) : ((yq_lnr η).1 = 0 → yq_R n η0 = (-1, (yq_lnr η).2)) ∧ (¬ (yq_lnr η).1 = 0 → yq_mu (yq_lnr η).2 < yq_mu η → yq_rK n η0 (zd 0 1 l 1) (yq_lnr η).2) := by
  obtain ⟨m, h1, h2, h3, h4⟩ := h
  obtain ⟨k, rfl⟩ : ∃ k, m = k + 1 := ⟨m - 1, by omega⟩
  rw [yq_rdl, if_neg c] at h2
  refine ⟨fun q => by rw [h2, if_pos q], fun q u => ⟨k, by omega, by rw [h2, if_neg q], ?_, ?_⟩⟩
  · rw [show zd 0 1 l 1 = l + 1 from zd_a ⟨by omega, by omega⟩]; omega
  · rw [show zd 0 1 l 1 = l + 1 from zd_a ⟨by omega, by omega⟩]; omega
