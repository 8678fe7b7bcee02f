/-! words -/
theorem or_32 {x y : Int} (hx : 0 ≤ x) (hx2 : x < 2147483648) (hy : 0 ≤ y) (hy2 : y < 2147483648) : zd 0 5 x y = ((x.toNat ||| y.toNat : Nat) : Int) := by
  show (Int32.ofInt x ||| Int32.ofInt y).toInt = _
  show ((BitVec.ofInt 32 x) ||| (BitVec.ofInt 32 y)).toInt = _
  have h1 : (BitVec.ofInt 32 x).toNat = x.toNat := by
    rw [BitVec.toNat_ofInt]
    omega
  have h2 : (BitVec.ofInt 32 y).toNat = y.toNat := by
    rw [BitVec.toNat_ofInt]
    omega
  have h3 : x.toNat ||| y.toNat < 2 ^ 31 := Nat.or_lt_two_pow (by omega) (by omega)
  rw [BitVec.toInt_eq_toNat_cond, BitVec.toNat_or, h1, h2, if_pos (by omega)]
theorem or_add {q k v : Nat} (h : v < 2 ^ k) : (2 ^ k * q) ||| v = 2 ^ k * q + v := (Nat.two_pow_add_eq_or_of_lt h q).symm
theorem shl_32 : ∀ v : Nat, v < 27 → ∀ m : Nat, m < 6 → zd 0 6 (v : Int) (5 * (5 - (m : Int))) = (v : Int) * yp_pw m := by decide +kernel
theorem pk_b {b : Nat → Int} {p : Nat} : ∀ m, m ≤ 6 → (∀ j, j < m → 97 ≤ b (p + j) ∧ b (p + j) ≤ 122) → 0 ≤ yp_pk b p m ∧ (m = 0 → yp_pk b p m = 0) ∧ (1 ≤ m → ∃ q : Int, yp_pk b p m = yp_pw (m - 1) * q ∧ q < 1073741824 / yp_pw (m - 1))
  | 0, _, _ => ⟨by rw [yp_pk]; decide, fun _ => by rw [yp_pk], fun h => by omega⟩
  | m + 1, h, hb => by
    obtain ⟨g1, g2, g3⟩ := pk_b (b := b) (p := p) m (by omega) (fun j hj => hb j (by omega))
    have hc := hb m (by omega)
    rw [yp_pk, if_pos (by omega)]
    refine ⟨?_, fun w => by omega, fun _ => ?_⟩
    · have : 0 ≤ yp_pw m := by unfold yp_pw; split <;> decide
      have : 0 ≤ (b (p + m) - 96) * yp_pw m := Int.mul_nonneg (by omega) this
      omega
    · rw [show m + 1 - 1 = m by omega]
      match m, h, g2, g3, hc with
      | 0, _, g2, _, hc => exact ⟨b (p + 0) - 96, by rw [g2 rfl]; simp only [yp_pw]; omega, by simp only [yp_pw]; omega⟩
      | 1, _, _, g3, hc =>
        obtain ⟨q, e, l⟩ := g3 (by decide)
        simp only [yp_pw] at e l ⊢
        exact ⟨32 * q + (b (p + 1) - 96), by rw [e]; omega, by omega⟩
      | 2, _, _, g3, hc =>
        obtain ⟨q, e, l⟩ := g3 (by decide)
        simp only [yp_pw] at e l ⊢
        exact ⟨32 * q + (b (p + 2) - 96), by rw [e]; omega, by omega⟩
      | 3, _, _, g3, hc =>
        obtain ⟨q, e, l⟩ := g3 (by decide)
        simp only [yp_pw] at e l ⊢
        exact ⟨32 * q + (b (p + 3) - 96), by rw [e]; omega, by omega⟩
      | 4, _, _, g3, hc =>
        obtain ⟨q, e, l⟩ := g3 (by decide)
        simp only [yp_pw] at e l ⊢
        exact ⟨32 * q + (b (p + 4) - 96), by rw [e]; omega, by omega⟩
      | 5, _, _, g3, hc =>
        obtain ⟨q, e, l⟩ := g3 (by decide)
        simp only [yp_pw] at e l ⊢
        exact ⟨32 * q + (b (p + 5) - 96), by rw [e]; omega, by omega⟩
      | m + 6, h, _, _, _ => omega
/-- a letter more: or is a sum -/
theorem pk_or {b : Nat → Int} {p m : Nat} (h : m < 6) (hb : ∀ j, j < m + 1 → 97 ≤ b (p + j) ∧ b (p + j) ≤ 122) : zd 0 5 (yp_pk b p m) (zd 0 6 (b (p + m) - 97 + 1) (5 * (5 - (m : Int)))) = yp_pk b p (m + 1) := by
  have hc := hb m (by omega)
  obtain ⟨g1, g2, g3⟩ := pk_b (b := b) (p := p) m (by omega) (fun j hj => hb j (by omega))
  have e1 : b (p + m) - 97 + 1 = (((b (p + m) - 96).toNat : Nat) : Int) := by omega
  rw [e1, shl_32 _ (by omega) m h, yp_pk, if_pos h, show (((b (p + m) - 96).toNat : Nat) : Int) = b (p + m) - 96 by omega]
  generalize hv : b (p + m) - 96 = v
  have hv1 : 1 ≤ v ∧ v ≤ 26 := by omega
  match m, h, g1, g2, g3 with
  | 0, _, g1, g2, _ =>
    rw [g2 rfl]
    simp only [yp_pw]
    rw [or_32 (by omega) (by omega) (by omega) (by omega), show Int.toNat 0 = 0 from rfl, Nat.zero_or]
    omega
  | 1, _, g1, _, g3 =>
    obtain ⟨q, e, l⟩ := g3 (by decide)
    simp only [yp_pw] at e l ⊢
    rw [or_32 (by omega) (by omega) (by omega) (by omega), show (yp_pk b p 1).toNat = 2 ^ 25 * q.toNat by omega, or_add (by omega)]
    omega
  | 2, _, g1, _, g3 =>
    obtain ⟨q, e, l⟩ := g3 (by decide)
    simp only [yp_pw] at e l ⊢
    rw [or_32 (by omega) (by omega) (by omega) (by omega), show (yp_pk b p 2).toNat = 2 ^ 20 * q.toNat by omega, or_add (by omega)]
    omega
  | 3, _, g1, _, g3 =>
    obtain ⟨q, e, l⟩ := g3 (by decide)
    simp only [yp_pw] at e l ⊢
    rw [or_32 (by omega) (by omega) (by omega) (by omega), show (yp_pk b p 3).toNat = 2 ^ 15 * q.toNat by omega, or_add (by omega)]
    omega
  | 4, _, g1, _, g3 =>
    obtain ⟨q, e, l⟩ := g3 (by decide)
    simp only [yp_pw] at e l ⊢
    rw [or_32 (by omega) (by omega) (by omega) (by omega), show (yp_pk b p 4).toNat = 2 ^ 10 * q.toNat by omega, or_add (by omega)]
    omega
  | 5, _, g1, _, g3 =>
    obtain ⟨q, e, l⟩ := g3 (by decide)
    simp only [yp_pw] at e l ⊢
    rw [or_32 (by omega) (by omega) (by omega) (by omega), show (yp_pk b p 5).toNat = 2 ^ 5 * q.toNat by omega, or_add (by omega)]
    omega
  | m + 6, h, _, _, _ => omega
theorem kw_d : ∀ i, i < 20 → yp_kw (yp_wd.getD i 0) i = (20, yp_wd.getD i 0) := by decide +kernel
def yp_wk (η : zE) : Prop := ∀ i, i < 20 → η 62 i = yp_wd.getD i 0
theorem wk_of {η η' : zE} (h : yp_wk η) (e : ∀ j, η' 62 j = η 62 j) : yp_wk η' := fun i hi => (e i).trans (h i hi)
/-- letters are read -/
def yp_wI (η0 : zE) (x : Int) (η : zE) : Prop := ∃ a : Nat, yp_at η0 ≤ a ∧ a ≤ yp_len η0 ∧ η = zup η0 60 5 a ∧ x = yp_pk (η0 1) (yp_at η0) (a - yp_at η0) ∧ yp_scn yp_le (η0 1) (yp_len η0) (yp_len η0 - a) = yp_scn yp_le (η0 1) (yp_len η0) (yp_len η0 - yp_at η0) ∧ ∀ j, yp_at η0 ≤ j → j < a → 97 ≤ η0 1 j ∧ η0 1 j ≤ 122
theorem ywI_0 {η : zE} (h0 : 0 ≤ η 60 5) (h1 : η 60 5 ≤ η 60 4) : yp_wI η 0 η := by
  refine ⟨yp_at η, Nat.le_refl _, by unfold yp_at yp_len; omega, ?_, by rw [Nat.sub_self, yp_pk], rfl, fun j a c => by omega⟩
  rw [show ((yp_at η : Nat) : Int) = η 60 5 by unfold yp_at; omega]
  funext r j
  grind [zup]
theorem ywI_s {η0 η : zE} {x y : Int} (h : yp_wI η0 x η) (h0 : 0 ≤ η 60 5) (hs : η 60 7 = η0 60 5) (hs0 : 0 ≤ η0 60 5) (hl : η 60 5 < η 60 4) (h1 : 97 ≤ η 1 (η 60 5).toNat) (h2 : η 1 (η 60 5).toNat ≤ 122) (hy : y = if η 60 5 - η 60 7 < 6 then zd 0 5 x (zd 0 6 (η 1 (η 60 5).toNat - 97 + 1) (5 * (5 - (η 60 5 - η 60 7)))) else x) : yp_wI η0 y (zup η 60 5 (η 60 5 + 1)) := by
  obtain ⟨a, a1, a2, a3, a4, a5, a6⟩ := h
  have e5 : η 60 5 = a := by rw [a3]; exact zup_eq
  have e4 : η 60 4 = η0 60 4 := by rw [a3]; rfl
  have e1 : η 1 = η0 1 := by rw [a3]; rfl
  rw [e1, e5] at h1 h2
  have h1 : 97 ≤ η0 1 a := h1
  have h2 : η0 1 a ≤ 122 := h2
  have la : a < yp_len η0 := by unfold yp_len; omega
  have ap : η 60 5 - η 60 7 = ((a - yp_at η0 : Nat) : Int) := by unfold yp_at at a1 ⊢; omega
  refine ⟨a + 1, by omega, by omega, ?_, ?_, ?_, ?_⟩
  · rw [e5, a3, show ((a + 1 : Nat) : Int) = (a : Int) + 1 by omega]
    funext r j
    grind [zup]
  · rw [show a + 1 - yp_at η0 = (a - yp_at η0) + 1 by omega, hy, ap]
    by_cases q : a - yp_at η0 < 6
    · rw [if_pos (by omega), a4, e1, e5, show ((a : Int)).toNat = yp_at η0 + (a - yp_at η0) by omega]
      refine pk_or q (fun j hj => ?_)
      by_cases w : yp_at η0 + j = a
      · rw [w]; exact ⟨h1, h2⟩
      · exact a6 _ (by omega) (by omega)
    · rw [if_neg (by omega), yp_pk, if_neg q]
      exact a4
  · rw [← a5]
    exact (ys_s la (yl_y h1 h2)).symm
  · intro j b1 b2
    by_cases q : j = a
    · rw [q]; exact ⟨h1, h2⟩
    · exact a6 j b1 (by omega)
theorem ywI_q {η0 η : zE} {x : Int} (h : yp_wI η0 x η) (h0 : 0 ≤ η 60 5) (hc : η 60 4 ≤ η 60 5 ∨ (η 60 5 < η 60 4 ∧ yp_le (η 1 (η 60 5).toNat) = false)) : yp_scn yp_le (η0 1) (yp_len η0) (yp_len η0 - yp_at η0) = (η 60 5).toNat ∧ η = zup η0 60 5 (η 60 5) ∧ x = yp_pk (η0 1) (yp_at η0) ((η 60 5).toNat - yp_at η0) ∧ yp_at η0 ≤ (η 60 5).toNat := by
  obtain ⟨a, a1, a2, a3, a4, a5, a6⟩ := h
  have e5 : η 60 5 = a := by rw [a3]; exact zup_eq
  have e4 : η 60 4 = η0 60 4 := by rw [a3]; rfl
  have e1 : η 1 = η0 1 := by rw [a3]; rfl
  rw [e5, Int.toNat_natCast]
  refine ⟨?_, a3, a4, a1⟩
  rw [← a5]
  rcases hc with hc | hc
  · rw [ys_e (by unfold yp_len; omega)]
    unfold yp_len at a2 ⊢
    omega
  · refine ys_x (by unfold yp_len; omega) ?_
    have := hc.2
    rw [e1, e5] at this
    exact this
def yp_wJ (η0 : zE) (x i : Int) (η : zE) : Prop := ∃ q : Nat, q = yp_scn yp_le (η0 1) (yp_len η0) (yp_len η0 - yp_at η0) ∧ ¬ 6 < q - yp_at η0 ∧ x = yp_pk (η0 1) (yp_at η0) (q - yp_at η0) ∧ η = zup (zup (zup η0 60 5 q) 60 6 (yp_kw x i.toNat).1) 60 8 (yp_kw x i.toNat).2
theorem ywJ_0 {η0 η : zE} {x : Int} (h : yp_wI η0 x η) (h0 : 0 ≤ η 60 5) (hs : η 60 7 = η0 60 5) (hs0 : 0 ≤ η0 60 5) (hc : η 60 4 ≤ η 60 5 ∨ (η 60 5 < η 60 4 ∧ yp_le (η 1 (η 60 5).toNat) = false)) (hd : η 60 5 - η 60 7 ≤ 6) : yp_wJ η0 x 0 (zup (zup η 60 6 20) 60 8 x) := by
  obtain ⟨g1, g2, g3, g4⟩ := ywI_q h h0 hc
  refine ⟨(η 60 5).toNat, g1.symm, by unfold yp_at at g4 ⊢; omega, g3, ?_⟩
  rw [show (Int.toNat 0) = 0 from rfl, yp_kw, show (((η 60 5).toNat : Nat) : Int) = η 60 5 by omega, ← g2]
theorem ywJ_w {η0 η : zE} {x : Int} (h : yp_wI η0 x η) (h0 : 0 ≤ η 60 5) (hs : η 60 7 = η0 60 5) (hs0 : 0 ≤ η0 60 5) (h8 : η0 60 8 = 0) (hc : η 60 4 ≤ η 60 5 ∨ (η 60 5 < η 60 4 ∧ yp_le (η 1 (η 60 5).toNat) = false)) (hd : 6 < η 60 5 - η 60 7) : zup η 60 6 22 = yp_nw η0 := by
  obtain ⟨g1, g2, g3, g4⟩ := ywI_q h h0 hc
  unfold yp_nw
  dsimp only
  rw [g1, if_pos (by unfold yp_at; omega), show (((η 60 5).toNat : Nat) : Int) = η 60 5 by omega, ← g2]
  have e8 : η 60 8 = 0 := by rw [g2]; exact h8
  funext r j
  grind [zup]
theorem ywJ_s {η0 η : zE} {x i : Int} (h : yp_wJ η0 x i η) (h0 : 0 ≤ i) (h1 : i < 20) (hw : ¬ yp_wd.getD i.toNat 0 = x) : yp_wJ η0 x (i + 1) η := by
  obtain ⟨q, a1, a2, a3, a4⟩ := h
  refine ⟨q, a1, a2, a3, ?_⟩
  rw [show (i + 1).toNat = i.toNat + 1 by omega, yp_kw, if_neg hw]
  exact a4
theorem ywJ_t {η0 η : zE} {x i : Int} (h : yp_wJ η0 x i η) (h0 : 0 ≤ i) (h1 : i < 20) (hw : yp_wd.getD i.toNat 0 = x) : yp_wJ η0 x (i + 1) (yp_tlw i η) := by
  obtain ⟨q, a1, a2, a3, a4⟩ := h
  refine ⟨q, a1, a2, a3, ?_⟩
  have hk := kw_d i.toNat (by omega)
  rw [hw] at hk
  rw [hk] at a4
  rw [show (i + 1).toNat = i.toNat + 1 by omega, yp_kw, if_pos hw, a4]
  unfold yp_tlw yp_lang
  have ei : ((i.toNat : Nat) : Int) = i := by omega
  rw [ei]
  funext r j
  by_cases c1 : 13 ≤ i
  · rw [if_pos c1, if_pos (show 13 ≤ i.toNat by omega)]
    grind [zup]
  · rw [if_neg c1, if_neg (show ¬ 13 ≤ i.toNat by omega)]
    by_cases c2 : 10 ≤ i
    · rw [if_pos c2, if_pos (show 10 ≤ i.toNat by omega)]
      grind [zup]
    · rw [if_neg c2, if_neg (show ¬ 10 ≤ i.toNat by omega)]
      by_cases c3 : 7 ≤ i
      · rw [if_pos c3, if_pos (show 7 ≤ i.toNat by omega)]
        grind [zup]
      · rw [if_neg c3, if_neg (show ¬ 7 ≤ i.toNat by omega)]
        grind [zup]
theorem ywJ_x {η0 η : zE} {x i : Int} (h : yp_wJ η0 x i η) (h1 : i = 20) : η = yp_nw η0 := by
  obtain ⟨q, a1, a2, a3, a4⟩ := h
  unfold yp_nw
  dsimp only
  rw [← a1, if_neg a2, ← a3, a4, h1]
  rfl
