/-! the model's words: packed, found, signs -/
def yq_let (b : Nat → Int) (p m : Nat) : Prop := ∀ j, j < m → 97 ≤ b (p + j) ∧ b (p + j) ≤ 122
theorem qpk_b {b : Nat → Int} {p m : Nat} (h : yq_let b p m) : ∀ i, 0 ≤ yq_pk b p m i ∧ yq_pk b p m i < ((32 ^ i : Nat) : Int)
  | 0 => by rw [yq_pk]; decide
  | i + 1 => by
    have g := qpk_b h i
    rw [yq_pk, Nat.pow_succ]
    have d : 0 ≤ (if i < m then b (p + i) - 96 else 0) ∧ (if i < m then b (p + i) - 96 else 0) < 32 := by
      split
      · next w => have := h i w; omega
      · omega
    omega
theorem shl5 {n : Int} (h0 : 0 ≤ n) (h : n < 33554432) : zd 0 6 n 5 = n * 32 := by
  show ((BitVec.ofInt 32 n) <<< ((5 : BitVec 32))).toInt = _
  have h1 : (BitVec.ofInt 32 n).toNat = n.toNat := by
    rw [BitVec.toNat_ofInt]
    omega
  rw [BitVec.toInt_eq_toNat_cond, BitVec.shiftLeft_eq', BitVec.toNat_shiftLeft, h1, show ((5 : BitVec 32)).toNat = 5 from rfl, Nat.shiftLeft_eq, Nat.mod_eq_of_lt (by omega), if_pos (by omega)]
  omega
theorem or5 {n d : Int} (h0 : 0 ≤ n) (h : n < 33554432) (hd : 0 ≤ d) (hd2 : d < 32) : zd 0 5 (n * 32) d = n * 32 + d := by
  rw [or_32 (by omega) (by omega) hd (by omega), show (n * 32).toNat = 2 ^ 5 * n.toNat by omega, or_add (by omega)]
  omega
def yq_pI (a0 b0 : Int) (η0 : zE) (a b n k : Int) (η : zE) : Prop := a = a0 ∧ b = b0 ∧ η = η0 ∧ a ≤ k ∧ k ≤ a + 6 ∧ (yq_let (η0 1) a.toNat (b - a).toNat → n = yq_pk (η0 1) a.toNat (b - a).toNat (k - a).toNat)
theorem qpI_s {a0 b0 a b n k n' : Int} {η0 η : zE} (h : yq_pI a0 b0 η0 a b n k η) (ha : 0 ≤ a) (hk : k < a + 6) (hn : ∀ d, d = (if k < b then η0 1 k.toNat - 96 else 0) → (k < b → 97 ≤ η0 1 k.toNat ∧ η0 1 k.toNat ≤ 122) → zd 0 5 (zd 0 6 n 5) d = n') : yq_pI a0 b0 η0 a b n' (k + 1) η := by
  obtain ⟨h1, h2, h3, h4, h5, h6⟩ := h
  refine ⟨h1, h2, h3, by omega, by omega, fun w => ?_⟩
  have e := h6 w
  have bd := qpk_b w (k - a).toNat
  have p5 : ((32 ^ (k - a).toNat : Nat) : Int) ≤ 33554432 := by
    have : (32 : Nat) ^ (k - a).toNat ≤ 32 ^ 5 := Nat.pow_le_pow_right (by decide) (by omega)
    omega
  rw [← e] at bd
  rw [show (k + 1 - a).toNat = (k - a).toNat + 1 by omega, yq_pk, ← e, ← hn _ rfl (fun q => by
    have u := w (k - a).toNat (by omega)
    rw [show a.toNat + (k - a).toNat = k.toNat by omega] at u
    exact u), shl5 bd.1 (by omega)]
  have ed : (if k < b then η0 1 k.toNat - 96 else 0) = (if (k - a).toNat < (b - a).toNat then η0 1 (a.toNat + (k - a).toNat) - 96 else 0) := by
    rw [show a.toNat + (k - a).toNat = k.toNat by omega]
    by_cases q : k < b
    · rw [if_pos q, if_pos (by omega)]
    · rw [if_neg q, if_neg (by omega)]
  rw [← ed]
  refine or5 bd.1 (by omega) ?_ ?_
  · rw [ed]
    split
    · next q => have := w _ q; omega
    · omega
  · rw [ed]
    split
    · next q => have := w _ q; omega
    · omega
theorem sm_get {b : Nat → Int} {a k f : Nat} : ∀ n, yq_sm b a k f n = true → ∀ i, i < n → wd_k.getD (f + i) 0 = b (a + i)
  | 0, _, i, h => by omega
  | n + 1, h, i, hi => by
    rw [yq_sm] at h
    have h := (Bool.and_eq_true _ _).mp h
    by_cases q : i = n
    · rw [q]; exact of_decide_eq_true h.2
    · exact sm_get n h.1 i (by omega)
def yq_wI (a0 b0 : Int) (η0 : zE) (a b k : Int) (η : zE) : Prop := a = a0 ∧ b = b0 ∧ η = η0 ∧ 0 ≤ k ∧ k ≤ 20 ∧ yq_wa (η0 1) a.toNat (b - a).toNat 20 = yq_wa (η0 1) a.toNat (b - a).toNat (20 - k.toNat)
def yq_wX (a0 b0 : Int) (η0 : zE) (a b k n s i : Int) (η : zE) : Prop := yq_wI a0 b0 η0 a b k η ∧ k < 20 ∧ ((¬ s = 0 ∧ n = b - a ∧ 0 ≤ i ∧ i ≤ n ∧ yq_sm (η0 1) a.toNat k.toNat (sw_k.getD k.toNat 0) i.toNat = true) ∨ (s = 0 ∧ yq_is (η0 1) a.toNat (b - a).toNat k.toNat = false))
theorem wa_0 {b : Nat → Int} {a m k : Nat} (h : k < 20) : yq_wa b a m (20 - k) = if yq_is b a m k = true then (k : Int) else yq_wa b a m (20 - (k + 1)) := by
  rw [show 20 - k = (20 - (k + 1)) + 1 by omega, yq_wa, show 20 - (20 - (k + 1) + 1) = k by omega]
theorem qwX_y {a0 b0 a b k n s i : Int} {η0 η : zE} (h : yq_wX a0 b0 η0 a b k n s i η) (hs : ¬ s = 0) (hi : n ≤ i) (hl : ((sw_k.getD k.toNat 0 : Nat) : Int) + n + 1 = (sw_k.getD (k.toNat + 1) 0 : Nat)) : k = yq_wa (η0 1) a0.toNat (b0 - a0).toNat 20 ∧ η = η0 := by
  obtain ⟨⟨h1, h2, h3, h4, h5, h6⟩, h7, h8⟩ := h
  rcases h8 with h8 | h8
  · obtain ⟨g1, g2, g3, g4, g5⟩ := h8
    refine ⟨?_, h3⟩
    rw [← h1, ← h2, h6, wa_0 (by omega), if_pos ?_]
    · omega
    · unfold yq_is
      rw [Bool.and_eq_true]
      refine ⟨decide_eq_true (by omega), ?_⟩
      rw [show (b - a).toNat = i.toNat by omega]
      exact g5
  · exact absurd h8.1 hs
theorem qwX_n {a0 b0 a b k n s i : Int} {η0 η : zE} (h : yq_wX a0 b0 η0 a b k n s i η) (hs : s = 0) : yq_wI a0 b0 η0 a b (k + 1) η := by
  obtain ⟨⟨h1, h2, h3, h4, h5, h6⟩, h7, h8⟩ := h
  rcases h8 with h8 | h8
  · exact absurd hs h8.1
  · refine ⟨h1, h2, h3, by omega, by omega, ?_⟩
    rw [h6, wa_0 (by omega), h8.2, if_neg (by decide), show (k + 1).toNat = k.toNat + 1 by omega]
theorem qwX_f {a0 b0 a b k n s i : Int} {η0 η : zE} (h : yq_wX a0 b0 η0 a b k n s i η) (hs : ¬ s = 0) (hi : i < n) {x : Int} (hx : x = wd_k.getD (sw_k.getD k.toNat 0 + i.toNat) 0) (hn : ¬ x = η 1 (a + i).toNat) (ha : 0 ≤ a) : yq_wX a0 b0 η0 a b k n 0 (i + 1) η := by
  obtain ⟨⟨h1, h2, h3, h4, h5, h6⟩, h7, h8⟩ := h
  rcases h8 with h8 | h8
  · obtain ⟨g1, g2, g3, g4, g5⟩ := h8
    refine ⟨⟨h1, h2, h3, h4, h5, h6⟩, h7, Or.inr ⟨rfl, ?_⟩⟩
    refine Bool.eq_false_iff.mpr (fun w => hn ?_)
    unfold yq_is at w
    have q := sm_get _ ((Bool.and_eq_true _ _).mp w).2 i.toNat (by omega)
    rw [hx, q, h3, show (a + i).toNat = a.toNat + i.toNat by omega]
  · exact absurd h8.1 hs
theorem qwX_t {a0 b0 a b k n s i s' : Int} {η0 η : zE} (h : yq_wX a0 b0 η0 a b k n s i η) (hs : ¬ s = 0) (hs' : ¬ s' = 0) (hi : i < n) {x : Int} (hx : x = wd_k.getD (sw_k.getD k.toNat 0 + i.toNat) 0) (hn : x = η 1 (a + i).toNat) (ha : 0 ≤ a) : yq_wX a0 b0 η0 a b k n s' (i + 1) η := by
  obtain ⟨⟨h1, h2, h3, h4, h5, h6⟩, h7, h8⟩ := h
  rcases h8 with h8 | h8
  · obtain ⟨g1, g2, g3, g4, g5⟩ := h8
    refine ⟨⟨h1, h2, h3, h4, h5, h6⟩, h7, Or.inl ⟨hs', g2, by omega, by omega, ?_⟩⟩
    rw [show (i + 1).toNat = i.toNat + 1 by omega, yq_sm, Bool.and_eq_true]
    refine ⟨g5, decide_eq_true ?_⟩
    rw [← hx, hn, h3, show (a + i).toNat = a.toNat + i.toNat by omega]
  · exact absurd h8.1 hs
theorem qwX_0 {a0 b0 a b k n : Int} {η0 η : zE} (h : yq_wI a0 b0 η0 a b k η) (hk : k < 20) (hn : 0 ≤ n) (hl : ((sw_k.getD k.toNat 0 : Nat) : Int) + n + 1 = (sw_k.getD (k.toNat + 1) 0 : Nat)) {s : Int} (hs : (s = 0 ∧ ¬ n = b - a ∧ ¬ n = 0) ∨ (¬ s = 0 ∧ n = b - a)) : yq_wX a0 b0 η0 a b k n s 0 η := by
  refine ⟨h, hk, ?_⟩
  rcases hs with hs | hs
  · refine Or.inr ⟨hs.1, Bool.eq_false_iff.mpr (fun w => ?_)⟩
    unfold yq_is at w
    have := of_decide_eq_true ((Bool.and_eq_true _ _).mp w).1
    omega
  · exact Or.inl ⟨hs.1, hs.2, Int.le_refl _, hn, rfl⟩
/-! signs -/
def yq_nx (s : zE) : Int := if s 0 7 < s 0 6 then s 1 (s 0 7).toNat else 0
def yq_sn2 (c : Int) (s1 : zE) : zE := zup (zup (if (yq_sg c (yq_nx s1)).2.2 = 0 then s1 else yq_inc 0 7 s1) 0 8 (yq_sg c (yq_nx s1)).1) 0 9 (yq_sg c (yq_nx s1)).2.1
def yq_snS (s : zE) : zE := yq_sn2 (s 1 (s 0 7).toNat) (yq_inc 0 7 (zup s 0 9 (s 1 (s 0 7).toNat)))
theorem qsn_l {s : zE} {c x d k w : Int} {e : Nat} (hc : c = s 1 (s 0 7).toNat) (hx : x = zd 0 1 (s 0 7) 1) (hd : (x < s 0 6 ∧ d = s 1 x.toNat) ∨ (s 0 6 ≤ x ∧ d = 0) ∨ (∀ d, yq_sg c d = (k, w, e))) (ht : yq_sg c d = (k, w, e)) : yq_snS s = zup (zup (if e = 0 then zup (zup s 0 9 c) 0 7 x else zup (zup (zup s 0 9 c) 0 7 x) 0 7 (zd 0 1 x 1)) 0 8 k) 0 9 w := by
  have s1 : yq_inc 0 7 (zup s 0 9 (s 1 (s 0 7).toNat)) = zup (zup s 0 9 c) 0 7 x := by rw [hc, hx]; rfl
  unfold yq_snS
  rw [s1, ← hc]
  have hn : yq_sg c (yq_nx (zup (zup s 0 9 c) 0 7 x)) = (k, w, e) := by
    have q7 : (zup (zup s 0 9 c) 0 7 x) 0 7 = x := rfl
    have q6 : (zup (zup s 0 9 c) 0 7 x) 0 6 = s 0 6 := rfl
    have q1 : (zup (zup s 0 9 c) 0 7 x) 1 = s 1 := rfl
    unfold yq_nx
    rw [q7, q6, q1]
    rcases hd with hd | hd | hd
    · rw [if_pos hd.1, ← hd.2]; exact ht
    · rw [if_neg (by omega), ← hd.2]; exact ht
    · exact hd _
  unfold yq_sn2
  rw [hn]
  rfl
theorem qsn_4 {s : zE} {c x k : Int} : zup (zup (zup s 0 9 c) 0 7 x) 0 8 k = zup (zup (zup (zup s 0 9 c) 0 7 x) 0 8 k) 0 9 c := by
  funext r j
  grind [zup]
theorem qsg_o {c d : Int} (h60 : ¬ c = 60) (h62 : ¬ c = 62) (h61 : ¬ c = 61) (h59 : ¬ c = 59) (h40 : ¬ c = 40) (h41 : ¬ c = 41) (h43 : ¬ c = 43) (h45 : ¬ c = 45) (h42 : ¬ c = 42) (h47 : ¬ c = 47) (h37 : ¬ c = 37) : yq_sg c d = (6, c, 0) := by
  unfold yq_sg
  rw [if_neg h60, if_neg h62, if_neg h61, if_neg ?_]
  intro h
  rcases h with h | h | h | h | h | h | h | h
  · exact h59 h
  · exact h40 h
  · exact h41 h
  · exact h43 h
  · exact h45 h
  · exact h42 h
  · exact h47 h
  · exact h37 h
