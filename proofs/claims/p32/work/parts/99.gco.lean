/-! Both readers side by side: bytes, tokens. -/
/-- the class's byte and the model's -/
def zb_r (x y : Int) : Prop := (x = y ∧ 0 ≤ y ∧ y ≤ 127) ∨ (x < 0 ∧ 128 ≤ y)
theorem zb_le {x y : Int} (h : zb_r x y) : yp_le x = yp_le y := by
  unfold yp_le
  rcases h with ⟨rfl, _⟩ | h
  · rfl
  · rw [decide_eq_false (by omega), decide_eq_false (by omega)]
theorem zb_di {x y : Int} (h : zb_r x y) : yp_di x = yp_di y := by
  unfold yp_di
  rcases h with ⟨rfl, _⟩ | h
  · rfl
  · rw [decide_eq_false (by omega), decide_eq_false (by omega)]
theorem zb_bl {x y : Int} (h : zb_r x y) : yp_bl x = yp_bl y := by
  unfold yp_bl
  rcases h with ⟨rfl, _⟩ | h
  · rfl
  · rw [decide_eq_false (by omega), decide_eq_false (by omega)]
theorem zb_ley {x y : Int} (h : zb_r x y) (w : yp_le y = true) : x = y ∧ 97 ≤ y ∧ y ≤ 122 := by
  have := of_decide_eq_true w
  rcases h with h | h
  · exact ⟨h.1, this⟩
  · omega
theorem zb_diy {x y : Int} (h : zb_r x y) (w : yp_di y = true) : x = y ∧ 48 ≤ y ∧ y ≤ 57 := by
  have := of_decide_eq_true w
  rcases h with h | h
  · exact ⟨h.1, this⟩
  · omega
theorem zr_scn {P : Int → Bool} {a b : Nat → Int} {n : Nat} (h : ∀ j, j < n → P (a j) = P (b j)) : ∀ k, k ≤ n → yp_scn P a n k = yp_scn P b n k
  | 0, _ => rfl
  | k + 1, hk => by
    rw [yp_scn, yp_scn, h (n - (k + 1)) (by omega), zr_scn h k (by omega)]
/-- numbers -/
def zn_r (x y : Int) : Prop := (x = y ∧ 0 ≤ y ∧ y ≤ 99999) ∨ (99999 < x ∧ 99999 < y)
theorem zr_num {a b : Nat → Int} {p : Nat} : ∀ m, (∀ j, j < m → a (p + j) = b (p + j) ∧ 48 ≤ b (p + j) ∧ b (p + j) ≤ 57) → zn_r (yp_num a p m) (yq_num b p m)
  | 0, _ => Or.inl ⟨rfl, Int.le_refl 0, show (0 : Int) ≤ 99999 by decide⟩
  | m + 1, h => by
    have i := zr_num (a := a) (b := b) (p := p) m (fun j hj => h j (by omega))
    have g := h m (by omega)
    rw [yp_num, yq_num]
    unfold zn_r at i ⊢
    split <;> split <;> omega
/-- packed words -/
theorem zr_pk {b : Nat → Int} {p : Nat} : ∀ m, m ≤ 6 → yp_pk b p m = yq_pk b p m 6 := by
  intro m hm
  match m, hm with
  | 0, _ => simp [yp_pk, yq_pk]
  | 1, _ => simp [yp_pk, yq_pk, yp_pw]; omega
  | 2, _ => simp [yp_pk, yq_pk, yp_pw]; omega
  | 3, _ => simp [yp_pk, yq_pk, yp_pw]; omega
  | 4, _ => simp [yp_pk, yq_pk, yp_pw]; omega
  | 5, _ => simp [yp_pk, yq_pk, yp_pw]; omega
  | 6, _ => simp [yp_pk, yq_pk, yp_pw]; omega
theorem zr_dig {A B x y : Int} (h : A * 32 + x = B * 32 + y) (hx : 0 ≤ x ∧ x ≤ 31) (hy : 0 ≤ y ∧ y ≤ 31) : A = B ∧ x = y := by omega
theorem zr_inj {b c : Nat → Int} {p q m n : Nat} (hb : ∀ j, j < m → 97 ≤ b (p + j) ∧ b (p + j) ≤ 122) (hc : ∀ j, j < n → 97 ≤ c (q + j) ∧ c (q + j) ≤ 122) : ∀ i, yq_pk b p m i = yq_pk c q n i → ∀ j, j < i → (if j < m then b (p + j) - 96 else 0) = (if j < n then c (q + j) - 96 else 0)
  | 0, _, j, hj => absurd hj (Nat.not_lt_zero j)
  | i + 1, h, j, hj => by
    rw [yq_pk, yq_pk] at h
    have g := zr_dig h (by split; · have := hb i (by assumption); omega
                           · omega) (by split; · have := hc i (by assumption); omega
                                        · omega)
    by_cases e : j = i
    · rw [e]; exact g.2
    · exact zr_inj hb hc i g.1 j (by omega)
theorem zr_eq {b c : Nat → Int} {p q m : Nat} (h : ∀ j, j < m → b (p + j) = c (q + j)) : ∀ i, yq_pk b p m i = yq_pk c q m i
  | 0 => rfl
  | i + 1 => by
    rw [yq_pk, yq_pk, zr_eq h i]
    split
    · rw [h i (by assumption)]
    · rfl
/-- the words of the language -/
def zw_n (k : Nat) : Nat := sw_k.getD (k + 1) 0 - sw_k.getD k 0 - 1
/-- the class's place of a word of the model -/
def zw_c (k : Nat) : Nat := if k = 10 then 11 else if k = 11 then 10 else k
theorem zw_c2 : ∀ k, k < 20 → zw_c k < 20 ∧ zw_c (zw_c k) = k := by decide
theorem zw_v : ∀ k, k < 20 → yp_wd.getD (zw_c k) 0 = yq_pk (fun j => wd_k.getD j 0) (sw_k.getD k 0) (zw_n k) 6 := by decide
theorem zw_l : ∀ k, k < 20 → sw_k.getD k 0 + zw_n k + 1 = sw_k.getD (k + 1) 0 ∧ 1 ≤ zw_n k ∧ zw_n k ≤ 6 ∧ ∀ j, j < 6 → j < zw_n k → 97 ≤ wd_k.getD (sw_k.getD k 0 + j) 0 ∧ wd_k.getD (sw_k.getD k 0 + j) 0 ≤ 122 := by decide
theorem zw_d : ∀ k, k < 20 → ∀ l, l < 20 → yp_wd.getD k 0 = yp_wd.getD l 0 → k = l := by decide
theorem zr_sm {b : Nat → Int} {a k f : Nat} : ∀ i, yq_sm b a k f i = true ↔ ∀ j, j < i → wd_k.getD (f + j) 0 = b (a + j)
  | 0 => ⟨fun _ j hj => absurd hj (Nat.not_lt_zero j), fun _ => rfl⟩
  | i + 1 => by
    rw [yq_sm, Bool.and_eq_true, zr_sm i, decide_eq_true_iff]
    refine ⟨fun h j hj => ?_, fun h => ⟨fun j hj => h j (by omega), h i (by omega)⟩⟩
    by_cases e : j = i
    · rw [e]; exact h.2
    · exact h.1 j (by omega)
theorem zr_is {b : Nat → Int} {a m k : Nat} (hk : k < 20) (hm : m ≤ 6) (hb : ∀ j, j < m → 97 ≤ b (a + j) ∧ b (a + j) ≤ 122) : yq_is b a m k = true ↔ yp_wd.getD (zw_c k) 0 = yq_pk b a m 6 := by
  have l := zw_l k hk
  have hc : ∀ j, j < zw_n k → 97 ≤ (fun j => wd_k.getD j 0) (sw_k.getD k 0 + j) ∧ (fun j => wd_k.getD j 0) (sw_k.getD k 0 + j) ≤ 122 := fun j hj => l.2.2.2 j (by omega) hj
  unfold yq_is
  rw [Bool.and_eq_true, decide_eq_true_iff, zr_sm, zw_v k hk]
  constructor
  · intro h
    have e : zw_n k = m := by omega
    rw [e]
    exact zr_eq (fun j hj => h.2 j hj) 6
  · intro h
    have g := zr_inj hc hb 6 h
    have e : zw_n k = m := by
      by_cases q : zw_n k < m
      · have := g (zw_n k) (by omega)
        rw [if_neg (by omega), if_pos q] at this
        have := hb (zw_n k) q
        omega
      · by_cases q2 : m < zw_n k
        · have := g m (by omega)
          rw [if_pos q2, if_neg (by omega)] at this
          have this : wd_k.getD (sw_k.getD k 0 + m) 0 - 96 = 0 := this
          have u : 97 ≤ wd_k.getD (sw_k.getD k 0 + m) 0 ∧ wd_k.getD (sw_k.getD k 0 + m) 0 ≤ 122 := hc m q2
          omega
        · omega
    refine ⟨by omega, fun j hj => ?_⟩
    have := g j (by omega)
    rw [if_pos (by omega), if_pos hj] at this
    have this : wd_k.getD (sw_k.getD k 0 + j) 0 - 96 = b (a + j) - 96 := this
    omega
theorem zr_no {b : Nat → Int} {a m k : Nat} (hk : k < 20) (hm : 6 < m) : ¬ yq_is b a m k = true := by
  have l := zw_l k hk
  unfold yq_is
  rw [Bool.and_eq_true, decide_eq_true_iff]
  intro h
  omega
theorem zr_wn {b : Nat → Int} {a m : Nat} : ∀ r, r ≤ 20 → (∀ k, 20 - r ≤ k → k < 20 → ¬ yq_is b a m k = true) → yq_wa b a m r = -1
  | 0, _, _ => rfl
  | r + 1, hr, h => by
    rw [yq_wa, if_neg (h _ (by omega) (by omega)), zr_wn r (by omega) (fun k h1 h2 => h k (by omega) h2)]
theorem zr_wy {b : Nat → Int} {a m l : Nat} (hl : l < 20) (y : yq_is b a m l = true) (u : ∀ k, k < 20 → yq_is b a m k = true → k = l) : ∀ r, r ≤ 20 → 20 - r ≤ l → yq_wa b a m r = l
  | 0, _, h => by omega
  | r + 1, hr, h => by
    rw [yq_wa]
    by_cases e : 20 - (r + 1) = l
    · rw [e, if_pos y]
    · rw [if_neg (fun w => e (u _ (by omega) w)), zr_wy hl y u r (by omega) (by omega)]
theorem zr_kn {L : Int} : ∀ i, (∀ k, k < i → ¬ yp_wd.getD k 0 = L) → yp_kw L i = (20, L)
  | 0, _ => rfl
  | i + 1, h => by rw [yp_kw, if_neg (h i (by omega)), zr_kn i (fun k hk => h k (by omega))]
theorem zr_ky {L : Int} {l : Nat} (y : yp_wd.getD l 0 = L) : ∀ i, i ≤ 20 → l < i → yp_kw L i = yp_lang l L
  | 0, _, h => by omega
  | i + 1, hi, h => by
    rw [yp_kw]
    by_cases e : i = l
    · rw [e, if_pos y]
    · rw [if_neg (fun w => e (zw_d i (by omega) l (by omega) (w.trans y.symm))), zr_ky y i (by omega) (by omega)]
/-- kinds and values of both -/
def zt_r (ck cv mk mw : Int) : Prop :=
  (mk = 0 ∧ ck = 21) ∨ (mk = 1 ∧ 0 ≤ mw ∧ mw ≤ 6 ∧ ck = 18 ∧ cv = mw) ∨ (mk = 1 ∧ 7 ≤ mw ∧ mw ≤ 9 ∧ ck = 19 ∧ cv = mw - 7) ∨ (mk = 1 ∧ ((mw = 10 ∧ ck = 2) ∨ (mw = 11 ∧ ck = 1) ∨ (mw = 12 ∧ ck = 3))) ∨ (mk = 1 ∧ 13 ≤ mw ∧ mw ≤ 19 ∧ ck = 17 ∧ cv = mw - 13) ∨ (mk = 2 ∧ ck = 20 ∧ cv = mw) ∨ (mk = 3 ∧ ck = 16 ∧ zn_r cv mw) ∨ (mk = 4 ∧ ((mw = 59 ∧ ck = 15) ∨ (mw = 40 ∧ ck = 0) ∨ (mw = 41 ∧ ck = 14) ∨ (mw = 43 ∧ ck = 10) ∨ (mw = 45 ∧ ck = 11) ∨ (mw = 42 ∧ ck = 12) ∨ (mw = 47 ∧ ck = 13) ∨ (mw = 37 ∧ ck = 22))) ∨ (mk = 5 ∧ 0 ≤ mw ∧ mw ≤ 5 ∧ ck = mw + 4) ∨ (mk = 6 ∧ ck = 22)
theorem zt_0 {ck cv mk mw : Int} (h : mk = 0 ∧ ck = 21) : zt_r ck cv mk mw := Or.inl h
theorem zt_1 {ck cv mk mw : Int} (h : mk = 1 ∧ 0 ≤ mw ∧ mw ≤ 6 ∧ ck = 18 ∧ cv = mw) : zt_r ck cv mk mw := Or.inr (Or.inl h)
theorem zt_2 {ck cv mk mw : Int} (h : mk = 1 ∧ 7 ≤ mw ∧ mw ≤ 9 ∧ ck = 19 ∧ cv = mw - 7) : zt_r ck cv mk mw := Or.inr (Or.inr (Or.inl h))
theorem zt_3 {ck cv mk mw : Int} (h : mk = 1 ∧ ((mw = 10 ∧ ck = 2) ∨ (mw = 11 ∧ ck = 1) ∨ (mw = 12 ∧ ck = 3))) : zt_r ck cv mk mw := Or.inr (Or.inr (Or.inr (Or.inl h)))
theorem zt_4 {ck cv mk mw : Int} (h : mk = 1 ∧ 13 ≤ mw ∧ mw ≤ 19 ∧ ck = 17 ∧ cv = mw - 13) : zt_r ck cv mk mw := Or.inr (Or.inr (Or.inr (Or.inr (Or.inl h))))
theorem zt_5 {ck cv mk mw : Int} (h : mk = 2 ∧ ck = 20 ∧ cv = mw) : zt_r ck cv mk mw := Or.inr (Or.inr (Or.inr (Or.inr (Or.inr (Or.inl h)))))
theorem zt_6 {ck cv mk mw : Int} (h : mk = 3 ∧ ck = 16 ∧ zn_r cv mw) : zt_r ck cv mk mw := Or.inr (Or.inr (Or.inr (Or.inr (Or.inr (Or.inr (Or.inl h))))))
theorem zt_7 {ck cv mk mw : Int} (h : mk = 4 ∧ ((mw = 59 ∧ ck = 15) ∨ (mw = 40 ∧ ck = 0) ∨ (mw = 41 ∧ ck = 14) ∨ (mw = 43 ∧ ck = 10) ∨ (mw = 45 ∧ ck = 11) ∨ (mw = 42 ∧ ck = 12) ∨ (mw = 47 ∧ ck = 13) ∨ (mw = 37 ∧ ck = 22))) : zt_r ck cv mk mw := Or.inr (Or.inr (Or.inr (Or.inr (Or.inr (Or.inr (Or.inr (Or.inl h)))))))
theorem zt_8 {ck cv mk mw : Int} (h : mk = 5 ∧ 0 ≤ mw ∧ mw ≤ 5 ∧ ck = mw + 4) : zt_r ck cv mk mw := Or.inr (Or.inr (Or.inr (Or.inr (Or.inr (Or.inr (Or.inr (Or.inr (Or.inl h))))))))
theorem zt_9 {ck cv mk mw : Int} (h : mk = 6 ∧ ck = 22) : zt_r ck cv mk mw := Or.inr (Or.inr (Or.inr (Or.inr (Or.inr (Or.inr (Or.inr (Or.inr (Or.inr (h)))))))))
theorem zr_lang {l : Nat} {L : Int} (h : l < 20) : zt_r (yp_lang (zw_c l) L).1 (yp_lang (zw_c l) L).2 1 l := by
  unfold zw_c
  by_cases h0 : l = 10
  · subst h0
    exact zt_3 ⟨rfl, Or.inl ⟨rfl, rfl⟩⟩
  by_cases h1 : l = 11
  · subst h1
    exact zt_3 ⟨rfl, Or.inr (Or.inl ⟨rfl, rfl⟩)⟩
  rw [if_neg h0, if_neg h1]
  unfold yp_lang
  by_cases q : 13 ≤ l
  · rw [if_pos q]
    exact zt_4 ⟨rfl, by omega, by omega, rfl, rfl⟩
  rw [if_neg q]
  by_cases q2 : 10 ≤ l
  · rw [if_pos q2]
    exact zt_3 ⟨rfl, Or.inr (Or.inr ⟨by omega, show (l : Int) - 9 = 3 by omega⟩)⟩
  rw [if_neg q2]
  by_cases q3 : 7 ≤ l
  · rw [if_pos q3]
    exact zt_2 ⟨rfl, by omega, by omega, rfl, rfl⟩
  rw [if_neg q3]
  exact zt_1 ⟨rfl, by omega, by omega, rfl, rfl⟩
theorem zr_word {b : Nat → Int} {a m : Nat} (hm : m ≤ 6) (hb : ∀ j, j < m → 97 ≤ b (a + j) ∧ b (a + j) ≤ 122) : zt_r (yp_kw (yp_pk b a m) 20).1 (yp_kw (yp_pk b a m) 20).2 (yq_wk (yq_wa b a m 20) m) (if yq_wk (yq_wa b a m 20) m = 2 then yq_pk b a m 6 else yq_wa b a m 20) := by
  rw [zr_pk m hm]
  by_cases h : ∃ l, l < 20 ∧ yp_wd.getD (zw_c l) 0 = yq_pk b a m 6
  · obtain ⟨l, l1, l2⟩ := h
    have y := (zr_is l1 hm hb).mpr l2
    have e := zr_wy l1 y (fun k hk w => by
      have u := zw_d (zw_c k) (zw_c2 k hk).1 (zw_c l) (zw_c2 l l1).1 (((zr_is hk hm hb).mp w).trans l2.symm)
      rw [← (zw_c2 k hk).2, u, (zw_c2 l l1).2]) 20 (by decide) (by omega)
    have k1 : yq_wk (l : Int) m = 1 := by unfold yq_wk; rw [if_pos (by omega)]
    rw [zr_ky l2 20 (by decide) (zw_c2 l l1).1, e, k1, if_neg (by decide)]
    exact zr_lang l1
  · have n1 : ∀ k, k < 20 → ¬ yp_wd.getD (zw_c k) 0 = yq_pk b a m 6 := fun k hk w => h ⟨k, hk, w⟩
    have e := zr_wn (b := b) (a := a) (m := m) 20 (by decide) (fun k _ hk w => n1 k hk ((zr_is hk hm hb).mp w))
    have k1 : yq_wk (-1) m = 2 := by unfold yq_wk; rw [if_neg (by decide), if_neg (by omega)]
    rw [zr_kn 20 (fun k hk w => n1 (zw_c k) (zw_c2 k hk).1 (by rw [(zw_c2 k hk).2]; exact w)), e, k1, if_pos rfl]
    exact zt_5 ⟨rfl, rfl, rfl⟩
def zs_r (c d c' d' cv : Int) : Prop := zt_r (yp_sg c d).1 cv (yq_sg c' d').1 (yq_sg c' d').2.1 ∧ (yp_sg c d).2 = (yq_sg c' d').2.2 ∧ ((yp_sg c d).2 = 0 ∨ ((yp_sg c d).2 = 1 ∧ ¬ d = 0)) ∧ ¬ (yp_sg c d).1 = 21
theorem zr_sgo {c d c' d' cv : Int} (h : ¬ c = 59 ∧ ¬ c = 40 ∧ ¬ c = 41 ∧ ¬ c = 43 ∧ ¬ c = 45 ∧ ¬ c = 42 ∧ ¬ c = 47 ∧ ¬ c = 61 ∧ ¬ c = 60 ∧ ¬ c = 62) (g : ¬ c' = 59 ∧ ¬ c' = 40 ∧ ¬ c' = 41 ∧ ¬ c' = 43 ∧ ¬ c' = 45 ∧ ¬ c' = 42 ∧ ¬ c' = 47 ∧ ¬ c' = 61 ∧ ¬ c' = 60 ∧ ¬ c' = 62) : zs_r c d c' d' cv := by
  obtain ⟨g1, g2, g3, g4, g5, g6, g7, g8, g9, g10⟩ := g
  unfold zs_r
  rw [sg_o h]
  unfold yq_sg
  rw [if_neg g9, if_neg g10, if_neg g8]
  by_cases q : c' = 37
  · subst q
    rw [if_pos (by decide)]
    exact ⟨zt_7 ⟨rfl, Or.inr (Or.inr (Or.inr (Or.inr (Or.inr (Or.inr (Or.inr (⟨rfl, rfl⟩)))))))⟩, rfl, Or.inl rfl, show ¬ (22 : Int) = 21 by decide⟩
  · rw [if_neg (by omega)]
    exact ⟨zt_9 ⟨rfl, rfl⟩, rfl, Or.inl rfl, show ¬ (22 : Int) = 21 by decide⟩
theorem zr_sg {c d c' d' cv : Int} (h : zb_r c c') (g : zb_r d d') : zs_r c d c' d' cv := by
  have hd : ∀ x : Int, 0 ≤ x → x ≤ 127 → (d = x ↔ d' = x) := fun x h0 h1 => by unfold zb_r at g; omega
  rcases h with ⟨rfl, h1, h2⟩ | h
  · by_cases q : c = 59 ∨ c = 40 ∨ c = 41 ∨ c = 43 ∨ c = 45 ∨ c = 42 ∨ c = 47 ∨ c = 61 ∨ c = 60 ∨ c = 62
    · rcases q with rfl | rfl | rfl | rfl | rfl | rfl | rfl | rfl | rfl | rfl
      · exact ⟨zt_7 ⟨rfl, Or.inl ⟨rfl, rfl⟩⟩, rfl, Or.inl rfl, show ¬ (15 : Int) = 21 by decide⟩
      · exact ⟨zt_7 ⟨rfl, Or.inr (Or.inl ⟨rfl, rfl⟩)⟩, rfl, Or.inl rfl, show ¬ (0 : Int) = 21 by decide⟩
      · exact ⟨zt_7 ⟨rfl, Or.inr (Or.inr (Or.inl ⟨rfl, rfl⟩))⟩, rfl, Or.inl rfl, show ¬ (14 : Int) = 21 by decide⟩
      · exact ⟨zt_7 ⟨rfl, Or.inr (Or.inr (Or.inr (Or.inl ⟨rfl, rfl⟩)))⟩, rfl, Or.inl rfl, show ¬ (10 : Int) = 21 by decide⟩
      · exact ⟨zt_7 ⟨rfl, Or.inr (Or.inr (Or.inr (Or.inr (Or.inl ⟨rfl, rfl⟩))))⟩, rfl, Or.inl rfl, show ¬ (11 : Int) = 21 by decide⟩
      · exact ⟨zt_7 ⟨rfl, Or.inr (Or.inr (Or.inr (Or.inr (Or.inr (Or.inl ⟨rfl, rfl⟩)))))⟩, rfl, Or.inl rfl, show ¬ (12 : Int) = 21 by decide⟩
      · exact ⟨zt_7 ⟨rfl, Or.inr (Or.inr (Or.inr (Or.inr (Or.inr (Or.inr (Or.inl ⟨rfl, rfl⟩))))))⟩, rfl, Or.inl rfl, show ¬ (13 : Int) = 21 by decide⟩
      · exact ⟨zt_8 ⟨rfl, show (0 : Int) ≤ 2 by decide, show (2 : Int) ≤ 5 by decide, rfl⟩, rfl, Or.inl rfl, show ¬ (6 : Int) = 21 by decide⟩
      · have a1 : yp_sg 60 d = if d = 62 then (7, 1) else if d = 61 then (5, 1) else (4, 0) := rfl
        have a2 : yq_sg 60 d' = if d' = 61 then (5, 1, 1) else if d' = 62 then (5, 3, 1) else (5, 0, 0) := rfl
        have u1 := hd 61 (by decide) (by decide)
        have u2 := hd 62 (by decide) (by decide)
        unfold zs_r
        rw [a1, a2]
        by_cases r1 : d = 61
        · have r2 := u1.mp r1
          subst r1 r2
          exact ⟨zt_8 ⟨rfl, by decide⟩, rfl, Or.inr ⟨rfl, by decide⟩, by decide⟩
        · by_cases r3 : d = 62
          · have r2 := u2.mp r3
            subst r3 r2
            exact ⟨zt_8 ⟨rfl, by decide⟩, rfl, Or.inr ⟨rfl, by decide⟩, by decide⟩
          · rw [if_neg r3, if_neg r1, if_neg (fun w => r1 (u1.mpr w)), if_neg (fun w => r3 (u2.mpr w))]
            exact ⟨zt_8 ⟨rfl, by decide⟩, rfl, Or.inl rfl, by decide⟩
      · have a1 : yp_sg 62 d = if d = 61 then (8, 1) else (9, 0) := rfl
        have a2 : yq_sg 62 d' = if d' = 61 then (5, 4, 1) else (5, 5, 0) := rfl
        have u1 := hd 61 (by decide) (by decide)
        unfold zs_r
        rw [a1, a2]
        by_cases r1 : d = 61
        · have r2 := u1.mp r1
          subst r1 r2
          exact ⟨zt_8 ⟨rfl, by decide⟩, rfl, Or.inr ⟨rfl, by decide⟩, by decide⟩
        · rw [if_neg r1, if_neg (fun w => r1 (u1.mpr w))]
          exact ⟨zt_8 ⟨rfl, by decide⟩, rfl, Or.inl rfl, by decide⟩
    · have q : ¬ c = 59 ∧ ¬ c = 40 ∧ ¬ c = 41 ∧ ¬ c = 43 ∧ ¬ c = 45 ∧ ¬ c = 42 ∧ ¬ c = 47 ∧ ¬ c = 61 ∧ ¬ c = 60 ∧ ¬ c = 62 := ⟨fun w => q (Or.inl w), fun w => q (Or.inr (Or.inl w)), fun w => q (Or.inr (Or.inr (Or.inl w))), fun w => q (Or.inr (Or.inr (Or.inr (Or.inl w)))), fun w => q (Or.inr (Or.inr (Or.inr (Or.inr (Or.inl w))))), fun w => q (Or.inr (Or.inr (Or.inr (Or.inr (Or.inr (Or.inl w)))))), fun w => q (Or.inr (Or.inr (Or.inr (Or.inr (Or.inr (Or.inr (Or.inl w))))))), fun w => q (Or.inr (Or.inr (Or.inr (Or.inr (Or.inr (Or.inr (Or.inr (Or.inl w)))))))), fun w => q (Or.inr (Or.inr (Or.inr (Or.inr (Or.inr (Or.inr (Or.inr (Or.inr (Or.inl w))))))))), fun w => q (Or.inr (Or.inr (Or.inr (Or.inr (Or.inr (Or.inr (Or.inr (Or.inr (Or.inr w)))))))))⟩
      exact zr_sgo q q
  · exact zr_sgo ⟨by omega, by omega, by omega, by omega, by omega, by omega, by omega, by omega, by omega, by omega⟩ ⟨by omega, by omega, by omega, by omega, by omega, by omega, by omega, by omega, by omega, by omega⟩
/-- a token of both: the same place, the same next one, and what they say of it goes together; on it goes, or the text is at its end -/
theorem zr_tk2 {a b : Nat → Int} {n p : Nat} {w : Int} (h : ∀ j, j < n → zb_r (a j) (b j)) : zt_r (yp_tk2 a n p).1 (yp_tk2 a n p).2.1 (yq_tk2 b n p w).1 (yq_tk2 b n p w).2.1 ∧ (yp_tk2 a n p).2.2.1 = p ∧ (yq_tk2 b n p w).2.2.1 = p ∧ (yp_tk2 a n p).2.2.2 = (yq_tk2 b n p w).2.2.2 ∧ ((yp_tk2 a n p).1 = 21 ↔ n ≤ p) ∧ (n ≤ p → (yp_tk2 a n p).2.2.2 = p) ∧ (p < n → p < (yp_tk2 a n p).2.2.2 ∧ (yp_tk2 a n p).2.2.2 ≤ n) := by
  unfold yp_tk2 yq_tk2
  by_cases h0 : n ≤ p
  · rw [if_pos h0, if_pos h0]
    exact ⟨zt_0 ⟨rfl, rfl⟩, rfl, rfl, rfl, ⟨fun _ => h0, fun _ => rfl⟩, fun _ => rfl, fun w => by omega⟩
  have hp := h p (by omega)
  have e1 : yp_scn yp_le a n (n - p) = yp_scn yp_le b n (n - p) := zr_scn (fun j hj => zb_le (h j hj)) _ (by omega)
  have e2 : yp_scn yp_di a n (n - p) = yp_scn yp_di b n (n - p) := zr_scn (fun j hj => zb_di (h j hj)) _ (by omega)
  rw [if_neg h0, if_neg h0, e1, e2, ← zb_le hp, ← zb_di hp]
  by_cases h1 : yp_le (a p) = true
  · rw [if_pos h1, if_pos h1]
    have r := ys_r (P := yp_le) (b := b) (n := n) (n - p)
    have q := (ys_p (P := yp_le) (b := b) (n := n) (n - p) (by omega)).1
    have s1 : p < yp_scn yp_le b n (n - p) := by
      rw [ys_s (by omega) (by rw [← zb_le hp]; exact h1)]
      have := ys_r (P := yp_le) (b := b) (n := n) (n - (p + 1))
      omega
    have eb : ∀ j, j < yp_scn yp_le b n (n - p) - p → a (p + j) = b (p + j) ∧ 97 ≤ b (p + j) ∧ b (p + j) ≤ 122 := fun j hj => zb_ley (h (p + j) (by omega)) (q (p + j) (by omega) (by omega))
    by_cases h2 : 6 < yp_scn yp_le b n (n - p) - p
    · rw [if_pos h2]
      have e := zr_wn (b := b) (a := p) (m := yp_scn yp_le b n (n - p) - p) 20 (by decide) (fun k _ hk => zr_no hk h2)
      have k1 : yq_wk (-1) (yp_scn yp_le b n (n - p) - p) = 6 := by unfold yq_wk; rw [if_neg (by decide), if_pos h2]
      rw [e, k1]
      exact ⟨zt_9 ⟨rfl, rfl⟩, rfl, rfl, rfl, ⟨fun w => absurd w (show ¬ (22 : Int) = 21 by decide), fun w => absurd w h0⟩, fun w => absurd w h0, fun _ => ⟨s1, r.2⟩⟩
    · rw [if_neg h2]
      have z := zr_word (b := b) (a := p) (m := yp_scn yp_le b n (n - p) - p) (by omega) (fun j hj => (eb j hj).2)
      have pe : yp_pk a p (yp_scn yp_le b n (n - p) - p) = yp_pk b p (yp_scn yp_le b n (n - p) - p) := by
        rw [zr_pk _ (by omega), zr_pk _ (by omega)]
        exact zr_eq (fun j hj => (eb j hj).1) 6
      rw [pe]
      refine ⟨z, rfl, rfl, rfl, ⟨fun w => ?_, fun w => absurd w h0⟩, fun w => absurd w h0, fun _ => ⟨s1, r.2⟩⟩
      exfalso
      have w : (yp_kw (yp_pk b p (yp_scn yp_le b n (n - p) - p)) 20).1 = 21 := w
      unfold yq_wk at z
      rw [w] at z
      unfold zt_r at z
      by_cases w2 : 0 ≤ yq_wa b p (yp_scn yp_le b n (n - p) - p) 20
      · rw [if_pos w2] at z
        omega
      · rw [if_neg w2, if_neg h2] at z
        omega
  · rw [if_neg h1, if_neg h1]
    by_cases h2 : yp_di (a p) = true
    · rw [if_pos h2, if_pos h2]
      have r := ys_r (P := yp_di) (b := b) (n := n) (n - p)
      have q := (ys_p (P := yp_di) (b := b) (n := n) (n - p) (by omega)).1
      have s1 : p < yp_scn yp_di b n (n - p) := by
        rw [ys_s (by omega) (by rw [← zb_di hp]; exact h2)]
        have := ys_r (P := yp_di) (b := b) (n := n) (n - (p + 1))
        omega
      have eb : ∀ j, j < yp_scn yp_di b n (n - p) - p → a (p + j) = b (p + j) ∧ 48 ≤ b (p + j) ∧ b (p + j) ≤ 57 := fun j hj => zb_diy (h (p + j) (by omega)) (q (p + j) (by omega) (by omega))
      exact ⟨zt_6 ⟨rfl, rfl, zr_num _ eb⟩, rfl, rfl, rfl, ⟨fun w => absurd w (show ¬ (16 : Int) = 21 by decide), fun w => absurd w h0⟩, fun w => absurd w h0, fun _ => ⟨s1, r.2⟩⟩
    · rw [if_neg h2, if_neg h2]
      have hd : zb_r (if p + 1 < n then a (p + 1) else 0) (if p + 1 < n then b (p + 1) else 0) := by
        split
        · exact h _ (by assumption)
        · exact Or.inl ⟨rfl, by decide, by decide⟩
      have z := zr_sg (cv := 0) hp hd
      obtain ⟨z1, z2, z3, z4⟩ := z
      refine ⟨z1, rfl, rfl, by dsimp only; rw [z2], ⟨fun w => absurd w z4, fun w => absurd w h0⟩, fun w => absurd w h0, fun _ => ?_⟩
      have z3 : (yp_sg (a p) (if p + 1 < n then a (p + 1) else 0)).2 = 0 ∨ ((yp_sg (a p) (if p + 1 < n then a (p + 1) else 0)).2 = 1 ∧ p + 1 < n) := by
        rcases z3 with z3 | z3
        · exact Or.inl z3
        · refine Or.inr ⟨z3.1, ?_⟩
          by_cases w : p + 1 < n
          · exact w
          · exact absurd (if_neg w) z3.2
      dsimp only
      omega
theorem zr_skp {a b : Nat → Int} {n p : Nat} (h : ∀ j, j < n → zb_r (a j) (b j)) : yp_skp a n p = yp_skp b n p ∧ p ≤ yp_skp a n p ∧ (p ≤ n → yp_skp a n p ≤ n) := by
  have r := ys_r (P := yp_bl) (b := a) (n := n) (n - p)
  have e := zr_scn (P := yp_bl) (fun j hj => zb_bl (h j hj)) (n - p) (by omega)
  unfold yp_skp
  split
  · exact ⟨rfl, by omega, by omega⟩
  · exact ⟨e, by omega, by omega⟩
/-- the token under both readers -/
def zk_r (s m : zE) : Prop := s 60 4 = m 0 6 ∧ s 60 5 = m 0 7 ∧ s 60 7 = m 0 10 ∧ zt_r (s 60 6) (s 60 8) (m 0 8) (m 0 9)
def zl_r (s m : zE) : Prop := s 60 4 = m 0 6 ∧ s 60 5 = m 0 7 ∧ 0 ≤ s 60 5 ∧ s 60 5 ≤ s 60 4 ∧ s 60 4 ≤ 700 ∧ ∀ j : Nat, (j : Int) < s 60 4 → zb_r (s 1 j) (m 1 j)
theorem adv_4 {s : zE} : yp_adv s 60 4 = s 60 4 := rfl
theorem adv_fr {s : zE} {r j : Nat} (h : ¬ r = 60) : yp_adv s r j = s r j := by
  unfold yp_adv yp_lay
  rw [zup_ne (fun e _ => h e), zup_ne (fun e _ => h e), zup_ne (fun e _ => h e), zup_ne (fun e _ => h e)]
theorem tok_fr {s : zE} {r j : Nat} (h : ¬ r = 0) : yq_tok s r j = s r j := by
  unfold yq_tok yq_lay
  rw [zup_ne (fun e _ => h e), zup_ne (fun e _ => h e), zup_ne (fun e _ => h e), zup_ne (fun e _ => h e)]
theorem tok_f0 {s : zE} {j : Nat} (h : j < 7 ∨ 10 < j) : yq_tok s 0 j = s 0 j := by
  unfold yq_tok yq_lay
  rw [zup_ne (fun _ e => by omega), zup_ne (fun _ e => by omega), zup_ne (fun _ e => by omega), zup_ne (fun _ e => by omega)]
theorem zk_adv {s m : zE} (h : zl_r s m) : zl_r (yp_adv s) (yq_tok m) ∧ zk_r (yp_adv s) (yq_tok m) ∧ (yp_adv s 60 6 = 21 → yp_adv s 60 5 = s 60 4) ∧ (¬ yp_adv s 60 6 = 21 → s 60 5 < yp_adv s 60 5) ∧ s 60 5 ≤ yp_adv s 60 5 := by
  obtain ⟨h1, h2, h3, h4, h5, h6⟩ := h
  have hb : ∀ j, j < (s 60 4).toNat → zb_r (s 1 j) (m 1 j) := fun j hj => h6 j (by omega)
  have sk := zr_skp (p := (s 60 5).toNat) hb
  have t := zr_tk2 (p := yp_skp (s 1) (s 60 4).toNat (s 60 5).toNat) (w := m 0 9) hb
  have sk3 := sk.2.2 (by omega)
  have e1 : yq_tk (m 1) (m 0 6).toNat (m 0 7).toNat (m 0 9) = yq_tk2 (m 1) (s 60 4).toNat (yp_skp (s 1) (s 60 4).toNat (s 60 5).toNat) (m 0 9) := by
    unfold yq_tk
    rw [← h1, ← h2, ← sk.1]
  have a5 : yp_adv s 60 5 = ((yp_tk2 (s 1) (s 60 4).toNat (yp_skp (s 1) (s 60 4).toNat (s 60 5).toNat)).2.2.2 : Nat) := rfl
  have a6 : yp_adv s 60 6 = (yp_tk2 (s 1) (s 60 4).toNat (yp_skp (s 1) (s 60 4).toNat (s 60 5).toNat)).1 := rfl
  have a7 : yp_adv s 60 7 = ((yp_tk2 (s 1) (s 60 4).toNat (yp_skp (s 1) (s 60 4).toNat (s 60 5).toNat)).2.2.1 : Nat) := rfl
  have a8 : yp_adv s 60 8 = (yp_tk2 (s 1) (s 60 4).toNat (yp_skp (s 1) (s 60 4).toNat (s 60 5).toNat)).2.1 := rfl
  have b7 : yq_tok m 0 7 = ((yq_tk2 (m 1) (s 60 4).toNat (yp_skp (s 1) (s 60 4).toNat (s 60 5).toNat) (m 0 9)).2.2.2 : Nat) := by rw [← e1]; rfl
  have b8 : yq_tok m 0 8 = (yq_tk2 (m 1) (s 60 4).toNat (yp_skp (s 1) (s 60 4).toNat (s 60 5).toNat) (m 0 9)).1 := by rw [← e1]; rfl
  have b9 : yq_tok m 0 9 = (yq_tk2 (m 1) (s 60 4).toNat (yp_skp (s 1) (s 60 4).toNat (s 60 5).toNat) (m 0 9)).2.1 := by rw [← e1]; rfl
  have b10 : yq_tok m 0 10 = ((yq_tk2 (m 1) (s 60 4).toNat (yp_skp (s 1) (s 60 4).toNat (s 60 5).toNat) (m 0 9)).2.2.1 : Nat) := by rw [← e1]; rfl
  obtain ⟨t1, t2, t3, t4, t5, t6, t7⟩ := t
  have hs : ∀ j : Nat, (j : Int) < yp_adv s 60 4 → zb_r (yp_adv s 1 j) (yq_tok m 1 j) := h6
  refine ⟨⟨h1, by rw [a5, b7, t4], by rw [a5]; omega, ?_, h5, hs⟩, ⟨h1, by rw [a5, b7, t4], by rw [a7, b10, t2, t3], by rw [a6, a8, b8, b9]; exact t1⟩, ?_, ?_, ?_⟩
  · rw [a5, adv_4]
    by_cases w : (s 60 4).toNat ≤ yp_skp (s 1) (s 60 4).toNat (s 60 5).toNat
    · have := t6 w; omega
    · have := t7 (by omega); omega
  · intro w
    rw [a6] at w
    have := t6 (t5.mp w)
    have := t5.mp w
    rw [a5]
    omega
  · intro w
    rw [a6] at w
    have := t7 (by have := fun q => w (t5.mpr q); omega)
    rw [a5]
    omega
  · rw [a5]
    by_cases w : (s 60 4).toNat ≤ yp_skp (s 1) (s 60 4).toNat (s 60 5).toNat
    · have := t6 w; omega
    · have := t7 (by omega); omega
