/-! What both sheets hold, and the plain lines. -/
def yr_g (s m : zE) : Prop := 0 ≤ s 32 1 ∧ s 32 1 ≤ 12 ∧ s 32 1 = m 0 16 ∧ ∀ j : Nat, (j : Int) < s 32 1 → s 33 j = m 5 (12 + j) ∧ s 34 j = m 6 (12 + j) ∧ 0 ≤ s 34 j ∧ s 34 j ≤ 9
def yr_c (s m : zE) : Prop := 0 ≤ s 32 2 ∧ s 32 2 ≤ 4 ∧ s 32 2 = m 0 17 ∧ (∀ j : Nat, (j : Int) < s 32 2 → s (37 + j) 0 = m 7 (4 + j) ∧ s (37 + j) 1 = m 8 (4 + j) ∧ s (37 + j) 2 = m 9 (4 + j) ∧ s (37 + j) 3 = m 10 (4 + j) ∧ s (37 + j) 4 = m 11 (4 + j)) ∧ ∀ g : Nat, g ≤ 11 → s 35 g = yp_fd (fun k => m 7 (4 + k)) g (s 32 2).toNat (s 32 2).toNat
def yr_u (s m : zE) : Prop := 0 ≤ s 32 3 ∧ s 32 3 ≤ 4 ∧ s 32 3 = m 0 18 ∧ ∀ j : Nat, (j : Int) < s 32 3 → s 46 j = m 12 (4 + j) ∧ s (42 + j) 0 = m 13 (4 + j) ∧ s (42 + j) 1 = m 14 (4 + j) ∧ s (42 + j) 2 = m 15 (4 + j)
def yr_o (s m : zE) : Prop := (∀ w : Nat, w < 3 → s 61 w = m 3 w) ∧ s 32 4 = m 4 4 ∧ s 32 5 = m 4 5 ∧ s 32 6 = m 4 7 ∧ s 32 7 = m 4 6 ∧ (0 ≤ s 32 5 ∧ s 32 5 ≤ 99) ∧ 0 ≤ s 32 6 ∧ s 32 6 ≤ 9
def yr_l (s m : zE) : Prop := 0 ≤ s 47 0 ∧ s 47 0 ≤ 64 ∧ s 47 0 = m 0 44 ∧ s 47 1 = s 47 0 ∧ s 47 1 = m 0 19 ∧ ∀ l : Nat, l < 3 → (s 49 l < s 50 l ↔ ¬ m 16 (3 + l) = 0) ∧ (¬ m 16 (3 + l) = 0 → s 49 l = m 17 (3 + l) ∧ s 50 l = m 18 (3 + l))
def yr_x (s m : zE) : Prop := yr_g s m ∧ yr_c s m ∧ yr_u s m ∧ yr_o s m ∧ yr_l s m
theorem yg_fr {s s' m m' : zE} (h : yr_g s m) (a : ∀ r j, r = 33 ∨ r = 34 ∨ (r = 32 ∧ j = 1) → s' r j = s r j) (b : ∀ r j, r = 5 ∨ r = 6 ∨ (r = 0 ∧ j = 16) → m' r j = m r j) : yr_g s' m' := by
  unfold yr_g at h ⊢
  simp only [a 32 1 (by omega), b 0 16 (by omega)]
  exact ⟨h.1, h.2.1, h.2.2.1, fun j hj => by rw [a 33 j (by omega), a 34 j (by omega), b 5 _ (by omega), b 6 _ (by omega)]; exact h.2.2.2 j hj⟩
theorem yc_fr {s s' m m' : zE} (h : yr_c s m) (a : ∀ r j, r = 35 ∨ (37 ≤ r ∧ r ≤ 40) ∨ (r = 32 ∧ j = 2) → s' r j = s r j) (b : ∀ r j, (7 ≤ r ∧ r ≤ 11) ∨ (r = 0 ∧ j = 17) → m' r j = m r j) : yr_c s' m' := by
  unfold yr_c at h ⊢
  have e : (fun k => m' 7 (4 + k)) = (fun k => m 7 (4 + k)) := funext fun k => b 7 _ (by omega)
  simp only [a 32 2 (by omega), b 0 17 (by omega)]
  rw [e]
  refine ⟨h.1, h.2.1, h.2.2.1, fun j hj => ?_, fun g hg => by rw [a 35 g (by omega)]; exact h.2.2.2.2 g hg⟩
  have hj4 := h.2.1
  rw [a _ _ (by omega), a _ _ (by omega), a _ _ (by omega), a _ _ (by omega), a _ _ (by omega), b 7 _ (by omega), b 8 _ (by omega), b 9 _ (by omega), b 10 _ (by omega), b 11 _ (by omega)]
  exact h.2.2.2.1 j hj
theorem yu_fr {s s' m m' : zE} (h : yr_u s m) (a : ∀ r j, (42 ≤ r ∧ r ≤ 46) ∨ (r = 32 ∧ j = 3) → s' r j = s r j) (b : ∀ r j, (12 ≤ r ∧ r ≤ 15) ∨ (r = 0 ∧ j = 18) → m' r j = m r j) : yr_u s' m' := by
  unfold yr_u at h ⊢
  simp only [a 32 3 (by omega), b 0 18 (by omega)]
  refine ⟨h.1, h.2.1, h.2.2.1, fun j hj => ?_⟩
  have hj4 := h.2.1
  rw [a _ _ (by omega), a _ _ (by omega), a _ _ (by omega), a _ _ (by omega), b 12 _ (by omega), b 13 _ (by omega), b 14 _ (by omega), b 15 _ (by omega)]
  exact h.2.2.2 j hj
theorem yo_fr {s s' m m' : zE} (h : yr_o s m) (a : ∀ r j, r = 61 ∨ (r = 32 ∧ 4 ≤ j ∧ j ≤ 7) → s' r j = s r j) (b : ∀ r j, r = 3 ∨ r = 4 → m' r j = m r j) : yr_o s' m' := by
  unfold yr_o at h ⊢
  rw [a 32 4 (by omega), a 32 5 (by omega), a 32 6 (by omega), a 32 7 (by omega), b 4 _ (by omega), b 4 _ (by omega), b 4 _ (by omega), b 4 _ (by omega)]
  exact ⟨fun w hw => by rw [a 61 w (by omega), b 3 w (by omega)]; exact h.1 w hw, h.2⟩
theorem yl_fr {s s' m m' : zE} (h : yr_l s m) (a : ∀ r j, (47 ≤ r ∧ r ≤ 50) → s' r j = s r j) (b : ∀ r j, (16 ≤ r ∧ r ≤ 18) ∨ (r = 0 ∧ (j = 19 ∨ j = 44)) → m' r j = m r j) : yr_l s' m' := by
  unfold yr_l at h ⊢
  simp only [a 47 0 (by omega), a 47 1 (by omega), b 0 19 (by omega), b 0 44 (by omega)]
  refine ⟨h.1, h.2.1, h.2.2.1, h.2.2.2.1, h.2.2.2.2.1, fun l hl => ?_⟩
  rw [a 49 l (by omega), a 50 l (by omega), b 16 _ (by omega), b 17 _ (by omega), b 18 _ (by omega)]
  exact h.2.2.2.2.2 l hl
/-- a line: no, the same fault on both sides; or yes, and all goes together still -/
def yr_out (s : zE) (r : Int × zE) (s' : zE) : Prop := (r.1 = 0 ∧ zF_r s' r.2) ∨ (r.1 = 1 ∧ yr_Q s' r.2 ∧ yr_x s' r.2 ∧ s 60 5 < s' 60 5)
theorem yr_no {s m : zE} {s0 : zE} {w : Int} (h : yr_Q s m) (hw : ¬ w = 0) : yr_out s0 (yq_no w m) (yp_flw w (s 60 7) s) := Or.inl ⟨rfl, yr_wr h hw⟩
theorem yq_nt0 {lo hi : Int} {s : zE} {f : zE → Int × zE} (h : yq_ny lo hi s = 0) : yq_nt lo hi s f = (0, yq_ns lo hi s) := if_pos h
theorem yq_nt1 {lo hi : Int} {s : zE} {f : zE → Int × zE} (h : yq_ny lo hi s = 1) : yq_nt lo hi s f = f (yq_ns lo hi s) := if_neg (by omega)
theorem zd_1 {x : Int} (h : 0 ≤ x) (h2 : x ≤ 1000) : zd 0 1 x 1 = x + 1 := zd_a ⟨by omega, by omega⟩
theorem zd_12 {x y : Int} (h : 0 ≤ x ∧ x ≤ 1000) (h2 : 0 ≤ y ∧ y ≤ 1000) : (zd 0 1 y x).toNat = y.toNat + x.toNat := by
  rw [zd_a ⟨by omega, by omega⟩]
  omega
/-- a number is read and laid: what is where -/
theorem yr_st {s m : zE} {lo hi : Int} {r j : Nat} (h : yr_Q s m) (hh : hi ≤ 99999) (hr : ¬ r = 60) (hr1 : ¬ r = 1) : (yq_ny lo hi m = 0 ∧ zF_r (yp_rw lo hi r j s) (yq_ns lo hi m)) ∨ ∃ v, yq_ny lo hi m = 1 ∧ lo ≤ v ∧ v ≤ hi ∧ (∀ q i, ¬ q = 60 → yp_rw lo hi r j s q i = if q = r ∧ i = j then v else s q i) ∧ (∀ q i, ¬ q = 0 ∨ i < 7 ∨ 11 < i → yq_ns lo hi m q i = m q i) ∧ yq_ns lo hi m 0 11 = v ∧ yr_Q (yp_rw lo hi r j s) (yq_ns lo hi m) ∧ s 60 5 ≤ yp_rw lo hi r j s 60 5 ∧ ¬ s 60 6 = 21 := by
  rcases yr_rw (lo := lo) (j := j) h hh hr hr1 with a | a
  · exact Or.inl a
  · obtain ⟨a1, a2, a3, a4, a5, a6, a7⟩ := a
    refine Or.inr ⟨m 0 9, a1, a4, a5, fun q i hq => ?_, fun q i hq => ?_, ?_, a6, ?_, a7⟩
    · rw [a2]
      unfold zup
      rw [adv_fr hq]
    · rw [a3]
      by_cases w : q = 0
      · subst w
        rw [tok_f0 (by omega), zup_ne (fun _ e => by omega)]
      · rw [tok_fr w, zup_ne (fun e _ => w e)]
    · rw [a3, tok_f0 (by omega), zup_eq]
    · rw [a2, zup_ne (fun e _ => hr e.symm)]
      exact yr_le h
theorem tok_fx {m : zE} {q i : Nat} (h : ¬ q = 0 ∨ i < 7 ∨ 10 < i) : yq_tok m q i = m q i := by
  by_cases w : q = 0
  · subst w
    exact tok_f0 (by omega)
  · exact tok_fr w
theorem yr_grl {s m : zE} (h : yr_Q s m) (x : yr_x s m) : yr_out s (yq_grl m) (yp_grv s) := by
  obtain ⟨xg, xc, xu, xo, xl⟩ := x
  obtain ⟨g1, g2, g3, g4⟩ := id xg
  unfold yq_grl yp_grv
  by_cases q : m 0 16 = 12
  · rw [if_pos q, if_pos (by omega)]
    exact yr_no h (by decide)
  rw [if_neg q, if_neg (by omega)]
  have A := yr_adv h
  obtain ⟨k, hk⟩ : ∃ k : Nat, (s 32 1).toNat = k := ⟨_, rfl⟩
  rw [hk]
  rcases yr_st (lo := 1) (hi := 9) (r := 33) (j := k) A (by decide) (by decide) (by decide) with B | ⟨v, B1, _, _, B2, B3, B4, B5, B6, B7⟩
  · rw [yq_nt0 B.1]
    exact Or.inl ⟨rfl, st_F B.2 (st_tr (st_rw (by decide)) (st_inc (Or.inl (by decide))))⟩
  rw [yq_nt1 B1]
  have lt0 := yr_lt h B7
  clear B1
  generalize yp_rw 1 9 33 k (yp_adv s) = X at *
  generalize yq_ns 1 9 (yq_tok m) = M at *
  have ix : (zd 0 1 12 (M 0 16)).toNat = 12 + k := by rw [B3 _ _ (by omega), tok_f0 (by omega), zd_12 ⟨by omega, by omega⟩ ⟨by omega, by omega⟩, ← g3, hk]; rfl
  rw [ix, B4]
  have C := yr_um (r := 5) (j := 12 + k) (x := v) B5 (by decide) (Or.inl (by decide))
  rcases yr_st (lo := 0) (hi := 9) (r := 34) (j := k) C (by decide) (by decide) (by decide) with D | ⟨w, D1, Da, Db, D2, D3, D4, D5, D6, D7⟩
  · rw [yq_nt0 D.1]
    exact Or.inl ⟨rfl, st_F D.2 (st_inc (Or.inl (by decide)))⟩
  rw [yq_nt1 D1]
  clear D1
  generalize yp_rw 0 9 34 k X = Y at *
  generalize yq_ns 0 9 (zup M 5 (12 + k) v) = N at *
  have iy : (zd 0 1 12 (N 0 16)).toNat = 12 + k := by rw [D3 _ _ (by omega), zup_ne (fun e _ => absurd e (by decide)), ix]
  rw [iy, D4]
  refine Or.inr ⟨rfl, ?_, ⟨?_, ?_, ?_, ?_, ?_⟩, ?_⟩
  · exact yr_us (yr_um (yr_um D5 (by decide) (Or.inl (by decide))) (by decide) (Or.inr (by decide))) (by decide) (by decide)
  · have SX : ∀ q i, ¬ q = 60 → Y q i = if q = 34 ∧ i = k then w else if q = 33 ∧ i = k then v else s q i := fun q i hq => by rw [D2 q i hq, B2 q i hq, adv_fr hq]
    have MX : ∀ q i, ¬ q = 0 ∨ i < 7 ∨ 11 < i → N q i = if q = 5 ∧ i = 12 + k then v else m q i := fun q i hq => by
      rw [D3 q i hq]
      unfold zup
      rw [B3 q i hq, tok_fx (by omega)]
    have c1 : yp_inc 32 1 Y 32 1 = s 32 1 + 1 := by unfold yp_inc; rw [zup_eq, SX 32 1 (by decide), if_neg (by omega), if_neg (by omega), zd_1 (by omega) (by omega)]
    have c2 : ∀ y : Int, yq_inc 0 16 (zup N 6 (12 + k) y) 0 16 = m 0 16 + 1 := fun y => by unfold yq_inc; rw [zup_eq, zup_ne (fun e _ => absurd e (by decide)), MX 0 16 (by omega), if_neg (by omega), zd_1 (by omega) (by omega)]
    unfold yr_g
    dsimp only
    rw [c1, c2]
    refine ⟨by omega, by omega, by omega, fun j hj => ?_⟩
    have s3 : yp_inc 32 1 Y 33 j = if j = k then v else s 33 j := by
      unfold yp_inc
      rw [zup_ne (fun e _ => absurd e (by decide)), SX 33 j (by decide), if_neg (by omega)]
      by_cases e : j = k
      · rw [if_pos ⟨rfl, e⟩, if_pos e]
      · rw [if_neg (fun z => e z.2), if_neg e]
    have s4 : yp_inc 32 1 Y 34 j = if j = k then w else s 34 j := by
      unfold yp_inc
      rw [zup_ne (fun e _ => absurd e (by decide)), SX 34 j (by decide)]
      by_cases e : j = k
      · rw [if_pos ⟨rfl, e⟩, if_pos e]
      · rw [if_neg (fun z => e z.2), if_neg (by omega), if_neg e]
    have m5 : yq_inc 0 16 (zup N 6 (12 + k) w) 5 (12 + j) = if j = k then v else m 5 (12 + j) := by
      unfold yq_inc
      rw [zup_ne (fun e _ => absurd e (by decide)), zup_ne (fun e _ => absurd e (by decide)), MX 5 _ (by omega)]
      by_cases e : j = k
      · rw [if_pos ⟨rfl, by omega⟩, if_pos e]
      · rw [if_neg (by omega), if_neg e]
    have m6 : yq_inc 0 16 (zup N 6 (12 + k) w) 6 (12 + j) = if j = k then w else m 6 (12 + j) := by
      unfold yq_inc
      rw [zup_ne (fun e _ => absurd e (by decide))]
      by_cases e : j = k
      · rw [e, zup_eq, if_pos rfl]
      · rw [zup_ne (fun _ f => by omega), MX 6 _ (by omega), if_neg (by omega), if_neg e]
    rw [s3, s4, m5, m6]
    by_cases e : j = k
    · rw [if_pos e, if_pos e, if_pos e, if_pos e]
      exact ⟨rfl, rfl, Da, Db⟩
    · rw [if_neg e, if_neg e, if_neg e, if_neg e]
      exact g4 j (by omega)
  · exact yc_fr xc (fun r j hr => by unfold yp_inc; grind [zup, adv_fr]) (fun r j hr => by unfold yq_inc; grind [zup, tok_fx])
  · exact yu_fr xu (fun r j hr => by unfold yp_inc; grind [zup, adv_fr]) (fun r j hr => by unfold yq_inc; grind [zup, tok_fx])
  · exact yo_fr xo (fun r j hr => by unfold yp_inc; grind [zup, adv_fr]) (fun r j hr => by unfold yq_inc; grind [zup, tok_fx])
  · exact yl_fr xl (fun r j hr => by unfold yp_inc; grind [zup, adv_fr]) (fun r j hr => by unfold yq_inc; grind [zup, tok_fx])
  · show s 60 5 < Y 60 5
    omega
/-- the first place, one place more -/
theorem fd_r {f : Nat → Int} {x : Int} {n : Nat} : ∀ j, j ≤ n → yp_fd f x n j = -1 ∨ 0 ≤ yp_fd f x n j
  | 0, _ => Or.inl rfl
  | j + 1, h => by
    rw [yp_fd]
    split
    · right; omega
    · exact fd_r j (by omega)
theorem fd_c {f g : Nat → Int} {x : Int} {n : Nat} (e : ∀ i, i < n → f i = g i) : ∀ j, j ≤ n → yp_fd f x n j = yp_fd g x n j
  | 0, _ => rfl
  | j + 1, h => by rw [yp_fd, yp_fd, e _ (by omega), fd_c e j (by omega)]
theorem fd_1 {f : Nat → Int} {x : Int} {n : Nat} : ∀ j, j ≤ n → yp_fd f x (n + 1) (j + 1) = if yp_fd f x n j = -1 then (if f n = x then (n : Int) else -1) else yp_fd f x n j
  | 0, _ => by
    rw [yp_fd]
    show _ = if (-1 : Int) = -1 then _ else _
    rw [if_pos rfl]
    rfl
  | j + 1, h => by
    rw [yp_fd, fd_1 j (by omega)]
    conv => rhs; rw [yp_fd]
    rw [show n + 1 - (j + 1 + 1) = n - (j + 1) by omega]
    by_cases q : f (n - (j + 1)) = x
    · rw [if_pos q, if_pos q, if_neg (by omega)]
    · rw [if_neg q, if_neg q]
theorem yr_scl {s m : zE} (h : yr_Q s m) (x : yr_x s m) : yr_out s (yq_scl m) (yp_scr s) := by
  obtain ⟨xg, xc, xu, xo, xl⟩ := x
  obtain ⟨g1, g2, g3, g4, g5⟩ := id xc
  unfold yq_scl yp_scr
  by_cases q : m 0 17 = 4
  · rw [if_pos q, if_pos (by omega)]
    exact yr_no h (by decide)
  rw [if_neg q, if_neg (by omega)]
  have A := yr_adv h
  obtain ⟨k, hk⟩ : ∃ k : Nat, (s 32 2).toNat = k := ⟨_, rfl⟩
  have hk4 : k ≤ 3 := by omega
  have ix : (zd 0 1 4 (yq_tok m 0 17)).toNat = 4 + k := by rw [tok_f0 (by omega), zd_12 ⟨by omega, by omega⟩ ⟨by omega, by omega⟩, ← g3, hk]; rfl
  rw [hk, ix]
  rcases yr_num (lo := 0) (hi := 11) A (by decide) with B | ⟨B1, B2, B3, B4, B5, B6, B7⟩
  · rw [yq_nt0 B.1]
    exact Or.inl ⟨rfl, st_F B.2 (st_sc2 (by omega))⟩
  rw [yq_nt1 B1]
  have lt0 := yr_lt h B7
  have lt1 : yp_adv s 60 5 ≤ yp_adv (yp_adv s) 60 5 := yr_le A
  have pe : yp_adv s 60 7 = yq_tok m 0 10 := A.2.1.2.2.1
  have QT := yr_adv (yr_um (r := 0) (j := 11) (x := yq_tok m 0 9) A (by decide) (Or.inr (by decide)))
  rw [← B3] at QT
  have T1 : ∀ q i, ¬ q = 60 → yp_adv (yp_adv s) q i = s q i := fun q i hq => by rw [adv_fr hq, adv_fr hq]
  have U1 : ∀ q i, ¬ q = 0 ∨ i < 7 ∨ 11 < i → yq_ns 0 11 (yq_tok m) q i = m q i := fun q i hq => by
    rw [B3, tok_fx (by omega), zup_ne (fun e f => by omega), tok_fx (by omega)]
  have U2 : yq_ns 0 11 (yq_tok m) 0 11 = yq_tok m 0 9 := by rw [B3, tok_fx (by omega), zup_eq]
  rw [B2, B4]
  clear B1 B2 B3 B4
  generalize hg : yq_tok m 0 9 = g at *
  generalize yp_adv (yp_adv s) = T at *
  generalize yq_ns 0 11 (yq_tok m) = U at *
  have ef : (fun k => U 7 (4 + k)) = fun k => m 7 (4 + k) := funext fun k => U1 _ _ (by omega)
  have f5 := g5 g.toNat (by omega)
  rw [show ((g.toNat : Nat) : Int) = g by omega, hk] at f5
  unfold yp_scr2 yq_sc2
  rw [if_neg (show ¬ ¬ T 60 0 = 0 from fun w => w QT.1), T1 35 _ (by decide), f5, U2, U1 0 17 (by omega), ← g3, hk, ef]
  rcases fd_r (f := fun k => m 7 (4 + k)) (x := g) (n := k) k (Nat.le_refl _) with w | w
  case inr =>
    rw [if_pos w, if_pos (fun e => by omega)]
    refine Or.inl ⟨rfl, ?_⟩
    unfold yp_flw
    rw [if_pos QT.1]
    exact ⟨show ¬ (3 : Int) = 0 by decide, rfl, pe⟩
  rw [if_neg (by omega), if_neg (fun e => e w)]
  unfold yp_scr3 yp_scr4
  have C := yr_us (r := 37 + k) (j := 0) (x := g) (yr_um (r := 7) (j := 4 + k) (x := g) QT (by decide) (Or.inl (by decide))) (by omega) (by omega)
  rcases yr_st (lo := 0) (hi := 100) (r := 37 + k) (j := 1) C (by decide) (by omega) (by omega) with D | ⟨v1, D1, Da, Db, D2, D3, D4, D5, D6, D7⟩
  · rw [yq_nt0 D.1]
    exact Or.inl ⟨rfl, st_F D.2 (st_tr (st_rw (by omega)) (st_tr (st_sc4 (by omega)) (st_tr (st_zup (Or.inl (by decide))) (st_inc (Or.inl (by decide))))))⟩
  rw [yq_nt1 D1]
  clear D1 C
  have D6 : T 60 5 ≤ yp_rw 0 100 (37 + k) 1 (zup T (37 + k) 0 g) 60 5 := by
    rw [zup_ne (fun e _ => by omega)] at D6
    exact D6
  generalize yp_rw 0 100 (37 + k) 1 (zup T (37 + k) 0 g) = X1 at *
  generalize yq_ns 0 100 (zup U 7 (4 + k) g) = M1 at *
  unfold yq_sc3
  rw [D4]
  have C := yr_um (r := 8) (j := 4 + k) (x := v1) D5 (by decide) (Or.inl (by decide))
  rcases yr_st (lo := 1) (hi := 9) (r := 37 + k) (j := 2) C (by decide) (by omega) (by omega) with E | ⟨v2, E1, _, _, E2, E3, E4, E5, E6, E7⟩
  · rw [yq_nt0 E.1]
    exact Or.inl ⟨rfl, st_F E.2 (st_tr (st_sc4 (by omega)) (st_tr (st_zup (Or.inl (by decide))) (st_inc (Or.inl (by decide)))))⟩
  rw [yq_nt1 E1]
  clear E1 C D5
  generalize yp_rw 1 9 (37 + k) 2 X1 = X2 at *
  generalize yq_ns 1 9 (zup M1 8 (4 + k) v1) = M2 at *
  unfold yq_sc4
  rw [E4]
  have C := yr_um (r := 9) (j := 4 + k) (x := v2) E5 (by decide) (Or.inl (by decide))
  have hx : X2 (37 + k) 1 = v1 := by rw [E2 _ _ (by omega), if_neg (by omega), D2 _ _ (by omega), if_pos ⟨rfl, rfl⟩]
  have hm : zup M2 9 (4 + k) v2 8 (4 + k) = v1 := by rw [zup_ne (fun e _ => absurd e (by decide)), E3 _ _ (by omega), zup_eq]
  rw [hx, hm]
  have h100 : zd 0 2 100 v1 = 100 - v1 := zd_s ⟨by omega, by omega⟩
  rw [h100]
  rcases yr_st (lo := 0) (hi := 100 - v1) (r := 37 + k) (j := 3) C (by omega) (by omega) (by omega) with F | ⟨v3, F1, _, _, F2, F3, F4, F5, F6, F7⟩
  · rw [yq_nt0 F.1]
    exact Or.inl ⟨rfl, st_F F.2 (st_tr (st_rw (by omega)) (st_tr (st_zup (Or.inl (by decide))) (st_inc (Or.inl (by decide)))))⟩
  rw [yq_nt1 F1]
  clear F1 C E5
  generalize yp_rw 0 (100 - v1) (37 + k) 3 X2 = X3 at *
  generalize yq_ns 0 (100 - v1) (zup M2 9 (4 + k) v2) = M3 at *
  unfold yq_sc5
  rw [F4]
  have C := yr_um (r := 10) (j := 4 + k) (x := v3) F5 (by decide) (Or.inl (by decide))
  rcases yr_st (lo := 1) (hi := 9) (r := 37 + k) (j := 4) C (by decide) (by omega) (by omega) with G | ⟨v4, G1, _, _, G2, G3, G4, G5, G6, G7⟩
  · rw [yq_nt0 G.1]
    exact Or.inl ⟨rfl, st_F G.2 (st_tr (st_zup (Or.inl (by decide))) (st_inc (Or.inl (by decide))))⟩
  rw [yq_nt1 G1]
  clear G1 C F5
  generalize yp_rw 1 9 (37 + k) 4 X3 = X4 at *
  generalize yq_ns 1 9 (zup M3 10 (4 + k) v3) = M4 at *
  rw [G4]
  have SX : ∀ q i, ¬ q = 60 → X4 q i = if q = 37 + k ∧ i = 4 then v4 else if q = 37 + k ∧ i = 3 then v3 else if q = 37 + k ∧ i = 2 then v2 else if q = 37 + k ∧ i = 1 then v1 else if q = 37 + k ∧ i = 0 then g else s q i := fun q i hq => by
    rw [G2 q i hq, F2 q i hq, E2 q i hq, D2 q i hq, ← T1 q i hq]
    rfl
  have MX : ∀ q i, ¬ q = 0 ∨ i < 7 ∨ 11 < i → M4 q i = if q = 10 ∧ i = 4 + k then v3 else if q = 9 ∧ i = 4 + k then v2 else if q = 8 ∧ i = 4 + k then v1 else if q = 7 ∧ i = 4 + k then g else m q i := fun q i hq => by
    rw [G3 q i hq]
    unfold zup
    rw [F3 q i hq]
    unfold zup
    rw [E3 q i hq]
    unfold zup
    rw [D3 q i hq]
    unfold zup
    rw [U1 q i hq]
  clear D2 D3 E2 E3 F2 F3 G2 G3
  refine Or.inr ⟨rfl, ?_, ⟨?_, ?_, ?_, ?_, ?_⟩, ?_⟩
  · exact yr_us (yr_us (yr_um (yr_um G5 (by decide) (Or.inl (by decide))) (by decide) (Or.inr (by decide))) (by decide) (by decide)) (by decide) (by decide)
  · exact yg_fr xg (fun r j hr => by unfold yp_inc; rw [zup_ne (fun e f => by omega), zup_ne (fun e f => by omega), SX r j (by omega), if_neg (by omega), if_neg (by omega), if_neg (by omega), if_neg (by omega), if_neg (by omega)]) (fun r j hr => by unfold yq_inc; dsimp only; rw [zup_ne (fun e f => by omega), zup_ne (fun e f => by omega), MX r j (by omega), if_neg (by omega), if_neg (by omega), if_neg (by omega), if_neg (by omega)])
  · have c1 : ∀ y : Int, yp_inc 32 2 (zup X4 35 g.toNat y) 32 2 = s 32 2 + 1 := fun y => by unfold yp_inc; rw [zup_eq, zup_ne (fun e _ => absurd e (by decide)), SX 32 2 (by decide), if_neg (by omega), if_neg (by omega), if_neg (by omega), if_neg (by omega), if_neg (by omega), zd_1 (by omega) (by omega)]
    have c2 : ∀ y : Int, yq_inc 0 17 (zup M4 11 (4 + k) y) 0 17 = m 0 17 + 1 := fun y => by unfold yq_inc; rw [zup_eq, zup_ne (fun e _ => absurd e (by decide)), MX 0 17 (by omega), if_neg (by omega), if_neg (by omega), if_neg (by omega), if_neg (by omega), zd_1 (by omega) (by omega)]
    have c3 : ∀ (y : Int) i, yq_inc 0 17 (zup M4 11 (4 + k) y) 7 (4 + i) = if i = k then g else m 7 (4 + i) := fun y i => by
      unfold yq_inc
      rw [zup_ne (fun e f => by omega), zup_ne (fun e f => by omega), MX 7 _ (by omega), if_neg (by omega), if_neg (by omega), if_neg (by omega)]
      by_cases e : i = k
      · rw [if_pos ⟨rfl, by omega⟩, if_pos e]
      · rw [if_neg (by omega), if_neg e]
    unfold yr_c
    dsimp only
    rw [c1, c2]
    refine ⟨by omega, by omega, by omega, fun j hj => ?_, fun g' hg' => ?_⟩
    · rw [c3]
      have a0 : ∀ q i (y : Int), 37 ≤ q → q ≤ 40 → yp_inc 32 2 (zup X4 35 g.toNat y) q i = X4 q i := fun q i y h1 h2 => by unfold yp_inc; rw [zup_ne (fun e f => by omega), zup_ne (fun e f => by omega)]
      have a1 : ∀ q i (y : Int), 8 ≤ q → q ≤ 10 → yq_inc 0 17 (zup M4 11 (4 + k) y) q i = M4 q i := fun q i y h1 h2 => by unfold yq_inc; rw [zup_ne (fun e f => by omega), zup_ne (fun e f => by omega)]
      have a2 : ∀ y : Int, yq_inc 0 17 (zup M4 11 (4 + k) y) 11 (4 + j) = if j = k then y else m 11 (4 + j) := fun y => by
        unfold yq_inc
        rw [zup_ne (fun e f => by omega)]
        by_cases e : j = k
        · rw [e, zup_eq, if_pos rfl]
        · rw [zup_ne (fun _ f => by omega), MX 11 _ (by omega), if_neg (by omega), if_neg (by omega), if_neg (by omega), if_neg (by omega), if_neg e]
      rw [a0 _ _ _ (by omega) (by omega), a0 _ _ _ (by omega) (by omega), a0 _ _ _ (by omega) (by omega), a0 _ _ _ (by omega) (by omega), a0 _ _ _ (by omega) (by omega), a1 _ _ _ (by omega) (by omega), a1 _ _ _ (by omega) (by omega), a1 _ _ _ (by omega) (by omega), a2, SX _ _ (by omega), SX _ _ (by omega), SX _ _ (by omega), SX _ _ (by omega), SX _ _ (by omega), MX 8 _ (by omega), MX 9 _ (by omega), MX 10 _ (by omega)]
      by_cases e : j = k
      · subst e
        simp
      · have g6 := g4 j (by omega)
        simp [e, show ¬ 37 + j = 37 + k by omega, g6]
    · have eg : (fun i => yq_inc 0 17 (zup M4 11 (4 + k) v4) 7 (4 + i)) = fun i => if i = k then g else m 7 (4 + i) := funext (c3 v4)
      rw [show (s 32 2 + 1).toNat = k + 1 by omega, eg, fd_1 k (Nat.le_refl _), fd_c (g := fun i => m 7 (4 + i)) (fun i hi => if_neg (by omega)) k (Nat.le_refl _)]
      have f6 := g5 g' hg'
      rw [hk] at f6
      rw [← f6, if_pos (rfl : k = k)]
      unfold yp_inc
      by_cases e : (g' : Int) = g
      · rw [if_pos (show s 35 g' = -1 by rw [f6, e]; exact w), if_pos e.symm, zup_ne (fun e _ => absurd e (by decide)), show g.toNat = g' by omega, zup_eq]
      · have L : zup (zup X4 35 g.toNat (k : Int)) 32 2 (zd 0 1 (zup X4 35 g.toNat (k : Int) 32 2) 1) 35 g' = s 35 g' := by
          rw [zup_ne (fun e _ => absurd e (by decide)), zup_ne (fun _ f => e (by omega)), SX 35 g' (by decide), if_neg (by omega), if_neg (by omega), if_neg (by omega), if_neg (by omega), if_neg (by omega)]
        rw [L]
        by_cases f : s 35 g' = -1
        · rw [if_pos f, if_neg (fun z => e z.symm), f]
        · rw [if_neg f]
  · exact yu_fr xu (fun r j hr => by unfold yp_inc; rw [zup_ne (fun e f => by omega), zup_ne (fun e f => by omega), SX r j (by omega), if_neg (by omega), if_neg (by omega), if_neg (by omega), if_neg (by omega), if_neg (by omega)]) (fun r j hr => by unfold yq_inc; dsimp only; rw [zup_ne (fun e f => by omega), zup_ne (fun e f => by omega), MX r j (by omega), if_neg (by omega), if_neg (by omega), if_neg (by omega), if_neg (by omega)])
  · exact yo_fr xo (fun r j hr => by unfold yp_inc; rw [zup_ne (fun e f => by omega), zup_ne (fun e f => by omega), SX r j (by omega), if_neg (by omega), if_neg (by omega), if_neg (by omega), if_neg (by omega), if_neg (by omega)]) (fun r j hr => by unfold yq_inc; dsimp only; rw [zup_ne (fun e f => by omega), zup_ne (fun e f => by omega), MX r j (by omega), if_neg (by omega), if_neg (by omega), if_neg (by omega), if_neg (by omega)])
  · exact yl_fr xl (fun r j hr => by unfold yp_inc; rw [zup_ne (fun e f => by omega), zup_ne (fun e f => by omega), SX r j (by omega), if_neg (by omega), if_neg (by omega), if_neg (by omega), if_neg (by omega), if_neg (by omega)]) (fun r j hr => by unfold yq_inc; dsimp only; rw [zup_ne (fun e f => by omega), zup_ne (fun e f => by omega), MX r j (by omega), if_neg (by omega), if_neg (by omega), if_neg (by omega), if_neg (by omega)])
  · show s 60 5 < X4 60 5
    omega
theorem yr_gul {s m : zE} (h : yr_Q s m) (x : yr_x s m) : yr_out s (yq_gul m) (yp_gst s) := by
  obtain ⟨xg, xc, xu, xo, xl⟩ := x
  obtain ⟨g1, g2, g3, g4⟩ := id xu
  unfold yq_gul yp_gst
  by_cases q : m 0 18 = 4
  · rw [if_pos q, if_pos (by omega)]
    exact yr_no h (by decide)
  rw [if_neg q, if_neg (by omega)]
  have A := yr_adv h
  obtain ⟨k, hk⟩ : ∃ k : Nat, (s 32 3).toNat = k := ⟨_, rfl⟩
  have hk4 : k ≤ 3 := by omega
  have T1 : ∀ q i, ¬ q = 60 → yp_adv s q i = s q i := fun q i hq => adv_fr hq
  have U1 : ∀ q i, ¬ q = 0 ∨ i < 7 ∨ 11 < i → yq_tok m q i = m q i := fun q i hq => tok_fx (by omega)
  have lt0 : ¬ yp_adv s 60 6 = 21 → s 60 5 < yp_adv s 60 5 := yr_lt h
  rw [hk]
  generalize yp_adv s = T at *
  generalize yq_tok m = U at *
  have kk := A.2.1.2.2.2
  unfold yp_gst2 yq_gu2
  by_cases q1 : U 0 8 = 2
  case neg =>
    rw [if_pos q1, if_pos (fun w => q1 (by unfold zt_r at kk; omega))]
    exact yr_no A (by decide)
  have q2 : T 60 6 = 20 ∧ T 60 8 = U 0 9 := by unfold zt_r at kk; omega
  have ix : (zd 0 1 4 (U 0 18)).toNat = 4 + k := by rw [U1 _ _ (by omega), zd_12 ⟨by omega, by omega⟩ ⟨by omega, by omega⟩, ← g3, hk]; rfl
  rw [if_neg (show ¬ ¬ U 0 8 = 2 from fun w => w q1), if_neg (show ¬ ¬ T 60 6 = 20 from fun w => w q2.1), U1 0 18 (by omega), ← g3, hk, q2.2]
  have ef : yp_fd (fun k => U 12 (4 + k)) (U 0 9) k k = yp_fd (T 46) (U 0 9) k k := fd_c (fun i hi => by rw [U1 _ _ (by omega), T1 46 i (by decide)]; exact (g4 i (by omega)).1.symm) k (Nat.le_refl _)
  rw [ef]
  rcases fd_r (f := T 46) (x := U 0 9) (n := k) k (Nat.le_refl _) with w | w
  case inr =>
    rw [if_pos w, if_pos (fun e => by omega)]
    exact yr_no A (by decide)
  rw [if_neg (by omega), if_neg (fun e => e w)]
  rw [show (zd 0 1 4 (s 32 3)).toNat = 4 + k by rw [g3, ← U1 0 18 (by omega), ix]]
  unfold yp_gst3 yq_gu3
  rw [q2.2]
  have lt0 := lt0 (by omega)
  obtain ⟨nm, hnm⟩ : ∃ nm, U 0 9 = nm := ⟨_, rfl⟩
  rw [hnm]
  have B := yr_adv (yr_us (r := 46) (j := k) (x := nm) (yr_um (r := 12) (j := 4 + k) (x := nm) A (by decide) (Or.inl (by decide))) (by decide) (by decide))
  have T2 : ∀ q i, ¬ q = 60 → yp_adv (zup T 46 k nm) q i = if q = 46 ∧ i = k then nm else s q i := fun q i hq => by
    rw [adv_fr hq, ← T1 q i hq]
    rfl
  have U2 : ∀ q i, ¬ q = 0 ∨ i < 7 ∨ 11 < i → yq_tok (zup U 12 (4 + k) nm) q i = if q = 12 ∧ i = 4 + k then nm else m q i := fun q i hq => by
    rw [tok_fx (by omega), ← U1 q i hq]
    rfl
  have lt1 : T 60 5 ≤ yp_adv (zup T 46 k nm) 60 5 := yr_le (yr_us (r := 46) (j := k) (x := nm) A (by decide) (by decide))
  generalize yp_adv (zup T 46 k nm) = T at *
  generalize yq_tok (zup U 12 (4 + k) nm) = U at *
  rcases yr_st (lo := 1) (hi := 9) (r := 42 + k) (j := 0) B (by decide) (by omega) (by omega) with D | ⟨v1, D1, Da, Db, D2, D3, D4, D5, D6, D7⟩
  · rw [yq_nt0 D.1]
    exact Or.inl ⟨rfl, st_F D.2 (st_tr (st_rw (by omega)) (st_tr (st_rw (by omega)) (st_inc (Or.inl (by decide)))))⟩
  rw [yq_nt1 D1]
  clear D1
  generalize yp_rw 1 9 (42 + k) 0 T = X1 at *
  generalize yq_ns 1 9 U = M1 at *
  rw [D4]
  have C := yr_um (r := 13) (j := 4 + k) (x := v1) D5 (by decide) (Or.inl (by decide))
  rcases yr_st (lo := 0) (hi := 9) (r := 42 + k) (j := 1) C (by decide) (by omega) (by omega) with E | ⟨v2, E1, _, _, E2, E3, E4, E5, E6, E7⟩
  · rw [yq_nt0 E.1]
    exact Or.inl ⟨rfl, st_F E.2 (st_tr (st_rw (by omega)) (st_inc (Or.inl (by decide))))⟩
  rw [yq_nt1 E1]
  clear E1 C D5
  generalize yp_rw 0 9 (42 + k) 1 X1 = X2 at *
  generalize yq_ns 0 9 (zup M1 13 (4 + k) v1) = M2 at *
  unfold yq_gu4
  rw [E4]
  have C := yr_um (r := 14) (j := 4 + k) (x := v2) E5 (by decide) (Or.inl (by decide))
  rcases yr_st (lo := 0) (hi := 99) (r := 42 + k) (j := 2) C (by decide) (by omega) (by omega) with F | ⟨v3, F1, _, _, F2, F3, F4, F5, F6, F7⟩
  · rw [yq_nt0 F.1]
    exact Or.inl ⟨rfl, st_F F.2 (st_inc (Or.inl (by decide)))⟩
  rw [yq_nt1 F1]
  clear F1 C E5
  generalize yp_rw 0 99 (42 + k) 2 X2 = X3 at *
  generalize yq_ns 0 99 (zup M2 14 (4 + k) v2) = M3 at *
  rw [F4]
  have SX : ∀ q i, ¬ q = 60 → X3 q i = if q = 42 + k ∧ i = 2 then v3 else if q = 42 + k ∧ i = 1 then v2 else if q = 42 + k ∧ i = 0 then v1 else if q = 46 ∧ i = k then nm else s q i := fun q i hq => by
    rw [F2 q i hq, E2 q i hq, D2 q i hq, T2 q i hq]
  have MX : ∀ q i, ¬ q = 0 ∨ i < 7 ∨ 11 < i → M3 q i = if q = 14 ∧ i = 4 + k then v2 else if q = 13 ∧ i = 4 + k then v1 else if q = 12 ∧ i = 4 + k then nm else m q i := fun q i hq => by
    rw [F3 q i hq]
    unfold zup
    rw [E3 q i hq]
    unfold zup
    rw [D3 q i hq, U2 q i hq]
  clear D2 D3 E2 E3 F2 F3 T2 U2 T1 U1
  refine Or.inr ⟨rfl, ?_, ⟨?_, ?_, ?_, ?_, ?_⟩, ?_⟩
  · exact yr_us (yr_um (yr_um F5 (by decide) (Or.inl (by decide))) (by decide) (Or.inr (by decide))) (by decide) (by decide)
  · exact yg_fr xg (fun r j hr => by unfold yp_inc; rw [zup_ne (fun e f => by omega), SX r j (by omega), if_neg (by omega), if_neg (by omega), if_neg (by omega), if_neg (by omega)]) (fun r j hr => by unfold yq_inc; dsimp only; rw [zup_ne (fun e f => by omega), zup_ne (fun e f => by omega), MX r j (by omega), if_neg (by omega), if_neg (by omega), if_neg (by omega)])
  · exact yc_fr xc (fun r j hr => by unfold yp_inc; rw [zup_ne (fun e f => by omega), SX r j (by omega), if_neg (by omega), if_neg (by omega), if_neg (by omega), if_neg (by omega)]) (fun r j hr => by unfold yq_inc; dsimp only; rw [zup_ne (fun e f => by omega), zup_ne (fun e f => by omega), MX r j (by omega), if_neg (by omega), if_neg (by omega), if_neg (by omega)])
  · have c1 : yp_inc 32 3 X3 32 3 = s 32 3 + 1 := by unfold yp_inc; rw [zup_eq, SX 32 3 (by decide), if_neg (by omega), if_neg (by omega), if_neg (by omega), if_neg (by omega), zd_1 (by omega) (by omega)]
    have c2 : ∀ y : Int, yq_inc 0 18 (zup M3 15 (4 + k) y) 0 18 = m 0 18 + 1 := fun y => by unfold yq_inc; rw [zup_eq, zup_ne (fun e _ => absurd e (by decide)), MX 0 18 (by omega), if_neg (by omega), if_neg (by omega), if_neg (by omega), zd_1 (by omega) (by omega)]
    unfold yr_u
    dsimp only
    rw [c1, c2]
    refine ⟨by omega, by omega, by omega, fun j hj => ?_⟩
    have a0 : ∀ q i, 42 ≤ q → yp_inc 32 3 X3 q i = X3 q i := fun q i h1 => by unfold yp_inc; rw [zup_ne (fun e f => by omega)]
    have a1 : ∀ q i (y : Int), 12 ≤ q → q ≤ 14 → yq_inc 0 18 (zup M3 15 (4 + k) y) q i = M3 q i := fun q i y h1 h2 => by unfold yq_inc; rw [zup_ne (fun e f => by omega), zup_ne (fun e f => by omega)]
    have a2 : ∀ y : Int, yq_inc 0 18 (zup M3 15 (4 + k) y) 15 (4 + j) = if j = k then y else m 15 (4 + j) := fun y => by
      unfold yq_inc
      rw [zup_ne (fun e f => by omega)]
      by_cases e : j = k
      · rw [e, zup_eq, if_pos rfl]
      · rw [zup_ne (fun _ f => by omega), MX 15 _ (by omega), if_neg (by omega), if_neg (by omega), if_neg (by omega), if_neg e]
    rw [a0 _ _ (by omega), a0 _ _ (by omega), a0 _ _ (by omega), a0 _ _ (by omega), a1 _ _ _ (by omega) (by omega), a1 _ _ _ (by omega) (by omega), a1 _ _ _ (by omega) (by omega), a2, SX _ _ (by omega), SX _ _ (by omega), SX _ _ (by omega), SX _ _ (by omega), MX 12 _ (by omega), MX 13 _ (by omega), MX 14 _ (by omega)]
    by_cases e : j = k
    · subst e
      have n46 : ¬ 46 = 42 + j := by omega
      simp [n46]
    · have g6 := g4 j (by omega)
      have n1 : ¬ 46 = 42 + k := by omega
      have n2 : ¬ 42 + j = 46 := by omega
      simp [e, n1, n2, g6]
  · exact yo_fr xo (fun r j hr => by unfold yp_inc; rw [zup_ne (fun e f => by omega), SX r j (by omega), if_neg (by omega), if_neg (by omega), if_neg (by omega), if_neg (by omega)]) (fun r j hr => by unfold yq_inc; dsimp only; rw [zup_ne (fun e f => by omega), zup_ne (fun e f => by omega), MX r j (by omega), if_neg (by omega), if_neg (by omega), if_neg (by omega)])
  · exact yl_fr xl (fun r j hr => by unfold yp_inc; rw [zup_ne (fun e f => by omega), SX r j (by omega), if_neg (by omega), if_neg (by omega), if_neg (by omega), if_neg (by omega)]) (fun r j hr => by unfold yq_inc; dsimp only; rw [zup_ne (fun e f => by omega), zup_ne (fun e f => by omega), MX r j (by omega), if_neg (by omega), if_neg (by omega), if_neg (by omega)])
  · show s 60 5 < X3 60 5
    omega
