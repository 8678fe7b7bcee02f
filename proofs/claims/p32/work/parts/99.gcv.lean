/-! Both readers: an E, a law, a line, a text. -/
theorem st_lwl : ∀ {n : Nat} {w : Int} {s : zE}, zS_r s (yp_lwl n w s)
  | 0, _, _ => st_rf
  | _ + 1, _, _ => st_if st_rf (st_if (st_tr st_opd st_lwl) (st_if st_rf (st_tr st_sgn st_lwl)))
theorem mu_e {s m : zE} (h : yr_Q s m) : (yq_mu m : Int) = 10 * (s 60 4 - s 60 5) + m 0 8 := by
  have b := yr_bnd h
  obtain ⟨l1, l2, l3, l4, l5, l6⟩ := h.2.2.1
  unfold yq_mu
  rw [← l1, ← l2]
  omega
theorem mu_0 {s m : zE} (h : yr_Q s m) : (s 60 6 = 21 ↔ m 0 8 = 0) ∧ 0 ≤ m 0 8 ∧ m 0 8 ≤ 6 ∧ 0 ≤ s 60 5 ∧ s 60 5 ≤ s 60 4 := by
  have b := yr_bnd h
  have kk := h.2.1.2.2.2
  have l := h.2.2.1
  exact ⟨by unfold zt_r at kk; omega, b.1, b.2, l.2.2.1, l.2.2.2.1⟩
/-- an E to its end -/
theorem yr_lwl {c0 : Int} : ∀ (M n : Nat) (w : Int) (s m : zE), yr_e w c0 s m → yq_mu m < M → s 60 4 - s 60 5 + (if s 60 6 = 21 then 1 else 2) ≤ n → ((yq_lp M m).1 = 0 ∧ zF_r (yp_lwl n w s) (yq_lp M m).2) ∨ ∃ t, yq_lp M m = (1, yq_bin 1 t) ∧ yr_e 0 c0 (yp_lwl n w s) t ∧ yp_lwl n w s 60 6 = 15 ∧ yp_lwl n w s 60 13 = 0 ∧ fS_r s (yp_lwl n w s) ∧ fM_r m t ∧ s 60 5 ≤ yp_lwl n w s 60 5 ∧ yp_lwl n w s 60 4 = s 60 4 ∧ (s 60 6 = 21 → w = 0)
  | 0, _, _, _, _, _, h, _ => absurd h (Nat.not_lt_zero _)
  | M + 1, n, w, s, m, e, hm, hn => by
    have Q := e.1
    have u0 := mu_0 Q
    have me := mu_e Q
    have n1 : 1 ≤ n := by
      by_cases q : s 60 6 = 21
      · rw [if_pos q] at hn; omega
      · rw [if_neg q] at hn; omega
    obtain ⟨k, rfl⟩ : ∃ k, n = k + 1 := ⟨n - 1, by omega⟩
    have kk := Q.2.1.2.2.2
    have e43 : s 60 13 = m 0 43 := e.2.1.2.1
    have b13 : (0 : Int) ≤ s 60 13 := e.2.1.2.2.2.2.2.1
    have step : ∀ (w' : Int) (s' : zE) (r : Int × zE), yr_st2 w' c0 s m r s' → ((if r.1 = 0 then (0, r.2) else yq_lp M r.2).1 = 0 ∧ zF_r (yp_lwl k w' s') (if r.1 = 0 then (0, r.2) else yq_lp M r.2).2) ∨ ∃ t, (if r.1 = 0 then (0, r.2) else yq_lp M r.2) = (1, yq_bin 1 t) ∧ yr_e 0 c0 (yp_lwl k w' s') t ∧ yp_lwl k w' s' 60 6 = 15 ∧ yp_lwl k w' s' 60 13 = 0 ∧ fS_r s (yp_lwl k w' s') ∧ fM_r m t ∧ s 60 5 ≤ yp_lwl k w' s' 60 5 ∧ yp_lwl k w' s' 60 4 = s 60 4 ∧ (s 60 6 = 21 → w = 0) := fun w' s' r h => by
      rcases h with ⟨h1, h2⟩ | ⟨h1, h2, h3, h4, h5, h6, h7, h8, h9⟩
      · rw [if_pos h1]
        exact Or.inl ⟨rfl, st_F h2 st_lwl⟩
      · rw [if_neg (by omega)]
        have u1 := mu_0 h2.1
        have me1 := mu_e h2.1
        rw [if_neg h5] at hn
        have i := yr_lwl (c0 := c0) M k w' s' r.2 h2 (by
          by_cases q : s' 60 6 = 21
          · have := h6 q; omega
          · have := h7 q; omega) (by
          by_cases q : s' 60 6 = 21
          · rw [if_pos q]; have := h6 q; omega
          · rw [if_neg q]; have := h7 q; omega)
        rcases i with i | ⟨t, i1, i2, i3, i4, i5, i6, i7, i8, i9⟩
        · exact Or.inl i
        · exact Or.inr ⟨t, i1, i2, i3, i4, fS_tr h3 i5, fM_tr h4 i6, by omega, by omega, fun z => absurd z h5⟩
    have z59 : ¬ yq_isS 59 m = 0 ↔ s 60 6 = 15 := by
      unfold yq_isS
      by_cases q : m 0 8 = 4 ∧ m 0 9 = 59
      · rw [if_pos q]
        exact ⟨fun _ => by unfold zt_r at kk; omega, fun _ => by decide⟩
      · rw [if_neg q]
        exact ⟨fun z => absurd rfl z, fun z => by exfalso; unfold zt_r at kk; omega⟩
    rw [yp_lwl, yq_lp, if_neg (show ¬ ¬ s 60 0 = 0 from fun z => z Q.1)]
    by_cases hw : w = 0
    · subst hw
      have w45 : m 0 45 = 0 := by
        by_cases q : m 0 45 = 0
        · exact q
        · exact absurd rfl (e.2.2.1.mpr q)
      rw [if_neg (show ¬ ¬ (0 : Int) = 0 from fun z => z rfl)]
      by_cases q : s 60 6 = 15 ∧ s 60 13 = 0
      · rw [if_pos q, if_pos ⟨z59.mpr q.1, w45, by omega⟩]
        exact Or.inr ⟨m, rfl, e, q.1, q.2, fun _ _ _ _ _ _ => rfl, fun _ _ _ => rfl, Int.le_refl _, rfl, fun _ => rfl⟩
      · rw [if_neg q, if_neg (show ¬ (¬ yq_isS 59 m = 0 ∧ m 0 45 = 0 ∧ m 0 43 ≤ 0) from fun z => q ⟨z59.mp z.1, by omega⟩), if_neg (show ¬ ¬ m 0 45 = 0 from fun z => z w45)]
        exact step _ _ _ (yr_sign e)
    · have w45 := e.2.2.1.mp hw
      rw [if_pos hw, if_neg (show ¬ (¬ yq_isS 59 m = 0 ∧ m 0 45 = 0 ∧ m 0 43 ≤ 0) from fun z => w45 z.2.1), if_pos w45]
      exact step _ _ _ (yr_leaf e hw)
/-- behind a line's words: its end -/
theorem yr_ln {s s' : zE} {r : Int × zE} (h : yr_out s r s') : yr_out s (yq_le r) (yp_end s') := by
  unfold yq_le
  rcases h with ⟨h1, h2⟩ | ⟨h1, Q, x, lt⟩
  · rw [if_pos h1]
    exact Or.inl ⟨rfl, st_F h2 st_end⟩
  rw [if_neg (by omega)]
  have kk := Q.2.1.2.2.2
  unfold yq_isS yp_end
  by_cases q : r.2 0 8 = 4 ∧ r.2 0 9 = 59
  · rw [if_pos q, if_neg (by decide), if_neg (show ¬ ¬ s' 60 6 = 15 from fun z => z (by unfold zt_r at kk; omega))]
    obtain ⟨xg, xc, xu, xo, xl⟩ := x
    have le := yr_le Q
    refine Or.inr ⟨rfl, yr_us (yr_adv Q) (by decide) (by decide), ⟨?_, ?_, ?_, ?_, ?_⟩, ?_⟩
    · exact yg_fr xg (fun r j hr => by unfold yp_inc; rw [zup_ne (fun e f => by omega), adv_fr (by omega)]) (fun r j hr => tok_fx (by omega))
    · exact yc_fr xc (fun r j hr => by unfold yp_inc; rw [zup_ne (fun e f => by omega), adv_fr (by omega)]) (fun r j hr => tok_fx (by omega))
    · exact yu_fr xu (fun r j hr => by unfold yp_inc; rw [zup_ne (fun e f => by omega), adv_fr (by omega)]) (fun r j hr => tok_fx (by omega))
    · exact yo_fr xo (fun r j hr => by unfold yp_inc; rw [zup_ne (fun e f => by omega), adv_fr (by omega)]) (fun r j hr => tok_fx (by omega))
    · exact yl_fr xl (fun r j hr => by unfold yp_inc; rw [zup_ne (fun e f => by omega), adv_fr (by omega)]) (fun r j hr => tok_fx (by omega))
    · show s 60 5 < yp_adv s' 60 5
      omega
  · rw [if_neg q, if_pos rfl, if_pos (show ¬ s' 60 6 = 15 from fun z => q (by unfold zt_r at kk; omega))]
    exact Or.inl ⟨rfl, st_F (yr_wr Q (by decide)) (st_tr st_adv (st_inc (Or.inl (by decide))))⟩
theorem top_0 {s : zE} (h : s 60 12 = 0) : yp_top s = 0 := by
  unfold yp_top
  rw [if_neg (by omega)]
theorem yr_law {s m : zE} (h : yr_Q s m) (x : yr_x s m) : yr_out s (yq_law m) (yp_end (yp_law s)) := by
  obtain ⟨xg, xc, xu, xo, xl⟩ := x
  obtain ⟨l1, l2, l3, l4, l5, l6⟩ := id xl
  have kk := h.2.1.2.2.2
  unfold yq_law yp_law
  by_cases q : ¬ m 0 8 = 1 ∨ m 0 9 < 7 ∨ 9 < m 0 9
  · rw [if_pos q, if_pos (show ¬ s 60 6 = 19 from fun z => by unfold zt_r at kk; omega)]
    exact Or.inl ⟨rfl, st_F (yr_wr h (by decide)) st_end⟩
  have q2 : s 60 6 = 19 ∧ s 60 8 = m 0 9 - 7 := by unfold zt_r at kk; omega
  rw [if_neg q, if_neg (show ¬ ¬ s 60 6 = 19 from fun z => z q2.1)]
  obtain ⟨l, hl⟩ : ∃ l : Nat, (s 60 8).toNat = l := ⟨_, rfl⟩
  have hl3 : l < 3 := by omega
  have ek : (zd 0 2 (zd 0 1 3 (m 0 9)) 7).toNat = 3 + l := by
    rw [show zd 0 1 3 (m 0 9) = 3 + m 0 9 from zd_a ⟨by omega, by omega⟩, show zd 0 2 (3 + m 0 9) 7 = 3 + m 0 9 - 7 from zd_s ⟨by omega, by omega⟩]
    omega
  have tl := l6 l hl3
  rw [hl, ek]
  unfold yq_lw1
  by_cases q3 : m 16 (3 + l) = 0
  case neg =>
    rw [if_pos q3, if_pos (tl.1.mpr q3)]
    exact Or.inl ⟨rfl, st_F (yr_wr h (by decide)) st_end⟩
  rw [if_neg (show ¬ ¬ m 16 (3 + l) = 0 from fun z => z q3), if_neg (show ¬ s 49 l < s 50 l from fun z => tl.1.mp z q3)]
  have Q1 := yr_adv (yr_um (r := 16) (j := 3 + l) (x := 1) h (by decide) (Or.inl (by decide)))
  have lt1 : ¬ yp_adv s 60 6 = 21 → s 60 5 < yp_adv s 60 5 := yr_lt h
  have le1 : s 60 5 ≤ yp_adv s 60 5 := yr_le h
  have en1 : yp_adv s 60 6 = 21 → yp_adv s 60 5 = s 60 4 := (zk_adv h.2.2.1).2.2.1
  have T1 : ∀ q i, ¬ q = 60 → yp_adv s q i = s q i := fun q i hq => adv_fr hq
  have U1 : ∀ q i, ¬ q = 0 ∨ i < 7 ∨ 10 < i → yq_tok (zup m 16 (3 + l) 1) q i = if q = 16 ∧ i = 3 + l then 1 else m q i := fun q i hq => by
    rw [tok_fx (by omega)]
    rfl
  have a4 : yp_adv s 60 4 = s 60 4 := rfl
  generalize yp_adv s = S at *
  generalize yq_tok (zup m 16 (3 + l) 1) = U at *
  unfold yq_lw2 yp_law2
  have c19 : U 0 19 = m 0 19 := by rw [U1 0 19 (by omega), if_neg (by omega)]
  have c47 : S 47 1 = s 47 1 := T1 47 1 (by decide)
  rw [c19, c47]
  have Q2 := yr_us2 (j := 13) (x := 0) (yr_us2 (j := 12) (x := 0) (yr_us (r := 49) (j := l) (x := s 47 1) (yr_um (r := 17) (j := 3 + l) (x := m 0 19) Q1 (by decide) (Or.inl (by decide))) (by decide) (by decide)) (by decide)) (by decide)
  have V1 : ∀ q i, ¬ q = 60 → zup (zup (zup S 49 l (s 47 1)) 60 12 0) 60 13 0 q i = if q = 49 ∧ i = l then s 47 1 else s q i := fun q i hq => by
    rw [zup_ne (fun e _ => hq e), zup_ne (fun e _ => hq e)]
    unfold zup
    rw [T1 q i hq]
  have v12 : zup (zup (zup S 49 l (s 47 1)) 60 12 0) 60 13 0 60 12 = 0 := by rw [zup_ne (fun _ e => absurd e (by decide)), zup_eq]
  have v13 : zup (zup (zup S 49 l (s 47 1)) 60 12 0) 60 13 0 60 13 = 0 := zup_eq
  have v6 : ∀ i, i < 12 → zup (zup (zup S 49 l (s 47 1)) 60 12 0) 60 13 0 60 i = S 60 i := fun i hi => by
    rw [zup_ne (fun _ e => by omega), zup_ne (fun _ e => by omega), zup_ne (fun e _ => absurd e (by decide))]
  generalize zup (zup (zup S 49 l (s 47 1)) 60 12 0) 60 13 0 = V at *
  have W1 : ∀ q i, ¬ q = 0 ∨ i < 7 ∨ 10 < i → zup U 17 (3 + l) (m 0 19) q i = if q = 17 ∧ i = 3 + l then m 0 19 else if q = 16 ∧ i = 3 + l then 1 else m q i := fun q i hq => by
    unfold zup
    rw [U1 q i hq]
  generalize zup U 17 (3 + l) (m 0 19) = X at *
  unfold yq_sum
  have Q3 : yr_Q V (yq_smi X) := yr_um (yr_um (yr_um (yr_um (yr_um Q2 (by decide) (Or.inr (by decide))) (by decide) (Or.inr (by decide))) (by decide) (Or.inr (by decide))) (by decide) (Or.inr (by decide))) (by decide) (Or.inr (by decide))
  have Y1 : ∀ q i, ¬ (q = 0 ∧ 41 ≤ i ∧ i ≤ 46 ∧ ¬ i = 44) → yq_smi X q i = X q i := fun q i hq => by
    unfold yq_smi
    rw [zup_ne (fun e f => by omega), zup_ne (fun e f => by omega), zup_ne (fun e f => by omega), zup_ne (fun e f => by omega), zup_ne (fun e f => by omega)]
  have y45 : yq_smi X 0 45 = 1 := rfl
  have y46 : yq_smi X 0 46 = 1 := rfl
  have y41 : yq_smi X 0 41 = 0 := rfl
  have y43 : yq_smi X 0 43 = 0 := rfl
  have ee : yr_e 1 (s 47 1) V (yq_smi X) := by
    refine ⟨Q3, ?_, ⟨fun _ => by rw [y45]; decide, fun _ => by decide⟩, fun _ => ⟨fun _ => by rw [top_0 v12]; decide, fun _ => by rw [y46]; decide⟩, by rw [V1 47 1 (by decide), if_neg (by omega)]; exact Int.le_refl _, fun z => absurd z (by decide)⟩
    unfold yr_k
    rw [v12, v13, y41, y43, V1 47 0 (by decide), V1 47 1 (by decide), if_neg (by omega), if_neg (by omega), Y1 0 44 (by omega), Y1 0 19 (by omega), W1 0 44 (by omega), W1 0 19 (by omega), if_neg (by omega), if_neg (by omega), if_neg (by omega), if_neg (by omega)]
    exact ⟨rfl, rfl, l3, l5, Int.le_refl _, Int.le_refl _, by decide, by omega, l2, by omega, fun j hj => by omega, rfl⟩
  have u0 := mu_0 h
  have LL := yr_lwl (yq_mu (yq_smi X) + 1) ((s 60 4).toNat + 1) 1 V (yq_smi X) ee (by omega) (by
    rw [v6 4 (by decide), v6 5 (by decide), v6 6 (by decide), a4]
    by_cases z : S 60 6 = 21
    · rw [if_pos z]; have := en1 z; omega
    · rw [if_neg z]; have := lt1 z; omega)
  generalize yp_lwl ((s 60 4).toNat + 1) 1 V = Z at *
  have k13 : s 60 13 = s 60 13 := rfl
  rcases LL with ⟨L1, L2⟩ | ⟨t, L1, L2, L3, L4, L5, L6, L7, L8, L9⟩
  · refine yr_ln (Or.inl ⟨L1, ?_⟩)
    have F1 : zF_r (yp_law3 l (yp_unw 1 Z)) (yq_lp (yq_mu (yq_smi X) + 1) (yq_smi X)).2 := st_F L2 (st_tr st_unw (st_zup (Or.inl (by decide))))
    exact ⟨F1.1, F1.2.1, F1.2.2⟩
  rw [L1]
  have Zk : yr_k Z t := L2.2.1
  obtain ⟨K1, ⟨i2, i3, i4, i5, i6, i7⟩, top, Q4⟩ := yr_bin (rk := 1) (by decide) Zk L2.1
  have c0 := L2.2.2.2.2.2 rfl
  have e13 := i2 13 (by decide)
  have e5 := i2 5 (by decide)
  have bS := fS_tr L5 i3
  have bM := fM_tr L6 i6
  unfold yp_law3
  generalize yp_unw 1 Z = B at *
  generalize yq_bin 1 t = C at *
  have n0 : B 60 12 = 0 := by
    have b0 : (0 : Int) ≤ B 60 12 := K1.2.2.2.2.1
    by_cases z : 0 < B 60 12
    · exfalso
      have g := kk_t K1 z
      have o := op_i g.1 g.2.1
      have z0 := o.2.2.2.1 (top z)
      rw [if_pos z0] at g
      have zz := K1.2.2.2.2.2.2.2.2.2.2.2
      have yn := yz_n (f := B 63) (B 60 12 - 1).toNat
      omega
    · omega
  have sum : B 60 12 + B 47 1 = B 60 13 + B 47 0 := K1.2.2.2.2.2.2.2.2.2.1
  have e19 : B 47 1 = C 0 19 := K1.2.2.2.1
  have e44 : B 47 0 = C 0 44 := K1.2.2.1
  have c64 : B 47 0 ≤ 64 := K1.2.2.2.2.2.2.2.2.1
  have d0 : (0 : Int) ≤ B 47 1 := K1.2.2.2.2.2.2.2.1
  dsimp only
  have SX : ∀ q i, ¬ q = 60 → ¬ q = 63 → ¬ q = 48 → ¬ q = 47 → zup B 50 l (B 47 1) q i = if q = 50 ∧ i = l then B 47 1 else if q = 49 ∧ i = l then s 47 1 else s q i := fun q i h1 h2 h3 h4 => by
    unfold zup
    rw [bS q i h1 h2 h3 h4, V1 q i h1]
  have MX : ∀ q i, (1 ≤ q ∧ q ≤ 18) ∨ (q = 0 ∧ 16 ≤ i ∧ i ≤ 18) → zup C 18 (3 + l) (C 0 19) q i = if q = 18 ∧ i = 3 + l then C 0 19 else if q = 17 ∧ i = 3 + l then m 0 19 else if q = 16 ∧ i = 3 + l then 1 else m q i := fun q i hq => by
    unfold zup
    rw [bM q i hq, Y1 q i (by omega), W1 q i (by omega)]
  have G0 : zup B 50 l (B 47 1) 60 5 = Z 60 5 := by rw [zup_ne (fun e _ => absurd e (by decide)), e5]
  refine yr_ln (Or.inr ⟨rfl, ?_, ⟨?_, ?_, ?_, ?_, ?_⟩, ?_⟩)
  · exact yr_us (yr_um Q4 (by decide) (Or.inl (by decide))) (by decide) (by decide)
  · exact yg_fr xg (fun r j hr => by rw [SX r j (by omega) (by omega) (by omega) (by omega), if_neg (by omega), if_neg (by omega)]) (fun r j hr => by dsimp only; rw [MX r j (by omega), if_neg (by omega), if_neg (by omega), if_neg (by omega)])
  · exact yc_fr xc (fun r j hr => by rw [SX r j (by omega) (by omega) (by omega) (by omega), if_neg (by omega), if_neg (by omega)]) (fun r j hr => by dsimp only; rw [MX r j (by omega), if_neg (by omega), if_neg (by omega), if_neg (by omega)])
  · exact yu_fr xu (fun r j hr => by rw [SX r j (by omega) (by omega) (by omega) (by omega), if_neg (by omega), if_neg (by omega)]) (fun r j hr => by dsimp only; rw [MX r j (by omega), if_neg (by omega), if_neg (by omega), if_neg (by omega)])
  · exact yo_fr xo (fun r j hr => by rw [SX r j (by omega) (by omega) (by omega) (by omega), if_neg (by omega), if_neg (by omega)]) (fun r j hr => by dsimp only; rw [MX r j (by omega), if_neg (by omega), if_neg (by omega), if_neg (by omega)])
  · unfold yr_l
    dsimp only
    have p0 : zup B 50 l (B 47 1) 47 0 = B 47 0 := zup_ne (fun e _ => absurd e (by decide))
    have p1 : zup B 50 l (B 47 1) 47 1 = B 47 1 := zup_ne (fun e _ => absurd e (by decide))
    have p2 : zup C 18 (3 + l) (C 0 19) 0 44 = C 0 44 := zup_ne (fun e _ => absurd e (by decide))
    have p3 : zup C 18 (3 + l) (C 0 19) 0 19 = C 0 19 := zup_ne (fun e _ => absurd e (by decide))
    rw [p0, p1, p2, p3]
    refine ⟨by omega, c64, e44, by omega, e19, fun l' hl' => ?_⟩
    rw [SX 49 l' (by decide) (by decide) (by decide) (by decide), SX 50 l' (by decide) (by decide) (by decide) (by decide), MX 16 _ (by omega), MX 17 _ (by omega), MX 18 _ (by omega)]
    by_cases e : l' = l
    · subst e
      simp only [true_and, and_true, if_true, show ¬ (49 = 50) by decide, show ¬ (16 = 18) by decide, show ¬ (16 = 17) by decide, show ¬ (17 = 18) by decide, false_and, if_false]
      exact ⟨⟨fun _ => by decide, fun _ => by omega⟩, fun _ => ⟨l5, e19⟩⟩
    · have e' : ¬ 3 + l' = 3 + l := by omega
      simp only [e, e', and_false, if_false]
      exact l6 l' hl'
  · rw [G0]
    have z5 : V 60 5 = S 60 5 := v6 5 (by decide)
    have z6 : V 60 6 = S 60 6 := v6 6 (by decide)
    have := lt1 (fun z => absurd (L9 (z6.trans z)) (by decide))
    omega
/-- the lines' count is kept within a line -/
def zN_r (s s' : zE) : Prop := s' 32 0 = s 32 0
theorem nt_rf {s : zE} : zN_r s s := rfl
theorem nt_tr {s t u : zE} (h : zN_r s t) (g : zN_r t u) : zN_r s u := Eq.trans g h
theorem nt_zup {s : zE} {r j : Nat} {x : Int} (h : ¬ r = 32 ∨ 1 ≤ j) : zN_r s (zup s r j x) := zup_ne (fun e f => by omega)
theorem nt_inc {s : zE} {r j : Nat} (h : ¬ r = 32 ∨ 1 ≤ j) : zN_r s (yp_inc r j s) := nt_zup h
theorem nt_dec {s : zE} {r j : Nat} (h : ¬ r = 32 ∨ 1 ≤ j) : zN_r s (yp_dec r j s) := nt_zup h
theorem nt_adv {s : zE} : zN_r s (yp_adv s) := rfl
theorem nt_if {s a b : zE} {c : Prop} [Decidable c] (h : zN_r s a) (g : zN_r s b) : zN_r s (if c then a else b) := by
  split
  · exact h
  · exact g
theorem nt_flw {s : zE} {w p : Int} : zN_r s (yp_flw w p s) := nt_if (nt_tr (nt_zup (Or.inl (by decide))) (nt_zup (Or.inl (by decide)))) nt_rf
theorem nt_rd {s : zE} {lo hi : Int} : zN_r s (yp_rd lo hi s) := nt_if nt_rf (nt_if nt_flw (nt_if nt_flw nt_adv))
theorem nt_rw {s : zE} {lo hi : Int} {r j : Nat} (h : ¬ r = 32 ∨ 1 ≤ j) : zN_r s (yp_rw lo hi r j s) := nt_tr nt_rd (nt_zup h)
theorem nt_grv {s : zE} : zN_r s (yp_grv s) := nt_if nt_flw (nt_tr nt_adv (nt_tr (nt_rw (Or.inl (by decide))) (nt_tr (nt_rw (Or.inl (by decide))) (nt_inc (Or.inr (by decide))))))
theorem nt_scr {s : zE} : zN_r s (yp_scr s) := nt_if nt_flw (nt_tr nt_adv (nt_tr nt_rd (nt_if nt_rf (nt_if nt_flw (nt_tr (nt_zup (Or.inl (by omega))) (nt_tr (nt_rw (Or.inl (by omega))) (nt_tr (nt_rw (Or.inl (by omega))) (nt_tr (nt_tr (nt_rw (Or.inl (by omega))) (nt_rw (Or.inl (by omega)))) (nt_tr (nt_zup (Or.inl (by decide))) (nt_inc (Or.inr (by decide))))))))))))
theorem nt_gst {s : zE} : zN_r s (yp_gst s) := nt_if nt_flw (nt_tr nt_adv (nt_if nt_flw (nt_if nt_flw (nt_tr (nt_zup (Or.inl (by decide))) (nt_tr nt_adv (nt_tr (nt_rw (Or.inl (by omega))) (nt_tr (nt_rw (Or.inl (by omega))) (nt_tr (nt_rw (Or.inl (by omega))) (nt_inc (Or.inr (by decide)))))))))))
theorem nt_onc {s : zE} {w : Int} : zN_r s (yp_onc w s) := nt_if nt_flw (nt_tr (nt_zup (Or.inl (by decide))) (nt_tr nt_adv (nt_if (nt_rw (Or.inr (by decide))) (nt_if (nt_tr (nt_rw (Or.inr (by decide))) (nt_rw (Or.inr (by decide)))) (nt_rw (Or.inr (by decide)))))))
theorem nt_add {s : zE} {x : Int} : zN_r s (yp_add x s) := nt_if (nt_tr (nt_zup (Or.inl (by decide))) (nt_inc (Or.inl (by decide)))) nt_rf
theorem nt_tie {s : zE} : zN_r s (yp_tie s) := nt_if nt_flw (nt_inc (Or.inl (by decide)))
theorem nt_psh {s : zE} {x : Int} : zN_r s (yp_psh x s) := nt_if (nt_tr (nt_zup (Or.inl (by decide))) (nt_inc (Or.inl (by decide)))) nt_rf
theorem nt_unk {rk : Int} : ∀ {k : Nat} {s : zE}, zN_r s (yp_unk rk k s)
  | 0, _ => nt_rf
  | _ + 1, _ => nt_if (nt_tr (nt_dec (Or.inl (by decide))) (nt_tr nt_add nt_unk)) nt_rf
theorem nt_unw {rk : Int} {s : zE} : zN_r s (yp_unw rk s) := nt_unk
theorem nt_opd {s : zE} : zN_r s (yp_opd s) := nt_if (nt_tr (nt_if nt_flw nt_rf) (nt_tr (nt_inc (Or.inl (by decide))) (nt_tr nt_psh nt_adv))) (nt_if (nt_tr nt_tie (nt_tr nt_psh nt_adv)) (nt_if (nt_tr (nt_if nt_flw nt_rf) (nt_tr nt_tie (nt_tr nt_add nt_adv))) (nt_if (nt_tr nt_tie (nt_tr nt_add nt_adv)) (nt_tr nt_flw nt_adv))))
theorem nt_sg2 {s : zE} : zN_r s (yp_sg2 s) := nt_if (nt_if (nt_tr nt_unw nt_flw) nt_unw) nt_unw
theorem nt_sgn {s : zE} : zN_r s (yp_sgn s) := nt_if (nt_tr nt_unw (nt_tr (nt_dec (Or.inl (by decide))) (nt_tr (nt_dec (Or.inl (by decide))) nt_adv))) (nt_if nt_flw (nt_tr nt_sg2 (nt_tr nt_tie (nt_tr nt_psh nt_adv))))
theorem nt_lwl : ∀ {n : Nat} {w : Int} {s : zE}, zN_r s (yp_lwl n w s)
  | 0, _, _ => nt_rf
  | _ + 1, _, _ => nt_if nt_rf (nt_if (nt_tr nt_opd nt_lwl) (nt_if nt_rf (nt_tr nt_sgn nt_lwl)))
theorem nt_law {s : zE} : zN_r s (yp_law s) := nt_if nt_flw (nt_if nt_flw (nt_tr nt_adv (nt_tr (nt_tr (nt_zup (Or.inl (by decide))) (nt_tr (nt_zup (Or.inl (by decide))) (nt_zup (Or.inl (by decide))))) (nt_tr nt_lwl (nt_tr nt_unw (nt_zup (Or.inl (by decide))))))))
theorem nt_lin {s : zE} : zN_r s (yp_lin s) := nt_if nt_flw (nt_if nt_grv (nt_if nt_scr (nt_if nt_gst (nt_if (nt_tr nt_adv nt_law) nt_onc))))
/-- the text's length is kept -/
def zM_r (s s' : zE) : Prop := s' 60 4 = s 60 4
theorem ln_rf {s : zE} : zM_r s s := rfl
theorem ln_tr {s t u : zE} (h : zM_r s t) (g : zM_r t u) : zM_r s u := Eq.trans g h
theorem ln_zup {s : zE} {r j : Nat} {x : Int} (h : ¬ r = 60 ∨ ¬ j = 4) : zM_r s (zup s r j x) := zup_ne (fun e f => by omega)
theorem ln_inc {s : zE} {r j : Nat} (h : ¬ r = 60 ∨ ¬ j = 4) : zM_r s (yp_inc r j s) := ln_zup h
theorem ln_dec {s : zE} {r j : Nat} (h : ¬ r = 60 ∨ ¬ j = 4) : zM_r s (yp_dec r j s) := ln_zup h
theorem ln_adv {s : zE} : zM_r s (yp_adv s) := rfl
theorem ln_if {s a b : zE} {c : Prop} [Decidable c] (h : zM_r s a) (g : zM_r s b) : zM_r s (if c then a else b) := by
  split
  · exact h
  · exact g
theorem ln_flw {s : zE} {w p : Int} : zM_r s (yp_flw w p s) := ln_if (ln_tr (ln_zup (by first | exact Or.inl (by decide) | exact Or.inr (by decide) | exact Or.inl (by omega))) (ln_zup (by first | exact Or.inl (by decide) | exact Or.inr (by decide) | exact Or.inl (by omega)))) ln_rf
theorem ln_rd {s : zE} {lo hi : Int} : zM_r s (yp_rd lo hi s) := ln_if ln_rf (ln_if ln_flw (ln_if ln_flw ln_adv))
theorem ln_rw {s : zE} {lo hi : Int} {r j : Nat} (h : ¬ r = 60 ∨ ¬ j = 4) : zM_r s (yp_rw lo hi r j s) := ln_tr ln_rd (ln_zup h)
theorem ln_grv {s : zE} : zM_r s (yp_grv s) := ln_if ln_flw (ln_tr ln_adv (ln_tr (ln_rw (by first | exact Or.inl (by decide) | exact Or.inr (by decide) | exact Or.inl (by omega))) (ln_tr (ln_rw (by first | exact Or.inl (by decide) | exact Or.inr (by decide) | exact Or.inl (by omega))) (ln_inc (by first | exact Or.inl (by decide) | exact Or.inr (by decide) | exact Or.inl (by omega))))))
theorem ln_scr {s : zE} : zM_r s (yp_scr s) := by
  unfold yp_scr
  split
  · exact ln_flw
  · have hk : (s 32 2).toNat ≤ 4 := by omega
    exact ln_tr ln_adv (ln_tr ln_rd (ln_if ln_rf (ln_if ln_flw (ln_tr (ln_zup (by first | exact Or.inl (by decide) | exact Or.inr (by decide) | exact Or.inl (by omega))) (ln_tr (ln_rw (by first | exact Or.inl (by decide) | exact Or.inr (by decide) | exact Or.inl (by omega))) (ln_tr (ln_rw (by first | exact Or.inl (by decide) | exact Or.inr (by decide) | exact Or.inl (by omega))) (ln_tr (ln_tr (ln_rw (by first | exact Or.inl (by decide) | exact Or.inr (by decide) | exact Or.inl (by omega))) (ln_rw (by first | exact Or.inl (by decide) | exact Or.inr (by decide) | exact Or.inl (by omega)))) (ln_tr (ln_zup (by first | exact Or.inl (by decide) | exact Or.inr (by decide) | exact Or.inl (by omega))) (ln_inc (by first | exact Or.inl (by decide) | exact Or.inr (by decide) | exact Or.inl (by omega)))))))))))
theorem ln_gst {s : zE} : zM_r s (yp_gst s) := ln_if ln_flw (ln_tr ln_adv (ln_if ln_flw (ln_if ln_flw (ln_tr (ln_zup (by first | exact Or.inl (by decide) | exact Or.inr (by decide) | exact Or.inl (by omega))) (ln_tr ln_adv (ln_tr (ln_rw (by first | exact Or.inl (by decide) | exact Or.inr (by decide) | exact Or.inl (by omega))) (ln_tr (ln_rw (by first | exact Or.inl (by decide) | exact Or.inr (by decide) | exact Or.inl (by omega))) (ln_tr (ln_rw (by first | exact Or.inl (by decide) | exact Or.inr (by decide) | exact Or.inl (by omega))) (ln_inc (by first | exact Or.inl (by decide) | exact Or.inr (by decide) | exact Or.inl (by omega)))))))))))
theorem ln_onc {s : zE} {w : Int} : zM_r s (yp_onc w s) := ln_if ln_flw (ln_tr (ln_zup (by first | exact Or.inl (by decide) | exact Or.inr (by decide) | exact Or.inl (by omega))) (ln_tr ln_adv (ln_if (ln_rw (by first | exact Or.inl (by decide) | exact Or.inr (by decide) | exact Or.inl (by omega))) (ln_if (ln_tr (ln_rw (by first | exact Or.inl (by decide) | exact Or.inr (by decide) | exact Or.inl (by omega))) (ln_rw (by first | exact Or.inl (by decide) | exact Or.inr (by decide) | exact Or.inl (by omega)))) (ln_rw (by first | exact Or.inl (by decide) | exact Or.inr (by decide) | exact Or.inl (by omega)))))))
theorem ln_add {s : zE} {x : Int} : zM_r s (yp_add x s) := ln_if (ln_tr (ln_zup (by first | exact Or.inl (by decide) | exact Or.inr (by decide) | exact Or.inl (by omega))) (ln_inc (by first | exact Or.inl (by decide) | exact Or.inr (by decide) | exact Or.inl (by omega)))) ln_rf
theorem ln_tie {s : zE} : zM_r s (yp_tie s) := ln_if ln_flw (ln_inc (by first | exact Or.inl (by decide) | exact Or.inr (by decide) | exact Or.inl (by omega)))
theorem ln_psh {s : zE} {x : Int} : zM_r s (yp_psh x s) := ln_if (ln_tr (ln_zup (by first | exact Or.inl (by decide) | exact Or.inr (by decide) | exact Or.inl (by omega))) (ln_inc (by first | exact Or.inl (by decide) | exact Or.inr (by decide) | exact Or.inl (by omega)))) ln_rf
theorem ln_unk {rk : Int} : ∀ {k : Nat} {s : zE}, zM_r s (yp_unk rk k s)
  | 0, _ => ln_rf
  | _ + 1, _ => ln_if (ln_tr (ln_dec (by first | exact Or.inl (by decide) | exact Or.inr (by decide) | exact Or.inl (by omega))) (ln_tr ln_add ln_unk)) ln_rf
theorem ln_unw {rk : Int} {s : zE} : zM_r s (yp_unw rk s) := ln_unk
theorem ln_opd {s : zE} : zM_r s (yp_opd s) := ln_if (ln_tr (ln_if ln_flw ln_rf) (ln_tr (ln_inc (by first | exact Or.inl (by decide) | exact Or.inr (by decide) | exact Or.inl (by omega))) (ln_tr ln_psh ln_adv))) (ln_if (ln_tr ln_tie (ln_tr ln_psh ln_adv)) (ln_if (ln_tr (ln_if ln_flw ln_rf) (ln_tr ln_tie (ln_tr ln_add ln_adv))) (ln_if (ln_tr ln_tie (ln_tr ln_add ln_adv)) (ln_tr ln_flw ln_adv))))
theorem ln_sg2 {s : zE} : zM_r s (yp_sg2 s) := ln_if (ln_if (ln_tr ln_unw ln_flw) ln_unw) ln_unw
theorem ln_sgn {s : zE} : zM_r s (yp_sgn s) := ln_if (ln_tr ln_unw (ln_tr (ln_dec (by first | exact Or.inl (by decide) | exact Or.inr (by decide) | exact Or.inl (by omega))) (ln_tr (ln_dec (by first | exact Or.inl (by decide) | exact Or.inr (by decide) | exact Or.inl (by omega))) ln_adv))) (ln_if ln_flw (ln_tr ln_sg2 (ln_tr ln_tie (ln_tr ln_psh ln_adv))))
theorem ln_lwl : ∀ {n : Nat} {w : Int} {s : zE}, zM_r s (yp_lwl n w s)
  | 0, _, _ => ln_rf
  | _ + 1, _, _ => ln_if ln_rf (ln_if (ln_tr ln_opd ln_lwl) (ln_if ln_rf (ln_tr ln_sgn ln_lwl)))
theorem ln_law {s : zE} : zM_r s (yp_law s) := ln_if ln_flw (ln_if ln_flw (ln_tr ln_adv (ln_tr (ln_tr (ln_zup (by first | exact Or.inl (by decide) | exact Or.inr (by decide) | exact Or.inl (by omega))) (ln_tr (ln_zup (by first | exact Or.inl (by decide) | exact Or.inr (by decide) | exact Or.inl (by omega))) (ln_zup (by first | exact Or.inl (by decide) | exact Or.inr (by decide) | exact Or.inl (by omega))))) (ln_tr ln_lwl (ln_tr ln_unw (ln_zup (by first | exact Or.inl (by decide) | exact Or.inr (by decide) | exact Or.inl (by omega))))))))
theorem ln_lin {s : zE} : zM_r s (yp_lin s) := ln_if ln_flw (ln_if ln_grv (ln_if ln_scr (ln_if ln_gst (ln_if (ln_tr ln_adv ln_law) ln_onc))))
theorem ln_end {s : zE} : zM_r s (yp_end s) := ln_tr (ln_if ln_flw ln_rf) (ln_tr ln_adv (ln_inc (Or.inl (by decide))))
theorem end_32 {s : zE} : yp_end s 32 0 = zd 0 1 (s 32 0) 1 := by
  have e : zN_r s (yp_adv (if ¬ s 60 6 = 15 then yp_flw 1 (s 60 7) s else s)) := nt_tr (nt_if nt_flw nt_rf) nt_adv
  unfold yp_end yp_inc
  rw [zup_eq, e]
/-- a line -/
theorem yr_line {s m : zE} (h : yr_Q s m) (x : yr_x s m) : yr_out s (yq_lnr m) (yp_end (yp_lin s)) := by
  have kk := h.2.1.2.2.2
  unfold yq_lnr yp_lin
  by_cases q : ¬ m 0 8 = 1 ∨ 6 < m 0 9
  · rw [if_pos q, if_pos (show ¬ s 60 6 = 18 from fun z => by unfold zt_r at kk; omega)]
    exact Or.inl ⟨rfl, st_F (yr_wr h (by decide)) st_end⟩
  have q2 : s 60 6 = 18 ∧ s 60 8 = m 0 9 ∧ 0 ≤ m 0 9 ∧ m 0 9 ≤ 6 := by unfold zt_r at kk; omega
  rw [if_neg q, if_neg (show ¬ ¬ s 60 6 = 18 from fun z => z q2.1), q2.2.1]
  by_cases a0 : m 0 9 = 0
  · rw [if_pos a0, if_pos a0]; exact yr_ln (yr_grl h x)
  rw [if_neg a0, if_neg a0]
  by_cases a1 : m 0 9 = 1
  · rw [if_pos a1, if_pos a1]; exact yr_ln (yr_scl h x)
  rw [if_neg a1, if_neg a1]
  by_cases a2 : m 0 9 = 2
  · rw [if_pos a2, if_pos a2]; exact yr_ln (yr_gul h x)
  rw [if_neg a2, if_neg a2]
  by_cases a3 : m 0 9 = 3
  · rw [if_pos a3, if_neg (by omega), a3]; exact yr_ln (yr_on0 h x)
  rw [if_neg a3]
  by_cases a4 : m 0 9 = 4
  · rw [if_pos a4, if_neg (by omega), a4]; exact yr_ln (yr_on1 h x)
  rw [if_neg a4]
  by_cases a5 : m 0 9 = 5
  · rw [if_pos a5, if_neg (by omega), a5]; exact yr_ln (yr_on2 h x)
  rw [if_neg a5, if_pos (by omega)]
  have lt := (zk_adv h.2.2.1).2.2.2.2
  have xa : yr_x (yp_adv s) (yq_tok m) := ⟨yg_fr x.1 (fun r j hr => adv_fr (by omega)) (fun r j hr => tok_fx (by omega)), yc_fr x.2.1 (fun r j hr => adv_fr (by omega)) (fun r j hr => tok_fx (by omega)), yu_fr x.2.2.1 (fun r j hr => adv_fr (by omega)) (fun r j hr => tok_fx (by omega)), yo_fr x.2.2.2.1 (fun r j hr => adv_fr (by omega)) (fun r j hr => tok_fx (by omega)), yl_fr x.2.2.2.2 (fun r j hr => adv_fr (by omega)) (fun r j hr => tok_fx (by omega))⟩
  rcases yr_law (yr_adv h) xa with l | ⟨l1, l2, l3, l4⟩
  · exact Or.inl l
  · exact Or.inr ⟨l1, l2, l3, by omega⟩
/-- behind a fault no line is read -/
theorem rdl_F {n : Nat} {s : zE} (h : ¬ s 60 0 = 0) : yp_rdl n s = s := by
  cases n with
  | zero => rfl
  | succ n => rw [yp_rdl, if_pos (Or.inr h)]
theorem yr_rdl : ∀ (M n : Nat) (l : Int) (s m : zE), yr_Q s m → yr_x s m → s 32 0 = l → yq_mu m < M → s 60 4 - s 60 5 + (if s 60 6 = 21 then 1 else 2) ≤ n → ((yq_rdl M l m).1 = -1 ∧ zF_r (yp_rdl n s) (yq_rdl M l m).2) ∨ (yp_rdl n s 60 0 = 0 ∧ yp_rdl n s 32 0 = (yq_rdl M l m).1 ∧ yr_Q (yp_rdl n s) (yq_rdl M l m).2 ∧ yr_x (yp_rdl n s) (yq_rdl M l m).2)
  | 0, _, _, _, _, _, _, _, h, _ => absurd h (Nat.not_lt_zero _)
  | M + 1, n, l, s, m, Q, x, e, hm, hn => by
    have u0 := mu_0 Q
    have me := mu_e Q
    have n1 : 1 ≤ n := by
      by_cases q : s 60 6 = 21
      · rw [if_pos q] at hn; omega
      · rw [if_neg q] at hn; omega
    obtain ⟨k, rfl⟩ : ∃ k, n = k + 1 := ⟨n - 1, by omega⟩
    rw [yp_rdl, yq_rdl]
    by_cases q : s 60 6 = 21
    · rw [if_pos (Or.inl q), if_pos (u0.1.mp q)]
      exact Or.inr ⟨Q.1, e, Q, x⟩
    rw [if_neg (show ¬ (s 60 6 = 21 ∨ ¬ s 60 0 = 0) from fun z => z.elim q (fun z => z Q.1)), if_neg (fun z => q (u0.1.mpr z))]
    rcases yr_line Q x with ⟨h1, h2⟩ | ⟨h1, h2, h3, h4⟩
    · rw [if_pos h1, rdl_F h2.1]
      exact Or.inl ⟨rfl, h2⟩
    rw [if_neg (by omega)]
    have u1 := mu_0 h2
    have me1 := mu_e h2
    have e4 : yp_end (yp_lin s) 60 4 = s 60 4 := ln_tr ln_lin ln_end
    rw [if_neg q] at hn
    refine yr_rdl M k (zd 0 1 l 1) _ _ h2 h3 (by rw [end_32, nt_lin, e]) (by omega) ?_
    split <;> omega
/-- a text: both readers say the same of it -/
theorem ini_x {n : Int} {s m : zE} : yr_x (yp_ini n s) (yq_pln (yq_ini n m)) := by
  have z (y : Int) (h : 0 ≤ y) : (0 : Int) ≤ 0 ∧ (0 : Int) ≤ y := ⟨Int.le_refl 0, h⟩
  refine ⟨⟨(z 12 (by decide)).1, (z 12 (by decide)).2, rfl, fun j hj => absurd (show (j : Int) < 0 from hj) (by omega)⟩, ⟨(z 4 (by decide)).1, (z 4 (by decide)).2, rfl, fun j hj => absurd (show (j : Int) < 0 from hj) (by omega), fun g hg => ?_⟩, ⟨(z 4 (by decide)).1, (z 4 (by decide)).2, rfl, fun j hj => absurd (show (j : Int) < 0 from hj) (by omega)⟩, ⟨fun w hw => ?_, rfl, rfl, rfl, rfl, z 99 (by decide), z 9 (by decide)⟩, ⟨(z 64 (by decide)).1, (z 64 (by decide)).2, rfl, rfl, rfl, fun l hl => ?_⟩⟩
  · match g, hg with
    | 0, _ => rfl
    | 1, _ => rfl
    | 2, _ => rfl
    | 3, _ => rfl
    | 4, _ => rfl
    | 5, _ => rfl
    | 6, _ => rfl
    | 7, _ => rfl
    | 8, _ => rfl
    | 9, _ => rfl
    | 10, _ => rfl
    | 11, _ => rfl
    | k + 12, h => omega
  · match w, hw with
    | 0, _ => rfl
    | 1, _ => rfl
    | 2, _ => rfl
    | k + 3, h => omega
  · match l, hl with
    | 0, _ => exact ⟨⟨fun z => absurd (show (0 : Int) < 0 from z) (by decide), fun z => absurd rfl z⟩, fun z => absurd rfl z⟩
    | 1, _ => exact ⟨⟨fun z => absurd (show (0 : Int) < 0 from z) (by decide), fun z => absurd rfl z⟩, fun z => absurd rfl z⟩
    | 2, _ => exact ⟨⟨fun z => absurd (show (0 : Int) < 0 from z) (by decide), fun z => absurd rfl z⟩, fun z => absurd rfl z⟩
    | k + 3, h => omega
theorem yr_text {n : Int} {s m : zE} (h0 : 0 ≤ n) (h1 : n ≤ 700) (hb : ∀ j : Nat, (j : Int) < n → zb_r (s 1 j) (m 1 j)) : ((yq_R n m).1 = -1 ∧ ¬ yp_R n s 60 0 = 0 ∧ yp_R n s 60 0 = (yq_R n m).2 0 4 ∧ yp_R n s 60 1 = (yq_R n m).2 0 5) ∨ (yp_R n s 60 0 = 0 ∧ yp_R n s 32 0 = (yq_R n m).1 ∧ yp_R n s 60 1 = (yq_R n m).2 0 5 ∧ (yq_R n m).2 0 4 = 0 ∧ yr_x (yp_R n s) (yq_R n m).2) := by
  have zl : zl_r (yp_ini n s) (yq_pln (yq_ini n m)) := ⟨rfl, rfl, show (0 : Int) ≤ 0 by decide, h0, h1, hb⟩
  have A := zk_adv zl
  have Q : yr_Q (yp_adv (yp_ini n s)) (yq_ist n m) := ⟨rfl, A.2.1, A.1, rfl, rfl⟩
  have x0 := ini_x (n := n) (s := s) (m := m)
  have x : yr_x (yp_adv (yp_ini n s)) (yq_ist n m) := ⟨yg_fr x0.1 (fun r j hr => adv_fr (by omega)) (fun r j hr => tok_fx (by omega)), yc_fr x0.2.1 (fun r j hr => adv_fr (by omega)) (fun r j hr => tok_fx (by omega)), yu_fr x0.2.2.1 (fun r j hr => adv_fr (by omega)) (fun r j hr => tok_fx (by omega)), yo_fr x0.2.2.2.1 (fun r j hr => adv_fr (by omega)) (fun r j hr => tok_fx (by omega)), yl_fr x0.2.2.2.2 (fun r j hr => adv_fr (by omega)) (fun r j hr => tok_fx (by omega))⟩
  have e4 : yp_ini n s 60 4 = n := rfl
  have e5 : yp_ini n s 60 5 = 0 := rfl
  have f4 : yp_adv (yp_ini n s) 60 4 = n := rfl
  have B := A.2.2
  rw [e4, e5] at B
  have r := yr_rdl (yq_mu (yq_ist n m) + 1) (n + 1).toNat 0 _ _ Q x rfl (by omega) (by
    rw [f4]
    by_cases z : yp_adv (yp_ini n s) 60 6 = 21
    · rw [if_pos z]; have := B.1 z; omega
    · rw [if_neg z]; have := B.2.1 z; omega)
  rcases r with r | r
  · exact Or.inl ⟨r.1, r.2.1, r.2.2.1, r.2.2.2⟩
  · exact Or.inr ⟨r.1, r.2.1, r.2.2.1.2.2.2.1, r.2.2.1.2.2.2.2, r.2.2.2⟩
