/-! Laws of both readers: an operand, a sign. -/
theorem yr_bin {rk : Int} {s m : zE} (hr : 1 ≤ rk) (h : yr_k s m) (Q : yr_Q s m) : yr_k (yp_unw rk s) (yq_bin rk m) ∧ un_r s m (yp_unw rk s) (yq_bin rk m) ∧ (0 < yp_unw rk s 60 12 → yp_rk (yp_unw rk s 63 (yp_unw rk s 60 12 - 1).toNat) < rk) ∧ yr_Q (yp_unw rk s) (yq_bin rk m) := by
  have e : (m 0 41).toNat = (s 60 12).toNat := by rw [← h.1]
  unfold yp_unw yq_bin
  rw [e]
  have u := yr_unw hr _ s m rfl h
  refine ⟨u.1, u.2.1, u.2.2, ?_⟩
  obtain ⟨i2, i3, i4, i5, i6, i7⟩ := u.2.1
  exact yr_Qc Q (fun j hj => i2 j (by omega)) (fun j => i3 1 j (by decide) (by decide) (by decide) (by decide)) (fun j a b => i7 j (by omega) (by omega) (by omega)) (fun j => i6 1 j (by omega))
/-- inside an E: is an operand wanted; from which coded item on -/
def yr_e (w c0 : Int) (s m : zE) : Prop := yr_Q s m ∧ yr_k s m ∧ (¬ w = 0 ↔ ¬ m 0 45 = 0) ∧ (¬ w = 0 → (¬ m 0 46 = 0 ↔ yp_top s ≤ 3)) ∧ c0 ≤ s 47 1 ∧ (w = 0 → c0 < s 47 1)
def yr_st2 (w' c0 : Int) (s m : zE) (r : Int × zE) (s' : zE) : Prop := (r.1 = 0 ∧ zF_r s' r.2) ∨ (r.1 = 1 ∧ yr_e w' c0 s' r.2 ∧ fS_r s s' ∧ fM_r m r.2 ∧ ¬ s 60 6 = 21 ∧ (s' 60 6 = 21 → s' 60 5 = s 60 4) ∧ (¬ s' 60 6 = 21 → s 60 5 < s' 60 5) ∧ s 60 5 ≤ s' 60 5 ∧ s' 60 4 = s 60 4)
theorem top_e {s : zE} (h : s 60 12 ≤ 72) : yp_top s = if 0 < s 60 12 then yp_rk (s 63 (s 60 12 - 1).toNat) else 0 := by
  unfold yp_top
  split
  · rw [show zd 0 2 (s 60 12) 1 = s 60 12 - 1 from zd_s ⟨by omega, by omega⟩]
  · rfl
theorem top_p {s : zE} {n : Nat} {k : Int} (h : s 60 12 = n + 1) (h2 : n ≤ 72) (t : s 63 n = k) : yp_top s = yp_rk k := by
  unfold yp_top
  rw [if_pos (by omega), show zd 0 2 (s 60 12) 1 = s 60 12 - 1 from zd_s ⟨by omega, by omega⟩, show (s 60 12 - 1).toNat = n by omega, t]
/-- behind a token more -/
theorem st2_ok {w' c0 : Int} {s m s1 m1 : zE} (Q : yr_Q s1 m1) (k : yr_k s1 m1) (e45 : ¬ w' = 0 ↔ ¬ m1 0 45 = 0) (e46 : ¬ w' = 0 → (¬ m1 0 46 = 0 ↔ yp_top s1 ≤ 3)) (c1 : c0 ≤ s1 47 1) (c2 : w' = 0 → c0 < s1 47 1) (f : fS_r s s1) (g : fM_r m m1) (e4 : s1 60 4 = s 60 4) (e5 : s1 60 5 = s 60 5) (n21 : ¬ s 60 6 = 21) : yr_st2 w' c0 s m (1, yq_tok m1) (yp_adv s1) := by
  have A := zk_adv Q.2.2.1
  refine Or.inr ⟨rfl, ⟨yr_adv Q, ?_, ?_, ?_, c1, c2⟩, fS_tr f (fun r j a _ _ _ => adv_fr a), fM_tr g (fun r j a => tok_fx (by omega)), n21, fun w => (A.2.2.1 w).trans e4, fun w => by rw [← e5]; exact A.2.2.2.1 w, by rw [← e5]; exact A.2.2.2.2, e4⟩
  · unfold yr_k
    dsimp only
    rw [tok_f0 (by omega), tok_f0 (by omega), tok_f0 (by omega), tok_f0 (by omega), show yq_tok m1 22 = m1 22 from funext fun j => tok_fr (by decide)]
    exact k
  · show ¬ w' = 0 ↔ ¬ yq_tok m1 0 45 = 0
    rw [tok_f0 (by omega)]
    exact e45
  · show ¬ w' = 0 → (¬ yq_tok m1 0 46 = 0 ↔ yp_top s1 ≤ 3)
    rw [tok_f0 (by omega)]
    exact e46
theorem yr_leaf {w c0 : Int} {s m : zE} (h : yr_e w c0 s m) (hw : ¬ w = 0) : yr_st2 (yp_opw s) c0 s m (yq_lf m) (yp_opd s) := by
  obtain ⟨Q, K, W1, W2, C1, C2⟩ := h
  have W2 := W2 hw
  have W1 := W1.mp hw
  have kk := Q.2.1.2.2.2
  have bb := kk_b K
  have n0 : (0 : Int) ≤ s 60 12 := K.2.2.2.2.1
  have e41 : s 60 12 = m 0 41 := K.1
  have e43 : s 60 13 = m 0 43 := K.2.1
  have e44 : s 47 0 = m 0 44 := K.2.2.1
  have e19 : s 47 1 = m 0 19 := K.2.2.2.1
  have b13 : (0 : Int) ≤ s 60 13 ∧ s 60 13 ≤ 8 := ⟨K.2.2.2.2.2.1, K.2.2.2.2.2.2.1⟩
  have d0 : (0 : Int) ≤ s 47 1 := K.2.2.2.2.2.2.2.1
  have c64 : s 47 0 ≤ 64 := K.2.2.2.2.2.2.2.2.1
  have sum : s 60 12 + s 47 1 = s 60 13 + s 47 0 := K.2.2.2.2.2.2.2.2.2.1
  unfold yp_opd yp_opw yq_lf yq_isS yq_isK
  by_cases k0 : s 60 6 = 0
  · -- a bracket
    have q : m 0 8 = 4 ∧ m 0 9 = 40 := by unfold zt_r at kk; omega
    rw [if_pos k0, if_pos (show s 60 6 = 0 ∨ _ from Or.inl k0), if_pos (show ¬ (if m 0 8 = 4 ∧ m 0 9 = 40 then (1 : Int) else 0) = 0 by rw [if_pos q]; decide)]
    unfold yp_opn
    by_cases q8 : m 0 43 = 8
    · rw [if_pos q8, if_pos (by omega)]
      exact Or.inl ⟨rfl, st_F (yr_wr Q (by decide)) (st_tr (st_inc (Or.inr (by decide))) (st_tr st_psh st_adv))⟩
    rw [if_neg q8, if_neg (by omega)]
    have a13 : yp_inc 60 13 s 60 13 = s 60 13 + 1 := by unfold yp_inc; rw [zup_eq, zd_1 b13.1 (by omega)]
    have a : ∀ r j, ¬ (r = 60 ∧ j = 13) → yp_inc 60 13 s r j = s r j := fun r j w => by unfold yp_inc; rw [zup_ne (fun e f => w ⟨e, f⟩)]
    have e0 := a 60 0 (by omega)
    have e12 := a 60 12 (by omega)
    have ep : yp_psh 0 (yp_inc 60 13 s) = yp_inc 60 12 (zup (yp_inc 60 13 s) 63 (s 60 12).toNat 0) := by
      unfold yp_psh
      rw [e0, e12, if_pos ⟨Q.1, by omega⟩]
    rw [ep]
    have b12 : yp_inc 60 12 (zup (yp_inc 60 13 s) 63 (s 60 12).toNat 0) 60 12 = s 60 12 + 1 := by unfold yp_inc; rw [zup_eq, zup_ne (fun e _ => absurd e (by decide)), zup_ne (fun _ e => absurd e (by decide)), zd_1 n0 (by omega)]
    have bz : ∀ r j, ¬ (r = 60 ∧ j = 12) → ¬ (r = 63 ∧ j = (s 60 12).toNat) → yp_inc 60 12 (zup (yp_inc 60 13 s) 63 (s 60 12).toNat 0) r j = yp_inc 60 13 s r j := fun r j w w2 => by
      unfold yp_inc
      rw [zup_ne (fun e f => w ⟨e, f⟩), zup_ne (fun e f => w2 ⟨e, f⟩)]
    have b63 : yp_inc 60 12 (zup (yp_inc 60 13 s) 63 (s 60 12).toNat 0) 63 (s 60 12).toNat = 0 := by unfold yp_inc; rw [zup_ne (fun e _ => absurd e (by decide)), zup_eq]
    generalize yp_inc 60 12 (zup (yp_inc 60 13 s) 63 (s 60 12).toNat 0) = S at *
    have m41 : zup (yq_wai 0 (yq_inc 0 43 m)) 0 46 1 0 41 = m 0 41 + 1 := by unfold yq_wai yq_inc; rw [zup_ne (fun _ e => absurd e (by decide)), zup_eq, zup_ne (fun e _ => absurd e (by decide)), zup_ne (fun _ e => absurd e (by decide)), zd_1 (by omega) (by omega)]
    have m43 : zup (yq_wai 0 (yq_inc 0 43 m)) 0 46 1 0 43 = m 0 43 + 1 := by unfold yq_wai yq_inc; rw [zup_ne (fun _ e => absurd e (by decide)), zup_ne (fun _ e => absurd e (by decide)), zup_ne (fun e _ => absurd e (by decide)), zup_eq, zd_1 (by omega) (by omega)]
    have i41 : (yq_inc 0 43 m 0 41).toNat = (s 60 12).toNat := by unfold yq_inc; rw [zup_ne (fun _ e => absurd e (by decide)), e41]
    have mz : ∀ r j, ¬ (r = 0 ∧ (j = 41 ∨ j = 43 ∨ j = 46)) → ¬ (r = 22 ∧ j = (s 60 12).toNat) → zup (yq_wai 0 (yq_inc 0 43 m)) 0 46 1 r j = m r j := fun r j w w2 => by
      unfold yq_wai
      rw [i41]
      unfold yq_inc
      rw [zup_ne (fun e f => by omega), zup_ne (fun e f => by omega), zup_ne (fun e f => by omega), zup_ne (fun e f => by omega)]
    have m22 : zup (yq_wai 0 (yq_inc 0 43 m)) 0 46 1 22 (s 60 12).toNat = 0 := by
      unfold yq_wai
      rw [i41]
      unfold yq_inc
      rw [zup_ne (fun e _ => absurd e (by decide)), zup_ne (fun e _ => absurd e (by decide)), zup_eq]
    have m46 : zup (yq_wai 0 (yq_inc 0 43 m)) 0 46 1 0 46 = 1 := zup_eq
    generalize zup (yq_wai 0 (yq_inc 0 43 m)) 0 46 1 = M at *
    refine st2_ok (yr_Qc Q (fun j hj => ?_) (fun j => ?_) (fun j h1 h2 => mz 0 j (by omega) (by omega)) (fun j => mz 1 j (by omega) (by omega))) ?_ ?_ ?_ ?_ ?_ (fun r j h1 h2 h3 h4 => ?_) (fun r j h1 => mz r j (by omega) (by omega)) ?_ ?_ (by omega)
    · rw [bz 60 j (by omega) (by omega), a 60 j (by omega)]
    · rw [bz 1 j (by omega) (by omega), a 1 j (by omega)]
    · have p := kk_p0 (g := S 63) (g' := M 22) K (by omega) (fun j hj => by rw [bz 63 j (by omega) (by omega), a 63 j (by omega)]) (fun j hj => mz 22 j (by omega) (by omega)) b63 m22
      unfold yr_k
      rw [b12, bz 60 13 (by omega) (by omega), a13, bz 47 0 (by omega) (by omega), bz 47 1 (by omega) (by omega), a 47 0 (by omega), a 47 1 (by omega), m41, m43, mz 0 44 (by omega) (by omega), mz 0 19 (by omega) (by omega)]
      exact p
    · rw [mz 0 45 (by omega) (by omega)]
      exact ⟨fun _ => W1, fun _ => by decide⟩
    · intro _
      rw [m46, top_p (n := (s 60 12).toNat) (k := 0) (by rw [b12]; omega) (by omega) b63]
      decide +kernel
    · rw [bz 47 1 (by omega) (by omega), a 47 1 (by omega)]; exact C1
    · exact fun w => absurd w (by decide)
    · rw [bz r j (by omega) (by omega), a r j (by omega)]
    · rw [bz 60 4 (by omega) (by omega), a 60 4 (by omega)]
    · rw [bz 60 5 (by omega) (by omega), a 60 5 (by omega)]
  have q40 : ¬ (m 0 8 = 4 ∧ m 0 9 = 40) := by unfold zt_r at kk; omega
  rw [if_neg k0, if_neg (show ¬ ¬ (if m 0 8 = 4 ∧ m 0 9 = 40 then (1 : Int) else 0) = 0 from fun w => w (if_neg q40))]
  -- what is counted
  have T : (s 47 0 = 64 ∧ yq_cny m = 0 ∧ zF_r (yp_tie s) (yq_cns m)) ∨ (s 47 0 < 64 ∧ yq_cny m = 1 ∧ yp_tie s = zup s 47 0 (s 47 0 + 1) ∧ yq_cns m = zup m 0 44 (m 0 44 + 1)) := by
    unfold yq_cny yq_cns yp_tie yq_inc yp_inc
    by_cases q : m 0 44 = 64
    · rw [if_pos q, if_pos q, if_pos (by omega)]
      exact Or.inl ⟨by omega, rfl, yr_wr Q (by decide)⟩
    · rw [if_neg q, if_neg q, if_neg (by omega), zd_1 (by omega) (by omega), zd_1 (by omega) (by omega)]
      exact Or.inr ⟨by omega, rfl, rfl, rfl⟩
  by_cases k3 : s 60 6 = 3 ∧ yp_top s ≤ 3
  · -- not
    have q : m 0 8 = 1 ∧ m 0 9 = 12 := by unfold zt_r at kk; omega
    rw [if_pos k3, if_pos (show s 60 6 = 0 ∨ _ from Or.inr k3), if_pos (show ¬ (if m 0 8 = 1 ∧ m 0 9 = 12 then (1 : Int) else 0) = 0 ∧ ¬ m 0 46 = 0 from ⟨by rw [if_pos q]; decide, W2.mpr k3.2⟩)]
    unfold yq_ct
    rcases T with ⟨_, T1, T2⟩ | ⟨T0, T1, T2, T3⟩
    · rw [if_pos T1]
      exact Or.inl ⟨rfl, st_F T2 (st_tr st_psh st_adv)⟩
    rw [if_neg (by omega), T2, T3]
    dsimp only
    have ep : yp_psh 3 (zup s 47 0 (s 47 0 + 1)) = zup (zup (zup s 47 0 (s 47 0 + 1)) 63 (s 60 12).toNat 3) 60 12 (s 60 12 + 1) := by
      unfold yp_psh yp_inc
      rw [zup_ne (fun e _ => absurd e (by decide)), zup_ne (fun e _ => absurd e (by decide)), if_pos ⟨Q.1, by omega⟩, zup_ne (fun e _ => absurd e (by decide)), zup_ne (fun e _ => absurd e (by decide)), zd_1 n0 (by omega)]
    have em : yq_wai 2 (zup m 0 44 (m 0 44 + 1)) = zup (zup (zup m 0 44 (m 0 44 + 1)) 22 (s 60 12).toNat 2) 0 41 (m 0 41 + 1) := by
      have a : zup m 0 44 (m 0 44 + 1) 0 41 = s 60 12 := by rw [zup_ne (fun _ e => absurd e (by decide)), e41]
      unfold yq_wai yq_inc
      rw [a, zup_ne (fun e _ => absurd e (by decide)), a, zd_1 n0 (by omega), e41]
    rw [ep, em]
    have b12 : zup (zup (zup s 47 0 (s 47 0 + 1)) 63 (s 60 12).toNat 3) 60 12 (s 60 12 + 1) 60 12 = s 60 12 + 1 := zup_eq
    have b63 : zup (zup (zup s 47 0 (s 47 0 + 1)) 63 (s 60 12).toNat 3) 60 12 (s 60 12 + 1) 63 (s 60 12).toNat = 3 := by rw [zup_ne (fun e _ => absurd e (by decide)), zup_eq]
    have b47 : zup (zup (zup s 47 0 (s 47 0 + 1)) 63 (s 60 12).toNat 3) 60 12 (s 60 12 + 1) 47 0 = s 47 0 + 1 := by rw [zup_ne (fun e _ => absurd e (by decide)), zup_ne (fun e _ => absurd e (by decide)), zup_eq]
    have bz : ∀ r j, ¬ (r = 60 ∧ j = 12) → ¬ (r = 63 ∧ j = (s 60 12).toNat) → ¬ (r = 47 ∧ j = 0) → zup (zup (zup s 47 0 (s 47 0 + 1)) 63 (s 60 12).toNat 3) 60 12 (s 60 12 + 1) r j = s r j := fun r j w w2 w3 => by
      rw [zup_ne (fun e f => w ⟨e, f⟩), zup_ne (fun e f => w2 ⟨e, f⟩), zup_ne (fun e f => w3 ⟨e, f⟩)]
    have m41 : zup (zup (zup m 0 44 (m 0 44 + 1)) 22 (s 60 12).toNat 2) 0 41 (m 0 41 + 1) 0 41 = m 0 41 + 1 := zup_eq
    have m44 : zup (zup (zup m 0 44 (m 0 44 + 1)) 22 (s 60 12).toNat 2) 0 41 (m 0 41 + 1) 0 44 = m 0 44 + 1 := by rw [zup_ne (fun _ e => absurd e (by decide)), zup_ne (fun e _ => absurd e (by decide)), zup_eq]
    have m22 : zup (zup (zup m 0 44 (m 0 44 + 1)) 22 (s 60 12).toNat 2) 0 41 (m 0 41 + 1) 22 (s 60 12).toNat = 2 := by rw [zup_ne (fun e _ => absurd e (by decide)), zup_eq]
    have mz : ∀ r j, ¬ (r = 0 ∧ (j = 41 ∨ j = 44)) → ¬ (r = 22 ∧ j = (s 60 12).toNat) → zup (zup (zup m 0 44 (m 0 44 + 1)) 22 (s 60 12).toNat 2) 0 41 (m 0 41 + 1) r j = m r j := fun r j w w2 => by
      rw [zup_ne (fun e f => by omega), zup_ne (fun e f => by omega), zup_ne (fun e f => by omega)]
    generalize zup (zup (zup s 47 0 (s 47 0 + 1)) 63 (s 60 12).toNat 3) 60 12 (s 60 12 + 1) = S at *
    generalize zup (zup (zup m 0 44 (m 0 44 + 1)) 22 (s 60 12).toNat 2) 0 41 (m 0 41 + 1) = M at *
    refine st2_ok (yr_Qc Q (fun j hj => bz 60 j (by omega) (by omega) (by omega)) (fun j => bz 1 j (by omega) (by omega) (by omega)) (fun j h1 h2 => mz 0 j (by omega) (by omega)) (fun j => mz 1 j (by omega) (by omega))) ?_ ?_ ?_ ?_ ?_ (fun r j h1 h2 h3 h4 => bz r j (by omega) (by omega) (by omega)) (fun r j h1 => mz r j (by omega) (by omega)) (bz 60 4 (by omega) (by omega) (by omega)) (bz 60 5 (by omega) (by omega) (by omega)) (by omega)
    · have p := kk_pk (k := 3) (g := S 63) (g' := M 22) K T0 (by decide) (by decide) (fun j hj => bz 63 j (by omega) (by omega) (by omega)) (fun j hj => mz 22 j (by omega) (by omega)) b63 m22
      unfold yr_k
      rw [b12, bz 60 13 (by omega) (by omega) (by omega), b47, bz 47 1 (by omega) (by omega) (by omega), m41, mz 0 43 (by omega) (by omega), m44, mz 0 19 (by omega) (by omega)]
      exact p
    · rw [mz 0 45 (by omega) (by omega)]
      exact ⟨fun _ => W1, fun _ => by decide⟩
    · intro _
      rw [mz 0 46 (by omega) (by omega), top_p (n := (s 60 12).toNat) (k := 3) (by rw [b12]; omega) (by omega) b63]
      exact ⟨fun _ => by decide +kernel, fun _ => W2.mpr k3.2⟩
    · rw [bz 47 1 (by omega) (by omega) (by omega)]; exact C1
    · exact fun w => absurd w (by decide)
  rw [if_neg k3, if_neg (show ¬ (s 60 6 = 0 ∨ (s 60 6 = 3 ∧ yp_top s ≤ 3)) from fun w => w.elim k0 k3), if_neg (show ¬ (¬ (if m 0 8 = 1 ∧ m 0 9 = 12 then (1 : Int) else 0) = 0 ∧ ¬ m 0 46 = 0) from fun w => by
    by_cases q : m 0 8 = 1 ∧ m 0 9 = 12
    · exact k3 ⟨by unfold zt_r at kk; omega, W2.mp w.2⟩
    · exact w.1 (if_neg q))]
  -- a number, a name: one of both
  have L : ∀ (x k a : Int), ¬ s 60 6 = 21 → yr_st2 0 c0 s m (yq_ct m (fun t => (1, yq_tok (zup (yq_gro k a 0 t) 0 45 0)))) (yp_adv (yp_add x (yp_tie s))) := fun x k a n21 => by
    unfold yq_ct
    rcases T with ⟨_, T1, T2⟩ | ⟨T0, T1, T2, T3⟩
    · rw [if_pos T1]
      exact Or.inl ⟨rfl, st_F T2 (st_tr st_add st_adv)⟩
    rw [if_neg (by omega), T2, T3, add_1 (show zup s 47 0 (s 47 0 + 1) 47 1 < 64 by rw [zup_ne (fun _ e => absurd e (by decide))]; omega)]
    have bz : ∀ r j, ¬ r = 48 → ¬ r = 47 → yp_inc 47 1 (zup (zup s 47 0 (s 47 0 + 1)) 48 (zup s 47 0 (s 47 0 + 1) 47 1).toNat x) r j = s r j := fun r j w w2 => by
      unfold yp_inc
      rw [zup_ne (fun e f => w2 e), zup_ne (fun e f => w e), zup_ne (fun e f => w2 e)]
    have b0 : yp_inc 47 1 (zup (zup s 47 0 (s 47 0 + 1)) 48 (zup s 47 0 (s 47 0 + 1) 47 1).toNat x) 47 0 = s 47 0 + 1 := by
      unfold yp_inc
      rw [zup_ne (fun _ e => absurd e (by decide)), zup_ne (fun e _ => absurd e (by decide)), zup_eq]
    have b1 : yp_inc 47 1 (zup (zup s 47 0 (s 47 0 + 1)) 48 (zup s 47 0 (s 47 0 + 1) 47 1).toNat x) 47 1 = s 47 1 + 1 := by
      unfold yp_inc
      rw [zup_eq, zup_ne (fun e _ => absurd e (by decide)), zup_ne (fun _ e => absurd e (by decide)), zd_1 d0 (by omega)]
    have mz : ∀ r j, ((1 ≤ r ∧ r ≤ 18) ∨ r = 22 ∨ (r = 0 ∧ ¬ j = 19 ∧ ¬ j = 42)) → ¬ (r = 0 ∧ (j = 44 ∨ j = 45)) → zup (yq_gro k a 0 (zup m 0 44 (m 0 44 + 1))) 0 45 0 r j = m r j := fun r j w w2 => by
      rw [zup_ne (fun e f => by omega), gro_fr w, zup_ne (fun e f => by omega)]
    have m44 : zup (yq_gro k a 0 (zup m 0 44 (m 0 44 + 1))) 0 45 0 0 44 = m 0 44 + 1 := by rw [zup_ne (fun _ e => absurd e (by decide)), gro_fr (by omega), zup_eq]
    have m45 : zup (yq_gro k a 0 (zup m 0 44 (m 0 44 + 1))) 0 45 0 0 45 = 0 := zup_eq
    have m19 : zup (yq_gro k a 0 (zup m 0 44 (m 0 44 + 1))) 0 45 0 0 19 = m 0 19 + 1 := by rw [zup_ne (fun _ e => absurd e (by decide)), gro_19, zup_ne (fun _ e => absurd e (by decide)), zd_1 (by omega) (by omega)]
    generalize yp_inc 47 1 (zup (zup s 47 0 (s 47 0 + 1)) 48 (zup s 47 0 (s 47 0 + 1) 47 1).toNat x) = S at *
    dsimp only
    generalize zup (yq_gro k a 0 (zup m 0 44 (m 0 44 + 1))) 0 45 0 = M at *
    refine st2_ok (yr_Qc Q (fun j hj => bz 60 j (by decide) (by decide)) (fun j => bz 1 j (by decide) (by decide)) (fun j h1 h2 => mz 0 j (by omega) (by omega)) (fun j => mz 1 j (by omega) (by omega))) ?_ ?_ ?_ ?_ ?_ (fun r j h1 h2 h3 h4 => bz r j h3 h4) (fun r j h1 => mz r j (by omega) (by omega)) (bz 60 4 (by decide) (by decide)) (bz 60 5 (by decide) (by decide)) n21
    · have p := kk_l K T0
      unfold yr_k
      rw [bz 60 12 (by decide) (by decide), bz 60 13 (by decide) (by decide), b0, b1, show S 63 = s 63 from funext fun j => bz 63 j (by decide) (by decide), mz 0 41 (by omega) (by omega), mz 0 43 (by omega) (by omega), m44, m19, show M 22 = m 22 from funext fun j => mz 22 j (by omega) (by omega)]
      exact p
    · rw [m45]
    · exact fun w => absurd rfl w
    · rw [b1]; omega
    · intro _; rw [b1]; omega
  by_cases k16 : s 60 6 = 16
  · have q : m 0 8 = 3 := by unfold zt_r at kk; omega
    have hn : zn_r (s 60 8) (m 0 9) := by
      unfold zt_r at kk
      rcases kk with kk | kk | kk | kk | kk | kk | kk | kk | kk | kk <;> first | (exfalso; omega) | exact kk.2.2
    unfold zn_r at hn
    have nm : yq_nm m = -1 := by unfold yq_nm; rw [if_neg (by omega)]
    rw [if_pos k16, nm, if_neg (show ¬ ((-1 : Int) < 0 ∧ ¬ m 0 8 = 3) from fun w => w.2 q)]
    unfold yp_nm1
    by_cases q9 : 9999 < m 0 9
    · rw [if_pos (show (-1 : Int) < 0 ∧ 9999 < m 0 9 from ⟨by decide, q9⟩), if_pos (by omega)]
      exact Or.inl ⟨rfl, st_F (yr_wr Q (by decide)) (st_tr st_tie (st_tr st_add st_adv))⟩
    rw [if_neg (show ¬ ((-1 : Int) < 0 ∧ 9999 < m 0 9) from fun w => q9 w.2), if_neg (by omega)]
    simp only [if_neg (show ¬ (0 : Int) ≤ -1 by decide)]
    have LL := L (yp_tie s 60 8) 0 (m 0 9) (by omega)
    have e9 : yq_ct m (fun t => (1, yq_tok (zup (yq_gro 0 (t 0 9) 0 t) 0 45 0))) = yq_ct m (fun t => (1, yq_tok (zup (yq_gro 0 (m 0 9) 0 t) 0 45 0))) := by
      have c9 : yq_cns m 0 9 = m 0 9 := by
        unfold yq_cns
        split
        · rfl
        · rfl
      unfold yq_ct
      dsimp only
      rw [c9]
    rw [e9]
    exact LL
  rw [if_neg k16]
  by_cases k17 : s 60 6 = 17
  · have q : m 0 8 = 1 ∧ 13 ≤ m 0 9 ∧ m 0 9 ≤ 19 := by unfold zt_r at kk; omega
    have nm : yq_nm m = m 0 9 - 13 := by unfold yq_nm; rw [if_pos ⟨q.1, q.2.1⟩]; exact zd_s ⟨by omega, by omega⟩
    rw [if_pos k17, nm, if_neg (show ¬ (m 0 9 - 13 < 0 ∧ ¬ m 0 8 = 3) from fun w => by omega), if_neg (show ¬ (m 0 9 - 13 < 0 ∧ 9999 < m 0 9) from fun w => by omega)]
    simp only [if_pos (show 0 ≤ m 0 9 - 13 by omega)]
    exact L _ 1 _ (by omega)
  rw [if_neg k17]
  have q : ¬ m 0 8 = 3 ∧ ¬ (m 0 8 = 1 ∧ 13 ≤ m 0 9) := by unfold zt_r at kk; omega
  have nm : yq_nm m = -1 := by unfold yq_nm; rw [if_neg q.2]
  rw [nm, if_pos (show (-1 : Int) < 0 ∧ ¬ m 0 8 = 3 from ⟨by decide, q.1⟩)]
  exact Or.inl ⟨rfl, st_F (yr_wr Q (by decide)) st_adv⟩
