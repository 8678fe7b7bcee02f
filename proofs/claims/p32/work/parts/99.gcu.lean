/-! Laws of both readers: a sign, an E, a law. -/
theorem yr_tie {s m : zE} (Q : yr_Q s m) (K : yr_k s m) : (s 47 0 = 64 ∧ yq_cny m = 0 ∧ zF_r (yp_tie s) (yq_cns m)) ∨ (s 47 0 < 64 ∧ yq_cny m = 1 ∧ yp_tie s = zup s 47 0 (s 47 0 + 1) ∧ yq_cns m = zup m 0 44 (m 0 44 + 1)) := by
  have bb := kk_b K
  have e44 : s 47 0 = m 0 44 := K.2.2.1
  have d0 : (0 : Int) ≤ s 47 1 := K.2.2.2.2.2.2.2.1
  have c64 : s 47 0 ≤ 64 := K.2.2.2.2.2.2.2.2.1
  unfold yq_cny yq_cns yp_tie yq_inc yp_inc
  by_cases q : m 0 44 = 64
  · rw [if_pos q, if_pos q, if_pos (by omega)]
    exact Or.inl ⟨by omega, rfl, yr_wr Q (by decide)⟩
  · rw [if_neg q, if_neg q, if_neg (by omega), zd_1 (by omega) (by omega), zd_1 (by omega) (by omega)]
    exact Or.inr ⟨by omega, rfl, rfl, rfl⟩
theorem push_s {s : zE} {k c : Int} (n0 : 0 ≤ s 60 12) (n1 : s 60 12 < 72) (f0 : s 60 0 = 0) : yp_psh k (zup s 47 0 c) = zup (zup (zup s 47 0 c) 63 (s 60 12).toNat k) 60 12 (s 60 12 + 1) := by
  unfold yp_psh yp_inc
  rw [zup_ne (fun e _ => absurd e (by decide)), zup_ne (fun e _ => absurd e (by decide)), if_pos ⟨f0, n1⟩, zup_ne (fun e _ => absurd e (by decide)), zup_ne (fun e _ => absurd e (by decide)), zd_1 n0 (by omega)]
theorem wai_s {m : zE} {k c n : Int} (n0 : 0 ≤ n) (n1 : n ≤ 72) (e : n = m 0 41) : yq_wai k (zup m 0 44 c) = zup (zup (zup m 0 44 c) 22 n.toNat k) 0 41 (n + 1) := by
  have a : zup m 0 44 c 0 41 = n := by rw [zup_ne (fun _ e => absurd e (by decide)), e]
  unfold yq_wai yq_inc
  rw [a, zup_ne (fun e _ => absurd e (by decide)), a, zd_1 n0 (by omega)]
theorem sk_1 {s m : zE} (kk : zt_r (s 60 6) (s 60 8) (m 0 8) (m 0 9)) : (1 ≤ s 60 6 ∧ s 60 6 ≤ 13 ∧ ¬ s 60 6 = 3 → yq_sk m = op_r (s 60 6)) ∧ (s 60 6 < 1 ∨ 13 < s 60 6 ∨ s 60 6 = 3 → yq_sk m = 0) := by
  have Z : ∀ (k c : Int), (if m 0 8 = k ∧ m 0 9 = c then (1 : Int) else 0) = 0 ↔ ¬ (m 0 8 = k ∧ m 0 9 = c) := fun k c => by
    split
    · exact ⟨fun w => absurd w (by decide), fun w => absurd (by assumption) w⟩
    · exact ⟨fun _ => by assumption, fun _ => rfl⟩
  unfold yq_sk yq_isK yq_isS op_r
  simp only [Z, Decidable.not_not]
  have z5 : m 0 8 = 5 → zd 0 1 5 (m 0 9) = m 0 9 + 5 := fun w => by
    unfold zt_r at kk
    rw [zd_a ⟨by omega, by omega⟩]
    omega
  constructor
  · intro w
    by_cases a1 : m 0 8 = 1 ∧ m 0 9 = 10
    · rw [if_pos a1]; unfold zt_r at kk; rw [if_neg (by omega), if_pos (by omega)]; omega
    rw [if_neg a1]
    by_cases a2 : m 0 8 = 1 ∧ m 0 9 = 11
    · rw [if_pos a2]; unfold zt_r at kk; rw [if_neg (by omega), if_pos (by omega)]; omega
    rw [if_neg a2]
    by_cases a3 : m 0 8 = 5
    · rw [if_pos a3, z5 a3]; unfold zt_r at kk; rw [if_neg (by omega), if_neg (by omega)]; omega
    rw [if_neg a3]
    by_cases a4 : m 0 8 = 4 ∧ m 0 9 = 43
    · rw [if_pos a4]; unfold zt_r at kk; rw [if_neg (by omega), if_neg (by omega)]; omega
    rw [if_neg a4]
    by_cases a5 : m 0 8 = 4 ∧ m 0 9 = 45
    · rw [if_pos a5]; unfold zt_r at kk; rw [if_neg (by omega), if_neg (by omega)]; omega
    rw [if_neg a5]
    by_cases a6 : m 0 8 = 4 ∧ m 0 9 = 42
    · rw [if_pos a6]; unfold zt_r at kk; rw [if_neg (by omega), if_neg (by omega)]; omega
    rw [if_neg a6]
    by_cases a7 : m 0 8 = 4 ∧ m 0 9 = 47
    · rw [if_pos a7]; unfold zt_r at kk; rw [if_neg (by omega), if_neg (by omega)]; omega
    exfalso
    unfold zt_r at kk
    omega
  · intro w
    unfold zt_r at kk
    rw [if_neg (by omega), if_neg (by omega), if_neg (by omega), if_neg (by omega), if_neg (by omega), if_neg (by omega), if_neg (by omega)]
theorem op_0 {k : Int} (h : 1 ≤ k) (h2 : k ≤ 13) : ¬ op_r k = 0 := by
  unfold op_r
  rw [if_neg (by omega)]
  split <;> omega
theorem yr_sign {c0 : Int} {s m : zE} (h : yr_e 0 c0 s m) : yr_st2 (yp_sgw s) c0 s m (yq_sgn m) (yp_sgn s) := by
  obtain ⟨Q, K, W1, W2, C1, C2⟩ := h
  have C2 := C2 rfl
  have W1 : m 0 45 = 0 := by
    by_cases q : m 0 45 = 0
    · exact q
    · exact absurd rfl (W1.mpr q)
  have kk := Q.2.1.2.2.2
  have sk := sk_1 kk
  have e43 : s 60 13 = m 0 43 := K.2.1
  unfold yp_sgn yp_sgw yq_sgn
  by_cases k14 : s 60 6 = 14 ∧ 0 < s 60 13
  · have q : m 0 8 = 4 ∧ m 0 9 = 41 := by unfold zt_r at kk; omega
    rw [if_pos k14, if_pos (Or.inl k14), if_pos (show ¬ yq_isS 41 m = 0 ∧ 0 < m 0 43 from ⟨by unfold yq_isS; rw [if_pos q]; decide, by omega⟩)]
    obtain ⟨K1, ⟨i2, i3, i4, i5, i6, i7⟩, top, Q1⟩ := yr_bin (rk := 1) (by decide) K Q
    have e13 := i2 13 (by decide)
    have e4 := i2 4 (by decide)
    have e5 := i2 5 (by decide)
    have m45 := i7 45 (by decide) (by decide) (by decide)
    generalize yp_unw 1 s = S at *
    generalize yq_bin 1 m = M at *
    have bb := kk_b K1
    have n0 : (0 : Int) ≤ S 60 12 := K1.2.2.2.2.1
    have a41 : S 60 12 = M 0 41 := K1.1
    have a43 : S 60 13 = M 0 43 := K1.2.1
    have cc := kk_c K1 (by omega) (fun w => by
      have t := kk_t K1 w
      have o := op_i t.1 t.2.1
      exact o.2.2.2.1 (top w))
    have es : yp_dec 60 13 (yp_dec 60 12 S) = zup (zup S 60 12 (S 60 12 - 1)) 60 13 (S 60 13 - 1) := by
      unfold yp_dec
      rw [zup_ne (fun _ e => absurd e (by decide)), show zd 0 2 (S 60 12) 1 = S 60 12 - 1 from zd_s ⟨by omega, by omega⟩, show zd 0 2 (S 60 13) 1 = S 60 13 - 1 from zd_s ⟨by omega, by omega⟩]
    have em : yq_dec 0 43 (yq_dec 0 41 M) = zup (zup M 0 41 (M 0 41 - 1)) 0 43 (M 0 43 - 1) := by
      unfold yq_dec
      rw [zup_ne (fun _ e => absurd e (by decide)), show zd 0 2 (M 0 41) 1 = M 0 41 - 1 from zd_s ⟨by omega, by omega⟩, show zd 0 2 (M 0 43) 1 = M 0 43 - 1 from zd_s ⟨by omega, by omega⟩]
    rw [es, em]
    have bz : ∀ r j, ¬ (r = 60 ∧ (j = 12 ∨ j = 13)) → zup (zup S 60 12 (S 60 12 - 1)) 60 13 (S 60 13 - 1) r j = S r j := fun r j w => by rw [zup_ne (fun e f => by omega), zup_ne (fun e f => by omega)]
    have b12 : zup (zup S 60 12 (S 60 12 - 1)) 60 13 (S 60 13 - 1) 60 12 = S 60 12 - 1 := by rw [zup_ne (fun _ e => absurd e (by decide)), zup_eq]
    have b13 : zup (zup S 60 12 (S 60 12 - 1)) 60 13 (S 60 13 - 1) 60 13 = S 60 13 - 1 := zup_eq
    have mz : ∀ r j, ¬ (r = 0 ∧ (j = 41 ∨ j = 43)) → zup (zup M 0 41 (M 0 41 - 1)) 0 43 (M 0 43 - 1) r j = M r j := fun r j w => by rw [zup_ne (fun e f => by omega), zup_ne (fun e f => by omega)]
    have m41 : zup (zup M 0 41 (M 0 41 - 1)) 0 43 (M 0 43 - 1) 0 41 = M 0 41 - 1 := by rw [zup_ne (fun _ e => absurd e (by decide)), zup_eq]
    have m43 : zup (zup M 0 41 (M 0 41 - 1)) 0 43 (M 0 43 - 1) 0 43 = M 0 43 - 1 := zup_eq
    generalize zup (zup S 60 12 (S 60 12 - 1)) 60 13 (S 60 13 - 1) = S' at *
    generalize zup (zup M 0 41 (M 0 41 - 1)) 0 43 (M 0 43 - 1) = M' at *
    refine st2_ok (yr_Qc Q1 (fun j hj => bz 60 j (by omega)) (fun j => bz 1 j (by omega)) (fun j h1 h2 => mz 0 j (by omega)) (fun j => mz 1 j (by omega))) ?_ ?_ ?_ ?_ ?_ (fS_tr i3 (fun r j h1 h2 h3 h4 => bz r j (by omega))) (fM_tr i6 (fun r j h1 => mz r j (by omega))) ((bz 60 4 (by omega)).trans e4) ((bz 60 5 (by omega)).trans e5) (by omega)
    · have p := cc.2
      unfold yr_k
      rw [b12, b13, bz 47 0 (by omega), bz 47 1 (by omega), show S' 63 = S 63 from funext fun j => bz 63 j (by omega), m41, m43, mz 0 44 (by omega), mz 0 19 (by omega), show M' 22 = M 22 from funext fun j => mz 22 j (by omega)]
      exact p
    · rw [mz 0 45 (by omega), m45, W1]
    · exact fun w => absurd rfl w
    · rw [bz 47 1 (by omega)]; omega
    · intro _; rw [bz 47 1 (by omega)]; omega
  have k14m : ¬ (¬ yq_isS 41 m = 0 ∧ 0 < m 0 43) := fun w => by
    have w1 : ¬ (if m 0 8 = 4 ∧ m 0 9 = 41 then (1 : Int) else 0) = 0 := w.1
    by_cases q : m 0 8 = 4 ∧ m 0 9 = 41
    · exact k14 ⟨by unfold zt_r at kk; omega, by omega⟩
    · exact w1 (if_neg q)
  rw [if_neg k14, if_neg k14m]
  unfold yq_sgB
  by_cases kb : s 60 6 < 1 ∨ 13 < s 60 6 ∨ s 60 6 = 3
  · rw [if_pos kb, if_pos (sk.2 kb)]
    exact Or.inl ⟨rfl, yr_wr Q (by decide)⟩
  have k1 : 1 ≤ s 60 6 ∧ s 60 6 ≤ 13 ∧ ¬ s 60 6 = 3 := by omega
  have k0 := op_0 k1.1 k1.2.1
  have op := op_i (k := s 60 6) (by omega) k1.2.1
  have r1 : 1 ≤ yp_rk (s 60 6) := by
    by_cases q : yp_rk (s 60 6) < 1
    · have := op.2.2.2.1 q; omega
    · omega
  rw [if_neg kb, if_neg (show ¬ ((s 60 6 = 14 ∧ 0 < s 60 13) ∨ s 60 6 < 1 ∨ 13 < s 60 6 ∨ s 60 6 = 3) from fun w => w.elim k14 kb), sk.1 k1, if_neg k0]
  obtain ⟨rr, hrr⟩ : ∃ rr, (if yp_rk (s 60 6) = 4 then (5 : Int) else yp_rk (s 60 6)) = rr := ⟨_, rfl⟩
  have rr1 : 1 ≤ rr := by rw [← hrr]; split <;> omega
  have e2 : yp_sg2 s = if yp_rk (s 60 6) = 4 ∧ yp_top (yp_unw rr s) = 4 then yp_flw 1 (yp_unw rr s 60 7) (yp_unw rr s) else yp_unw rr s := by
    unfold yp_sg2
    rw [← hrr]
    by_cases q : yp_rk (s 60 6) = 4
    · rw [if_pos q, if_pos q]
      by_cases q2 : yp_top (yp_unw 5 s) = 4
      · rw [if_pos q2, if_pos ⟨q, q2⟩]
      · rw [if_neg q2, if_neg (fun w => q2 w.2)]
    · rw [if_neg q, if_neg q, if_neg (fun w => q w.1)]
  rw [op.1, hrr, e2]
  obtain ⟨K1, ⟨i2, i3, i4, i5, i6, i7⟩, top, Q1⟩ := yr_bin rr1 K Q
  have s6 := i2 6 (by decide)
  have e4 := i2 4 (by decide)
  have e5 := i2 5 (by decide)
  generalize yp_unw rr s = S at *
  generalize yq_bin rr m = M at *
  have bb := kk_b K1
  have n0 : (0 : Int) ≤ S 60 12 := K1.2.2.2.2.1
  have a41 : S 60 12 = M 0 41 := K1.1
  have a43 : S 60 13 = M 0 43 := K1.2.1
  have d0 : (0 : Int) ≤ S 47 1 := K1.2.2.2.2.2.2.2.1
  have sum : S 60 12 + S 47 1 = S 60 13 + S 47 0 := K1.2.2.2.2.2.2.2.2.2.1
  have b13 : S 60 13 ≤ 8 := K1.2.2.2.2.2.2.1
  unfold yq_sg2
  have tt : (yp_rk (s 60 6) = 4 ∧ yp_top S = 4) ↔ (yq_rk (op_r (s 60 6)) = 4 ∧ 0 < M 0 41 ∧ yq_rk (M 22 (zd 0 2 (M 0 41) 1).toNat) = 4) := by
    rw [op.1, top_e bb.2.2, ← a41]
    by_cases p : 0 < S 60 12
    · have t := kk_t K1 p
      have o := op_i t.1 t.2.1
      rw [if_pos p, show zd 0 2 (S 60 12) 1 = S 60 12 - 1 from zd_s ⟨by omega, by omega⟩, t.2.2.1, o.1]
      exact ⟨fun w => ⟨w.1, p, w.2⟩, fun w => ⟨w.1, w.2.2⟩⟩
    · rw [if_neg p]
      exact ⟨fun w => absurd w.2 (by decide), fun w => absurd w.2.1 p⟩
  by_cases q : yp_rk (s 60 6) = 4 ∧ yp_top S = 4
  · rw [if_pos q, if_pos (tt.mp q)]
    exact Or.inl ⟨rfl, st_F (yr_wr Q1 (by decide)) (st_tr st_tie (st_tr st_psh st_adv))⟩
  rw [if_neg q, if_neg (fun w => q (tt.mpr w))]
  unfold yq_sg3 yq_ct yp_sg3
  rcases yr_tie Q1 K1 with ⟨_, T1, T2⟩ | ⟨T0, T1, T2, T3⟩
  · rw [if_pos T1]
    exact Or.inl ⟨rfl, st_F T2 (st_tr st_psh st_adv)⟩
  rw [if_neg (by omega), T2, T3]
  dsimp only
  rw [show zup S 47 0 (S 47 0 + 1) 60 6 = s 60 6 by rw [zup_ne (fun e _ => absurd e (by decide)), s6], push_s n0 (by omega) Q1.1, wai_s n0 bb.2.2 a41, op.1]
  obtain ⟨mv, hmv⟩ : ∃ mv, (if yp_rk (s 60 6) < 3 then (1 : Int) else 0) = mv := ⟨_, rfl⟩
  rw [hmv]
  have mv1 : ¬ mv = 0 ↔ yp_rk (s 60 6) ≤ 3 := by
    rw [← hmv]
    by_cases q3 : yp_rk (s 60 6) < 3
    · rw [if_pos q3]; exact ⟨fun _ => by omega, fun _ => by decide⟩
    · rw [if_neg q3]
      refine ⟨fun w => absurd rfl w, fun w => ?_⟩
      have := op.2.2.1 (by omega)
      exact absurd this k1.2.2
  have b12 : zup (zup (zup S 47 0 (S 47 0 + 1)) 63 (S 60 12).toNat (s 60 6)) 60 12 (S 60 12 + 1) 60 12 = S 60 12 + 1 := zup_eq
  have b63 : zup (zup (zup S 47 0 (S 47 0 + 1)) 63 (S 60 12).toNat (s 60 6)) 60 12 (S 60 12 + 1) 63 (S 60 12).toNat = s 60 6 := by rw [zup_ne (fun e _ => absurd e (by decide)), zup_eq]
  have b47 : zup (zup (zup S 47 0 (S 47 0 + 1)) 63 (S 60 12).toNat (s 60 6)) 60 12 (S 60 12 + 1) 47 0 = S 47 0 + 1 := by rw [zup_ne (fun e _ => absurd e (by decide)), zup_ne (fun e _ => absurd e (by decide)), zup_eq]
  have bz : ∀ r j, ¬ (r = 60 ∧ j = 12) → ¬ (r = 63 ∧ j = (S 60 12).toNat) → ¬ (r = 47 ∧ j = 0) → zup (zup (zup S 47 0 (S 47 0 + 1)) 63 (S 60 12).toNat (s 60 6)) 60 12 (S 60 12 + 1) r j = S r j := fun r j w w2 w3 => by
    rw [zup_ne (fun e f => w ⟨e, f⟩), zup_ne (fun e f => w2 ⟨e, f⟩), zup_ne (fun e f => w3 ⟨e, f⟩)]
  generalize zup (zup (zup S 47 0 (S 47 0 + 1)) 63 (S 60 12).toNat (s 60 6)) 60 12 (S 60 12 + 1) = S' at *
  have m41 : zup (zup (zup (zup (zup M 0 44 (M 0 44 + 1)) 22 (S 60 12).toNat (op_r (s 60 6))) 0 41 (S 60 12 + 1)) 0 45 1) 0 46 mv 0 41 = S 60 12 + 1 := by rw [zup_ne (fun _ e => absurd e (by decide)), zup_ne (fun _ e => absurd e (by decide)), zup_eq]
  have m44 : zup (zup (zup (zup (zup M 0 44 (M 0 44 + 1)) 22 (S 60 12).toNat (op_r (s 60 6))) 0 41 (S 60 12 + 1)) 0 45 1) 0 46 mv 0 44 = M 0 44 + 1 := by rw [zup_ne (fun _ e => absurd e (by decide)), zup_ne (fun _ e => absurd e (by decide)), zup_ne (fun _ e => absurd e (by decide)), zup_ne (fun e _ => absurd e (by decide)), zup_eq]
  have m45 : zup (zup (zup (zup (zup M 0 44 (M 0 44 + 1)) 22 (S 60 12).toNat (op_r (s 60 6))) 0 41 (S 60 12 + 1)) 0 45 1) 0 46 mv 0 45 = 1 := by rw [zup_ne (fun _ e => absurd e (by decide)), zup_eq]
  have m46 : zup (zup (zup (zup (zup M 0 44 (M 0 44 + 1)) 22 (S 60 12).toNat (op_r (s 60 6))) 0 41 (S 60 12 + 1)) 0 45 1) 0 46 mv 0 46 = mv := zup_eq
  have m22 : zup (zup (zup (zup (zup M 0 44 (M 0 44 + 1)) 22 (S 60 12).toNat (op_r (s 60 6))) 0 41 (S 60 12 + 1)) 0 45 1) 0 46 mv 22 (S 60 12).toNat = op_r (s 60 6) := by rw [zup_ne (fun e _ => absurd e (by decide)), zup_ne (fun e _ => absurd e (by decide)), zup_ne (fun e _ => absurd e (by decide)), zup_eq]
  have mz : ∀ r j, ¬ (r = 0 ∧ (j = 41 ∨ j = 44 ∨ j = 45 ∨ j = 46)) → ¬ (r = 22 ∧ j = (S 60 12).toNat) → zup (zup (zup (zup (zup M 0 44 (M 0 44 + 1)) 22 (S 60 12).toNat (op_r (s 60 6))) 0 41 (S 60 12 + 1)) 0 45 1) 0 46 mv r j = M r j := fun r j w w2 => by
    rw [zup_ne (fun e f => by omega), zup_ne (fun e f => by omega), zup_ne (fun e f => by omega), zup_ne (fun e f => by omega), zup_ne (fun e f => by omega)]
  generalize zup (zup (zup (zup (zup M 0 44 (M 0 44 + 1)) 22 (S 60 12).toNat (op_r (s 60 6))) 0 41 (S 60 12 + 1)) 0 45 1) 0 46 mv = M' at *
  refine st2_ok (yr_Qc Q1 (fun j hj => bz 60 j (by omega) (by omega) (by omega)) (fun j => bz 1 j (by omega) (by omega) (by omega)) (fun j h1 h2 => mz 0 j (by omega) (by omega)) (fun j => mz 1 j (by omega) (by omega))) ?_ ?_ ?_ ?_ ?_ (fS_tr i3 (fun r j h1 h2 h3 h4 => bz r j (by omega) (by omega) (by omega))) (fM_tr i6 (fun r j h1 => mz r j (by omega) (by omega))) ((bz 60 4 (by omega) (by omega) (by omega)).trans e4) ((bz 60 5 (by omega) (by omega) (by omega)).trans e5) (by omega)
  · have p := kk_pk (k := s 60 6) (g := S' 63) (g' := M' 22) K1 T0 k1.1 k1.2.1 (fun j hj => bz 63 j (by omega) (by omega) (by omega)) (fun j hj => mz 22 j (by omega) (by omega)) b63 m22
    unfold yr_k
    rw [b12, bz 60 13 (by omega) (by omega) (by omega), b47, bz 47 1 (by omega) (by omega) (by omega), m41, mz 0 43 (by omega) (by omega), m44, mz 0 19 (by omega) (by omega), a41]
    rw [a41] at p
    exact p
  · rw [m45]
  · intro _
    rw [m46, top_p (n := (S 60 12).toNat) (k := s 60 6) (by rw [b12]; omega) (by omega) b63]
    exact mv1
  · rw [bz 47 1 (by omega) (by omega) (by omega)]; omega
  · exact fun w => absurd w (by decide)
