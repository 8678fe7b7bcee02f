/-! The sheet that is kept, on both sides. -/
def sh_w (η : zE) : zE := fun r j => η (r - 30) j
def un_w (θ : zE) : zE := fun r j => if r = 5 ∨ r = 6 then θ r (j - 12) else θ r (j - 4)
def yo_w (s m : zE) : Prop := s 32 4 = m 4 4 ∧ s 32 5 = m 4 5 ∧ s 32 6 = m 4 7 ∧ s 32 7 = m 4 6 ∧ (0 ≤ s 32 5 ∧ s 32 5 ≤ 99) ∧ 0 ≤ s 32 6 ∧ s 32 6 ≤ 9
def KS_w (s m : zE) : Prop := yr_g s m ∧ yr_c s m ∧ yr_u s m ∧ yo_w s m
def KX_w (η θ : zE) : Prop := KS_w (sh_w η) (un_w θ)
def hA_r (m m' : zE) : Prop := (m' 0 16 = m 0 16 ∧ m' 0 17 = m 0 17 ∧ m' 0 18 = m 0 18) ∧ (∀ r j, (r = 5 ∨ r = 6) → j < 12 → m' r (12 + j) = m r (12 + j)) ∧ ∀ r j, (r = 4 ∨ (7 ≤ r ∧ r ≤ 15)) → j < 4 → m' r (4 + j) = m r (4 + j)
theorem ks_m {s m m' : zE} (h : KS_w s m) (a : hA_r m m') : KS_w s m' := by
  obtain ⟨g, c, u, o⟩ := h
  obtain ⟨⟨a1, a2, a3⟩, a4, a5⟩ := a
  refine ⟨⟨g.1, g.2.1, g.2.2.1.trans a1.symm, fun j hj => ?_⟩, ⟨c.1, c.2.1, c.2.2.1.trans a2.symm, fun j hj => ?_, fun x hx => ?_⟩, ⟨u.1, u.2.1, u.2.2.1.trans a3.symm, fun j hj => ?_⟩, ?_⟩
  · have b := g.2.1
    rw [a4 5 j (by omega) (by omega), a4 6 j (by omega) (by omega)]
    exact g.2.2.2 j hj
  · have b := c.2.1
    rw [a5 7 j (by omega) (by omega), a5 8 j (by omega) (by omega), a5 9 j (by omega) (by omega), a5 10 j (by omega) (by omega), a5 11 j (by omega) (by omega)]
    exact c.2.2.2.1 j hj
  · have b := c.2.1
    have b0 := c.1
    rw [c.2.2.2.2 x hx]
    exact fd_c (fun i hi => (a5 7 i (by omega) (by omega)).symm) _ (Nat.le_refl _)
  · have b := u.2.1
    rw [a5 12 j (by omega) (by omega), a5 13 j (by omega) (by omega), a5 14 j (by omega) (by omega), a5 15 j (by omega) (by omega)]
    exact u.2.2.2 j hj
  · have o4 := a5 4 0 (Or.inl rfl) (by decide)
    have o5 := a5 4 1 (Or.inl rfl) (by decide)
    have o6 := a5 4 2 (Or.inl rfl) (by decide)
    have o7 := a5 4 3 (Or.inl rfl) (by decide)
    exact ⟨o.1.trans o4.symm, o.2.1.trans o5.symm, o.2.2.1.trans o7.symm, o.2.2.2.1.trans o6.symm, o.2.2.2.2⟩
theorem ks_s {s s' m : zE} (h : KS_w s m) (a : ∀ r j, 32 ≤ r → r ≤ 46 → s' r j = s r j) : KS_w s' m := by
  obtain ⟨g, c, u, o⟩ := h
  exact ⟨yg_fr g (fun r j w => a r j (by omega) (by omega)) (fun _ _ _ => rfl), yc_fr c (fun r j w => a r j (by omega) (by omega)) (fun _ _ _ => rfl), yu_fr u (fun r j w => a r j (by omega) (by omega)) (fun _ _ _ => rfl), by unfold yo_w; rw [a 32 4 (by decide) (by decide), a 32 5 (by decide) (by decide), a 32 6 (by decide) (by decide), a 32 7 (by decide) (by decide)]; exact o⟩
theorem un_5 {θ : zE} {r j : Nat} (h : r = 5 ∨ r = 6) : un_w θ r (12 + j) = θ r j := by
  unfold un_w
  rw [if_pos h, show 12 + j - 12 = j by omega]
theorem un_4 {θ : zE} {r j : Nat} (h : ¬ (r = 5 ∨ r = 6)) : un_w θ r (4 + j) = θ r j := by
  unfold un_w
  rw [if_neg h, show 4 + j - 4 = j by omega]
theorem un_0 {θ : zE} {j : Nat} : un_w θ 0 (4 + j) = θ 0 j := un_4 (by decide)
/-- both sides' other cells change -/
theorem kx_m {η θ θ' : zE} (h : KX_w η θ) (a : hK_r θ θ') : KX_w η θ' := ks_m h ⟨⟨(un_0 (j := 12)).trans ((a 0 12 (by omega)).trans (un_0 (j := 12)).symm), (un_0 (j := 13)).trans ((a 0 13 (by omega)).trans (un_0 (j := 13)).symm), (un_0 (j := 14)).trans ((a 0 14 (by omega)).trans (un_0 (j := 14)).symm)⟩, fun r j hr hj => by rw [un_5 hr, un_5 hr]; exact a r j (by omega), fun r j hr hj => by rw [un_4 (by omega), un_4 (by omega)]; exact a r j (by omega)⟩
theorem kx_s {η η' θ : zE} (h : KX_w η θ) (a : ∀ r j, 2 ≤ r → r ≤ 16 → η' r j = η r j) : KX_w η' θ := ks_s h (fun r j h1 h2 => a (r - 30) j (by omega) (by omega))
/-- a text is kept -/
theorem kx_of {s m η θ' : zE} (x : yr_x s m) (a : ∀ r j, 32 ≤ r → r ≤ 46 → η (r - 30) j = s r j) (f : θ' 0 12 = m 0 16 ∧ θ' 0 13 = m 0 17 ∧ θ' 0 14 = m 0 18) (r5 : ∀ r j, (r = 5 ∨ r = 6) → j < 12 → θ' r j = m r (12 + j)) (r4 : ∀ r j, (r = 4 ∨ (7 ≤ r ∧ r ≤ 15)) → j < 4 → θ' r j = m r (4 + j)) : KX_w η θ' := by
  have k : KS_w s m := ⟨x.1, x.2.1, x.2.2.1, x.2.2.2.1.2.1, x.2.2.2.1.2.2.1, x.2.2.2.1.2.2.2.1, x.2.2.2.1.2.2.2.2⟩
  exact ks_m (ks_s (s' := sh_w η) k a) ⟨⟨(un_0 (j := 12)).trans f.1, (un_0 (j := 13)).trans f.2.1, (un_0 (j := 14)).trans f.2.2⟩, fun r j hr hj => by rw [un_5 hr]; exact r5 r j hr hj, fun r j hr hj => by rw [un_4 (by omega)]; exact r4 r j hr hj⟩
/-- without a fault the count isn't -1 -/
theorem yr_rdN : ∀ (M n : Nat) (l : Int) (s m : zE), yr_Q s m → yr_x s m → yq_mu m < M → s 60 4 - s 60 5 + (if s 60 6 = 21 then 1 else 2) ≤ n → yp_rdl n s 60 0 = 0 → 0 ≤ l → l + M ≤ 8000 → 0 ≤ (yq_rdl M l m).1
  | 0, _, _, _, _, _, _, h, _, _, _, _ => absurd h (Nat.not_lt_zero _)
  | M + 1, n, l, s, m, Q, x, hm, hn, hf, h0, h1 => by
    have u0 := mu_0 Q
    have me := mu_e Q
    have n1 : 1 ≤ n := by
      by_cases q : s 60 6 = 21
      · rw [if_pos q] at hn; omega
      · rw [if_neg q] at hn; omega
    obtain ⟨k, rfl⟩ : ∃ k, n = k + 1 := ⟨n - 1, by omega⟩
    rw [yp_rdl] at hf
    rw [yq_rdl]
    by_cases q : s 60 6 = 21
    · rw [if_pos (u0.1.mp q)]
      exact h0
    rw [if_neg (show ¬ (s 60 6 = 21 ∨ ¬ s 60 0 = 0) from fun z => z.elim q (fun z => z Q.1))] at hf
    rw [if_neg (fun z => q (u0.1.mpr z))]
    rcases yr_line Q x with ⟨g1, g2⟩ | ⟨g1, g2, g3, g4⟩
    · rw [rdl_F g2.1] at hf
      exact absurd hf g2.1
    rw [if_neg (by omega)]
    have u1 := mu_0 g2
    have me1 := mu_e g2
    have e4 : yp_end (yp_lin s) 60 4 = s 60 4 := ln_tr ln_lin ln_end
    rw [if_neg q] at hn
    refine yr_rdN M k (zd 0 1 l 1) _ _ g2 g3 (by omega) ?_ hf ?_ ?_
    · split <;> omega
    · rw [show zd 0 1 l 1 = l + 1 from zd_a ⟨by omega, by omega⟩]; omega
    · rw [show zd 0 1 l 1 = l + 1 from zd_a ⟨by omega, by omega⟩]; omega
theorem yr_texN {n : Int} {s m : zE} (h0 : 0 ≤ n) (h1 : n ≤ 700) (hb : ∀ j : Nat, (j : Int) < n → zb_r (s 1 j) (m 1 j)) (hf : yp_R n s 60 0 = 0) : 0 ≤ (yq_R n m).1 := by
  have zl : zl_r (yp_ini n s) (yq_pln (yq_ini n m)) := ⟨rfl, rfl, show (0 : Int) ≤ 0 by decide, h0, h1, hb⟩
  have A := zk_adv zl
  have Q : yr_Q (yp_adv (yp_ini n s)) (yq_ist n m) := ⟨rfl, A.2.1, A.1, rfl, rfl⟩
  have x0 := ini_x (n := n) (s := s) (m := m)
  have x : yr_x (yp_adv (yp_ini n s)) (yq_ist n m) := ⟨yg_fr x0.1 (fun r j hr => adv_fr (by omega)) (fun r j hr => tok_fx (by omega)), yc_fr x0.2.1 (fun r j hr => adv_fr (by omega)) (fun r j hr => tok_fx (by omega)), yu_fr x0.2.2.1 (fun r j hr => adv_fr (by omega)) (fun r j hr => tok_fx (by omega)), yo_fr x0.2.2.2.1 (fun r j hr => adv_fr (by omega)) (fun r j hr => tok_fx (by omega)), yl_fr x0.2.2.2.2 (fun r j hr => adv_fr (by omega)) (fun r j hr => tok_fx (by omega))⟩
  have e4 : yp_ini n s 60 4 = n := rfl
  have e5 : yp_ini n s 60 5 = 0 := rfl
  have f4 : yp_adv (yp_ini n s) 60 4 = n := rfl
  have B := A.2.2
  rw [e4, e5] at B
  have me := mu_e Q
  have u0 := mu_0 Q
  rw [f4] at me u0
  exact yr_rdN (yq_mu (yq_ist n m) + 1) (n + 1).toNat 0 _ _ Q x (by omega) (by
    rw [f4]
    by_cases z : yp_adv (yp_ini n s) 60 6 = 21
    · rw [if_pos z]; have := B.1 z; omega
    · rw [if_neg z]; have := B.2.1 z; omega) hf (Int.le_refl 0) (by omega)
