/-! Laws of both readers: what waits. -/
def op_r (k : Int) : Int := if k = 0 then 0 else if k ≤ 3 then 5 - k else k + 1
theorem op_k : ∀ n : Nat, n < 14 → yq_rk (op_r n) = yp_rk n ∧ (1 ≤ yp_rk n → ¬ n = 0) ∧ (yp_rk n = 3 → n = 3) ∧ (yp_rk n < 1 → n = 0) ∧ 0 ≤ yp_rk n ∧ yp_rk n ≤ 6 := by decide +kernel
theorem op_i {k : Int} (h : 0 ≤ k) (h2 : k ≤ 13) : yq_rk (op_r k) = yp_rk k ∧ (1 ≤ yp_rk k → ¬ k = 0) ∧ (yp_rk k = 3 → k = 3) ∧ (yp_rk k < 1 → k = 0) ∧ 0 ≤ yp_rk k ∧ yp_rk k ≤ 6 := by
  have g := op_k k.toNat (by omega)
  rw [show ((k.toNat : Nat) : Int) = k by omega] at g
  exact ⟨g.1, fun w => by have := g.2.1 w; omega, fun w => by have := g.2.2.1 w; omega, fun w => by have := g.2.2.2.1 w; omega, g.2.2.2.2⟩
/-- how many of the first are 0 -/
def yz_c (f : Nat → Int) : Nat → Int
  | 0 => 0
  | n + 1 => yz_c f n + (if f n = 0 then 1 else 0)
theorem yz_n {f : Nat → Int} : ∀ n : Nat, 0 ≤ yz_c f n ∧ yz_c f n ≤ n
  | 0 => ⟨Int.le_refl 0, Int.le_refl 0⟩
  | n + 1 => by
    have i := yz_n (f := f) n
    rw [yz_c]
    split <;> omega
theorem yz_e {f g : Nat → Int} : ∀ n : Nat, (∀ j, j < n → g j = f j) → yz_c g n = yz_c f n
  | 0, _ => rfl
  | n + 1, h => by rw [yz_c, yz_c, yz_e n (fun j hj => h j (by omega)), h n (by omega)]
def yr_kk (n b c d : Int) (f : Nat → Int) (n' b' c' d' : Int) (f' : Nat → Int) : Prop := n = n' ∧ b = b' ∧ c = c' ∧ d = d' ∧ 0 ≤ n ∧ 0 ≤ b ∧ b ≤ 8 ∧ 0 ≤ d ∧ c ≤ 64 ∧ n + d = b + c ∧ (∀ j : Nat, (j : Int) < n → 0 ≤ f j ∧ f j ≤ 13 ∧ f' j = op_r (f j)) ∧ yz_c f n.toNat = b
theorem kk_b {n b c d n' b' c' d' : Int} {f f' : Nat → Int} (h : yr_kk n b c d f n' b' c' d' f') : b ≤ n ∧ d ≤ c ∧ n ≤ 72 := by
  obtain ⟨h1, h2, h3, h4, h5, h6, h7, h8, h9, h10, h11, h12⟩ := h
  have := yz_n (f := f) n.toNat
  omega
theorem kk_p0 {n b c d n' b' c' d' : Int} {f f' g g' : Nat → Int} (h : yr_kk n b c d f n' b' c' d' f') (hb : b < 8) (e : ∀ j, j < n.toNat → g j = f j) (e' : ∀ j, j < n.toNat → g' j = f' j) (t : g n.toNat = 0) (t' : g' n.toNat = 0) : yr_kk (n + 1) (b + 1) c d g (n' + 1) (b' + 1) c' d' g' := by
  obtain ⟨h1, h2, h3, h4, h5, h6, h7, h8, h9, h10, h11, h12⟩ := h
  refine ⟨by omega, by omega, h3, h4, by omega, by omega, by omega, h8, h9, by omega, fun j hj => ?_, ?_⟩
  · by_cases q : j = n.toNat
    · rw [q, t, t']
      exact ⟨by decide, by decide, rfl⟩
    · rw [e j (by omega), e' j (by omega)]
      exact h11 j (by omega)
  · rw [show (n + 1).toNat = n.toNat + 1 by omega, yz_c, yz_e _ e, h12, t, if_pos rfl]
theorem kk_pk {n b c d n' b' c' d' k : Int} {f f' g g' : Nat → Int} (h : yr_kk n b c d f n' b' c' d' f') (hc : c < 64) (h0 : 1 ≤ k) (h13 : k ≤ 13) (e : ∀ j, j < n.toNat → g j = f j) (e' : ∀ j, j < n.toNat → g' j = f' j) (t : g n.toNat = k) (t' : g' n.toNat = op_r k) : yr_kk (n + 1) b (c + 1) d g (n' + 1) b' (c' + 1) d' g' := by
  obtain ⟨h1, h2, h3, h4, h5, h6, h7, h8, h9, h10, h11, h12⟩ := h
  refine ⟨by omega, h2, by omega, h4, by omega, h6, h7, h8, by omega, by omega, fun j hj => ?_, ?_⟩
  · by_cases q : j = n.toNat
    · rw [q, t, t']
      exact ⟨by omega, by omega, rfl⟩
    · rw [e j (by omega), e' j (by omega)]
      exact h11 j (by omega)
  · rw [show (n + 1).toNat = n.toNat + 1 by omega, yz_c, yz_e _ e, h12, t, if_neg (by omega), Int.add_zero]
theorem kk_l {n b c d n' b' c' d' : Int} {f f' : Nat → Int} (h : yr_kk n b c d f n' b' c' d' f') (hc : c < 64) : yr_kk n b (c + 1) (d + 1) f n' b' (c' + 1) (d' + 1) f' := by
  obtain ⟨h1, h2, h3, h4, h5, h6, h7, h8, h9, h10, h11, h12⟩ := h
  exact ⟨h1, h2, by omega, by omega, h5, h6, h7, by omega, by omega, by omega, h11, h12⟩
/-- what is on top -/
theorem kk_t {n b c d n' b' c' d' : Int} {f f' : Nat → Int} (h : yr_kk n b c d f n' b' c' d' f') (hn : 0 < n) : 0 ≤ f (n - 1).toNat ∧ f (n - 1).toNat ≤ 13 ∧ f' (n - 1).toNat = op_r (f (n - 1).toNat) ∧ yz_c f n.toNat = yz_c f (n - 1).toNat + (if f (n - 1).toNat = 0 then 1 else 0) := by
  obtain ⟨h1, h2, h3, h4, h5, h6, h7, h8, h9, h10, h11, h12⟩ := h
  have g := h11 (n - 1).toNat (by omega)
  refine ⟨g.1, g.2.1, g.2.2, ?_⟩
  rw [show n.toNat = (n - 1).toNat + 1 by omega, yz_c]
theorem kk_u {n b c d n' b' c' d' : Int} {f f' : Nat → Int} (h : yr_kk n b c d f n' b' c' d' f') (hn : 0 < n) (ht : ¬ f (n - 1).toNat = 0) : d < 64 ∧ yr_kk (n - 1) b c (d + 1) f (n' - 1) b' c' (d' + 1) f' := by
  have t := kk_t h hn
  obtain ⟨h1, h2, h3, h4, h5, h6, h7, h8, h9, h10, h11, h12⟩ := h
  rw [if_neg ht] at t
  have z := yz_n (f := f) (n - 1).toNat
  exact ⟨by omega, by omega, h2, h3, by omega, by omega, h6, h7, by omega, h9, by omega, fun j hj => h11 j (by omega), by omega⟩
theorem kk_c {n b c d n' b' c' d' : Int} {f f' : Nat → Int} (h : yr_kk n b c d f n' b' c' d' f') (hb : 0 < b) (ht : 0 < n → f (n - 1).toNat = 0) : 0 < n ∧ yr_kk (n - 1) (b - 1) c d f (n' - 1) (b' - 1) c' d' f' := by
  have bb := kk_b h
  have t := kk_t h (by omega)
  have ht := ht (by omega)
  obtain ⟨h1, h2, h3, h4, h5, h6, h7, h8, h9, h10, h11, h12⟩ := h
  rw [if_pos ht] at t
  exact ⟨by omega, by omega, by omega, h3, h4, by omega, by omega, by omega, h8, h9, by omega, fun j hj => h11 j (by omega), by omega⟩
def yr_k (s m : zE) : Prop := yr_kk (s 60 12) (s 60 13) (s 47 0) (s 47 1) (s 63) (m 0 41) (m 0 43) (m 0 44) (m 0 19) (m 22)
/-- what an E leaves as it is -/
def fS_r (s s' : zE) : Prop := ∀ r j, ¬ r = 60 → ¬ r = 63 → ¬ r = 48 → ¬ r = 47 → s' r j = s r j
def fM_r (m m' : zE) : Prop := ∀ r j, (1 ≤ r ∧ r ≤ 18) ∨ (r = 0 ∧ 16 ≤ j ∧ j ≤ 18) → m' r j = m r j
theorem fS_tr {s t u : zE} (h : fS_r s t) (g : fS_r t u) : fS_r s u := fun r j a b c d => (g r j a b c d).trans (h r j a b c d)
theorem fM_tr {s t u : zE} (h : fM_r s t) (g : fM_r t u) : fM_r s u := fun r j a => (g r j a).trans (h r j a)
theorem gro_fr {k a b : Int} {m : zE} {r j : Nat} (h : (1 ≤ r ∧ r ≤ 18) ∨ r = 22 ∨ (r = 0 ∧ ¬ j = 19 ∧ ¬ j = 42)) : yq_gro k a b m r j = m r j := by
  unfold yq_gro yq_inc
  dsimp only
  rw [zup_ne (fun e f => by omega), zup_ne (fun e f => by omega), zup_ne (fun e f => by omega), zup_ne (fun e f => by omega), zup_ne (fun e f => by omega), zup_ne (fun e f => by omega)]
theorem gro_19 {k a b : Int} {m : zE} : yq_gro k a b m 0 19 = zd 0 1 (m 0 19) 1 := rfl
theorem bi1_fr {m : zE} {r j : Nat} (h : (1 ≤ r ∧ r ≤ 18) ∨ r = 22 ∨ (r = 0 ∧ ¬ j = 19 ∧ ¬ j = 42 ∧ ¬ j = 41)) : yq_bi1 m r j = m r j := by
  unfold yq_bi1 yq_bi2
  split
  · rw [gro_fr (by omega)]
    unfold yq_drS yq_dec
    rw [zup_ne (fun e f => by omega), zup_ne (fun e f => by omega)]
  · rw [gro_fr (by omega)]
    unfold yq_drS yq_dec
    rw [zup_ne (fun e f => by omega), zup_ne (fun e f => by omega), zup_ne (fun e f => by omega)]
theorem bi1_19 {m : zE} : yq_bi1 m 0 19 = zd 0 1 (m 0 19) 1 := by
  unfold yq_bi1 yq_bi2
  split <;> rfl
theorem add_1 {x : Int} {s : zE} (h : s 47 1 < 64) : yp_add x s = yp_inc 47 1 (zup s 48 (s 47 1).toNat x) := if_pos h
theorem ad2_fr {s : zE} {r j : Nat} (h : ¬ r = 48 ∧ ¬ (r = 47 ∧ j = 1)) : yp_ad2 s r j = s r j := by
  unfold yp_ad2 yp_add yp_inc
  split
  · rw [zup_ne (fun e f => h.2 ⟨e, f⟩), zup_ne (fun e _ => h.1 e)]
  · rfl
theorem yr_Qc {s s' m m' : zE} (h : yr_Q s m) (a : ∀ j, j < 9 → s' 60 j = s 60 j) (a1 : ∀ j, s' 1 j = s 1 j) (b : ∀ j, 4 ≤ j → j ≤ 10 → m' 0 j = m 0 j) (b1 : ∀ j, m' 1 j = m 1 j) : yr_Q s' m' := by
  unfold yr_Q zk_r zl_r at h ⊢
  simp only [a 0 (by decide), a 1 (by decide), b 4 (by decide) (by decide), b 5 (by decide) (by decide), a 4 (by decide), a 5 (by decide), a 6 (by decide), a 7 (by decide), a 8 (by decide), b 6 (by decide) (by decide), b 7 (by decide) (by decide), b 8 (by decide) (by decide), b 9 (by decide) (by decide), b 10 (by decide) (by decide), a1, b1]
  exact h
/-- what unwinding leaves -/
def un_r (s m s' m' : zE) : Prop := (∀ j, ¬ j = 12 → s' 60 j = s 60 j) ∧ fS_r s s' ∧ s' 47 0 = s 47 0 ∧ s 47 1 ≤ s' 47 1 ∧ fM_r m m' ∧ (∀ j, ¬ j = 19 → ¬ j = 42 → ¬ j = 41 → m' 0 j = m 0 j)
theorem yr_unw {rk : Int} (hr : 1 ≤ rk) : ∀ (n : Nat) (s m : zE), (s 60 12).toNat = n → yr_k s m → yr_k (yp_unk rk n s) (yq_bik rk n m) ∧ un_r s m (yp_unk rk n s) (yq_bik rk n m) ∧ (0 < yp_unk rk n s 60 12 → yp_rk (yp_unk rk n s 63 (yp_unk rk n s 60 12 - 1).toNat) < rk)
  | 0, s, m, hn, h => by
    rw [yp_unk, yq_bik]
    exact ⟨h, ⟨fun _ _ => rfl, fun _ _ _ _ _ _ => rfl, rfl, Int.le_refl _, fun _ _ _ => rfl, fun _ _ _ _ => rfl⟩, fun w => by omega⟩
  | n + 1, s, m, hn, h => by
    have bb := kk_b h
    have p : 0 < s 60 12 := by omega
    have t := kk_t h p
    have e41 : s 60 12 = m 0 41 := h.1
    have z1 : zd 0 2 (s 60 12) 1 = s 60 12 - 1 := zd_s ⟨by omega, by omega⟩
    have tp : yp_top s = yp_rk (s 63 (s 60 12 - 1).toNat) := by
      unfold yp_top
      rw [if_pos p, z1]
    have op := op_i t.1 t.2.1
    rw [yp_unk, yq_bik, tp, ← e41, z1, t.2.2.1, op.1]
    by_cases q : rk ≤ yp_rk (s 63 (s 60 12 - 1).toNat)
    case neg =>
      rw [if_neg (fun w => q w.2), if_neg (fun w => q w.2)]
      exact ⟨h, ⟨fun _ _ => rfl, fun _ _ _ _ _ _ => rfl, rfl, Int.le_refl _, fun _ _ _ => rfl, fun _ _ _ _ => rfl⟩, fun w => by omega⟩
    rw [if_pos ⟨p, q⟩, if_pos ⟨p, q⟩]
    have u := kk_u h p (op.2.1 (by omega))
    have d12 : yp_dec 60 12 s 60 12 = s 60 12 - 1 := by unfold yp_dec; rw [zup_eq, z1]
    have d0 : ∀ r j, ¬ (r = 60 ∧ j = 12) → yp_dec 60 12 s r j = s r j := fun r j w => by unfold yp_dec; rw [zup_ne (fun e f => w ⟨e, f⟩)]
    have a : ∀ r j, ¬ r = 48 → ¬ (r = 47 ∧ j = 1) → ¬ (r = 60 ∧ j = 12) → yp_ad2 (yp_dec 60 12 s) r j = s r j := fun r j w1 w2 w3 => by rw [ad2_fr ⟨w1, w2⟩, d0 r j w3]
    have a12 : yp_ad2 (yp_dec 60 12 s) 60 12 = s 60 12 - 1 := by rw [ad2_fr ⟨by decide, by decide⟩, d12]
    have a47 : yp_ad2 (yp_dec 60 12 s) 47 1 = s 47 1 + 1 := by
      have e : yp_dec 60 12 s 47 1 = s 47 1 := d0 _ _ (by decide)
      have g0 := h.2.2.2.2.2.2.2.1
      unfold yp_ad2
      rw [add_1 (by rw [e]; exact u.1)]
      unfold yp_inc
      rw [zup_eq, zup_ne (fun e _ => absurd e (by decide)), e, zd_1 g0 (by omega)]
    have g0 := h.2.2.2.2.2.2.2.1
    have e19 : s 47 1 = m 0 19 := h.2.2.2.1
    have hk : yr_k (yp_ad2 (yp_dec 60 12 s)) (yq_bi1 m) := by
      unfold yr_k
      rw [a12, a47, a 60 13 (by decide) (by decide) (by decide), a 47 0 (by decide) (by decide) (by decide), show yp_ad2 (yp_dec 60 12 s) 63 = s 63 from funext fun j => a 63 j (by decide) (fun w => absurd w.1 (by decide)) (fun w => absurd w.1 (by decide)), qbi_w, bi1_19, bi1_fr (by omega), bi1_fr (by omega), show yq_bi1 m 22 = m 22 from funext fun j => bi1_fr (by omega), ← e41, ← e19, z1, zd_1 g0 (by omega)]
      have u2 := u.2
      rw [← e41, ← e19] at u2
      exact u2
    have i := yr_unw hr n _ _ (by rw [a12]; omega) hk
    obtain ⟨i1, ⟨i2, i3, i4, i5, i6, i7⟩, i8⟩ := i
    refine ⟨i1, ⟨fun j hj => (i2 j hj).trans (a 60 j (by decide) (fun w => absurd w.1 (by decide)) (by omega)), fS_tr (fun r j w1 w2 w3 w4 => a r j w3 (by omega) (by omega)) i3, i4.trans (a 47 0 (by decide) (by decide) (by decide)), by rw [a47] at i5; omega, fM_tr (fun r j w => bi1_fr (by omega)) i6, fun j w1 w2 w3 => (i7 j w1 w2 w3).trans (bi1_fr (by omega))⟩, i8⟩
