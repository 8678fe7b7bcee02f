/-! kind and value go together behind every token -/
theorem lang_k {i : Nat} {L : Int} (h : i < 20) : K1_r (yp_lang i L).1 (yp_lang i L).2 ∧ (yp_lang i L).1 ≤ 19 ∧ 0 ≤ (yp_lang i L).1 := by
  unfold yp_lang K1_r
  (repeat' split) <;> (dsimp only; omega)
theorem kw_k {L : Int} : ∀ i, i ≤ 20 → K1_r (yp_kw L i).1 (yp_kw L i).2
  | 0, _ => by unfold K1_r; rw [yp_kw]; dsimp only; omega
  | i + 1, h => by
    rw [yp_kw]
    split
    · exact (lang_k (by omega)).1
    · exact kw_k i (by omega)
theorem num_k {b : Nat → Int} {p : Nat} : ∀ m, (∀ j, j < m → 48 ≤ b (p + j) ∧ b (p + j) ≤ 57) → 0 ≤ yp_num b p m ∧ yp_num b p m ≤ 9999999
  | 0, _ => by rw [yp_num]; omega
  | m + 1, h => by
    have g := num_k (b := b) (p := p) m (fun j hj => h j (by omega))
    have c := h m (by omega)
    rw [yp_num]
    split <;> omega
theorem sg_k {c d : Int} : (0 ≤ (yp_sg c d).1 ∧ (yp_sg c d).1 ≤ 15) ∨ (yp_sg c d).1 = 22 := by
  unfold yp_sg
  repeat' split
  all_goals first | exact Or.inr rfl | exact Or.inl (by decide)
theorem tk2_k {b : Nat → Int} {n a : Nat} : K1_r (yp_tk2 b n a).1 (yp_tk2 b n a).2.1 := by
  unfold yp_tk2
  split
  · unfold K1_r; dsimp only; omega
  · next w =>
    split
    · split
      · unfold K1_r; dsimp only; omega
      · exact kw_k 20 (Nat.le_refl _)
    · split
      · have g := (ys_p (P := yp_di) (b := b) (n := n) (n - a) (by omega)).1
        have q := num_k (b := b) (p := a) (yp_scn yp_di b n (n - a) - a) (fun j hj => by
          have := g (a + j) (by omega) (by omega)
          unfold yp_di at this
          exact of_decide_eq_true this)
        exact ⟨fun e => absurd e (show ¬ (16 : Int) = 19 by decide), fun e => absurd e (show ¬ (16 : Int) = 17 by decide), fun _ => q⟩
      · have g := sg_k (c := b a) (d := if a + 1 < n then b (a + 1) else 0)
        unfold K1_r
        dsimp only
        omega
theorem gr_adv {s : zE} : G_r (yp_adv s) := tk2_k
theorem gr_zup {s : zE} {r j : Nat} {x : Int} (h : G_r s) (hr : ¬ (r = 60 ∧ (j = 6 ∨ j = 8))) : G_r (zup s r j x) := by
  unfold G_r
  rw [zup_ne (fun e e2 => hr ⟨e.symm, Or.inl e2.symm⟩), zup_ne (fun e e2 => hr ⟨e.symm, Or.inr e2.symm⟩)]
  exact h
theorem gr_flw {s : zE} {w p : Int} (h : G_r s) : G_r (yp_flw w p s) := by
  unfold yp_flw
  split
  · exact gr_zup (gr_zup h (by decide)) (by decide)
  · exact h
theorem gr_rd {s : zE} {lo hi : Int} (h : G_r s) : G_r (yp_rd lo hi s) := by
  unfold yp_rd
  repeat' split
  all_goals first | exact h | exact gr_flw h | exact gr_adv
theorem gr_rw {s : zE} {lo hi : Int} {r j : Nat} (h : G_r s) (hr : ¬ r = 60) : G_r (yp_rw lo hi r j s) := gr_zup (gr_rd h) (fun w => hr w.1)
theorem gr_inc {s : zE} {r j : Nat} (h : G_r s) (hr : ¬ r = 60) : G_r (yp_inc r j s) := gr_zup h (fun w => hr w.1)
theorem gr_grv {s : zE} (h : G_r s) : G_r (yp_grv s) := by
  unfold yp_grv
  split
  · exact gr_flw h
  · exact gr_inc (gr_rw (gr_rw gr_adv (by decide)) (by decide)) (by decide)
theorem gr_scr {s : zE} (h : G_r s) (hk : 0 ≤ s 32 2) : G_r (yp_scr s) := by
  unfold yp_scr
  split
  · exact gr_flw h
  · next w =>
    have k : (s 32 2).toNat < 4 := by omega
    generalize (s 32 2).toNat = k0 at k
    unfold yp_scr2
    split
    · exact gr_rd gr_adv
    · split
      · exact gr_flw (gr_rd gr_adv)
      · unfold yp_scr3 yp_scr4
        exact gr_inc (gr_zup (gr_rw (gr_rw (gr_rw (gr_rw (gr_zup (gr_rd gr_adv) (by omega)) (by omega)) (by omega)) (by omega)) (by omega)) (by omega)) (by omega)
theorem gr_gst {s : zE} (h : G_r s) (hk : 0 ≤ s 32 3) : G_r (yp_gst s) := by
  unfold yp_gst
  split
  · exact gr_flw h
  · next w =>
    have k : (s 32 3).toNat < 4 := by omega
    generalize (s 32 3).toNat = k0 at k
    unfold yp_gst2
    split
    · exact gr_flw gr_adv
    · split
      · exact gr_flw gr_adv
      · unfold yp_gst3
        exact gr_inc (gr_rw (gr_rw (gr_rw gr_adv (by omega)) (by omega)) (by omega)) (by omega)
theorem gr_onc {s : zE} {w : Int} (h : G_r s) : G_r (yp_onc w s) := by
  unfold yp_onc
  split
  · exact gr_flw h
  · unfold yp_onc2
    (repeat' split)
    · exact gr_rw gr_adv (by decide)
    · exact gr_rw (gr_rw gr_adv (by decide)) (by decide)
    · exact gr_rw gr_adv (by decide)
/-- a contract with other words before and behind -/
theorem zmet_w {P : sm_P} {K : sm_K} {df : Nat → List Value} {ro : Nat → List Int32} {X : sm_X} {dep mid rk : Nat} {T : zTm} {asp : List ab_V} {req rtu : zRt} {L : wL} {mods : List zCe} {pr : zPq} {po : zPo} {P1 P2 : List Int → zE → Prop} {Q1 Q2 : List Int → zE → Int → zE → Prop} (h : zMet P K df ro X dep mid T asp rk req rtu (fun xs η => sP L zTr pr xs η ∧ P1 xs η) (fun xs η y η' => sQ L zTr po mods xs η y η' ∧ Q1 xs η y η')) (h1 : ∀ xs η, sP L zTr pr xs η → P2 xs η → P1 xs η) (h2 : ∀ xs η y η', sP L zTr pr xs η → P2 xs η → sQ L zTr po mods xs η y η' → Q1 xs η y η' → Q2 xs η y η') : zMet P K df ro X dep mid T asp rk req rtu (fun xs η => sP L zTr pr xs η ∧ P2 xs η) (fun xs η y η' => sQ L zTr po mods xs η y η' ∧ Q2 xs η y η') := by
  intro α h0 η ra d xs vs a1 a2 a3 a4 a5 a6 a7
  obtain ⟨n, v, h', y, η', g1, g2, g3, g4, g5⟩ := h α h0 η ra d xs vs a1 a2 a3 a4 a5 a6 ⟨a7.1, h1 xs η a7.1 a7.2⟩
  exact ⟨n, v, h', y, η', g1, g2, g3, g4, g5.1, h2 xs η y η' a7.1 a7.2 g5.1 g5.2⟩
