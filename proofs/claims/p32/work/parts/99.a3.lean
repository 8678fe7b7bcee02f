def zc_q (η : zE) : Nat → Int
  | 0 => 0
  | n + 1 => zc_q η n + (if η 63 n = 0 then 1 else 0)
def J_q (a b : Int) (η : zE) : Prop := η 60 0 = 0 → zc_q η (η 60 12).toNat + a = η 60 13 ∧ η 60 12 + b ≤ η 47 0 + η 60 13 ∧ η 60 13 ≤ 8
def Kc_q (η : zE) : Prop := (∀ k, k < 3 → η 50 k ≤ η 47 1) ∧ (η 60 0 = 0 → ∀ i : Nat, (i : Int) < η 47 1 → -13 ≤ η 48 i ∧ η 48 i ≤ 10006)
def Gd_q (a b : Int) (η : zE) : Prop := G_r η ∧ J_q a b η ∧ Kc_q η
def G_q : zE → Prop := Gd_q 0 0
theorem zc_congr {η η' : zE} (h : ∀ j, η' 63 j = η 63 j) : ∀ n, zc_q η' n = zc_q η n
  | 0 => rfl
  | n + 1 => by
    unfold zc_q
    rw [zc_congr h n, h n]
theorem zc_below {η η' : zE} : ∀ n, (∀ j, j < n → η' 63 j = η 63 j) → zc_q η' n = zc_q η n
  | 0, _ => rfl
  | n + 1, h => by
    unfold zc_q
    rw [zc_below n (fun j hj => h j (by omega)), h n (by omega)]
def hr_q : List zCe := [(nat_lit 60, nat_lit 1), (nat_lit 60, nat_lit 13), (nat_lit 60, nat_lit 14), (nat_lit 63, nat_lit 0), (nat_lit 47, nat_lit 0), (nat_lit 48, nat_lit 0), (nat_lit 50, nat_lit 0)]
def H_q (a b : Int) (η : zE) : Prop := J_q a b η ∧ Kc_q η
theorem hk_q {a b : Int} : zGk (H_q a b) hr_q := fun η η' h g => by
  have e1 := h 60 0 rfl
  have e2 := h 60 12 rfl
  have e3 := h 60 13 rfl
  have e4 : ∀ j, η' 63 j = η 63 j := fun j => h _ _ (zin2_of (q := (63, 0)) (by decide) rfl (Or.inl rfl))
  have e5 : ∀ j, η' 47 j = η 47 j := fun j => h _ _ (zin2_of (q := (47, 0)) (by decide) rfl (Or.inl rfl))
  have e6 : ∀ j, η' 48 j = η 48 j := fun j => h _ _ (zin2_of (q := (48, 0)) (by decide) rfl (Or.inl rfl))
  have e7 : ∀ j, η' 50 j = η 50 j := fun j => h _ _ (zin2_of (q := (50, 0)) (by decide) rfl (Or.inl rfl))
  unfold H_q J_q Kc_q at g ⊢
  simp only [e1, e2, e3, e5, e6, e7, zc_congr e4]
  exact g
theorem Gd_w {a b a' b' : Int} {η : zE} (h : Gd_q a b η) (ha : a = a') (hb : b' ≤ b) : Gd_q a' b' η := ⟨h.1, fun w => by have := h.2.1 w; subst ha; exact ⟨this.1, by omega, this.2.2⟩, h.2.2⟩
theorem H_fault {a b a' b' : Int} {η η' : zE} (h : H_q a b η) (hf : ¬ η' 60 0 = 0) (e5 : ∀ j, η' 47 j = η 47 j) (e7 : ∀ j, η' 50 j = η 50 j) : H_q a' b' η' := ⟨fun w => absurd w hf, fun k hk => by rw [e5, e7]; exact h.2.1 k hk, fun w => absurd w hf⟩
theorem zFm_tr {m M : List zCe} {η0 η η' : zE} (h1 : zFm M η0 η) (h2 : zFm m η η') (hm : zsd M m = true) : zFm M η0 η' := fun r j hr => by
  rw [h2 r j (Bool.eq_false_iff.mpr (fun w => ?_)), h1 r j hr]
  obtain ⟨d, hd, d1, d2⟩ := zin2_mem w
  obtain ⟨q, hq1, hq2⟩ := List.any_eq_true.mp (List.all_eq_true.mp hm d hd)
  have g := (Bool.and_eq_true _ _).mp hq2
  have e1 := Nat.eq_of_beq_eq_true g.1
  have : zin2 M r j = true := zin2_of hq1 (by rw [e1, d1]) (by
    rcases (Bool.or_eq_true _ _).mp g.2 with g | g
    · exact Or.inl (Nat.eq_of_beq_eq_true g)
    · rw [Nat.eq_of_beq_eq_true g]; exact d2)
  rw [hr] at this
  cases this
theorem add_q {η : zE} {x : Int} (g : G_q η) (hx : η 60 0 = 0 → -13 ≤ x ∧ x ≤ 10006) (h0 : 0 ≤ η 47 1) : G_q (zup (zup η 48 (η 47 1).toNat x) 47 1 (η 47 1 + 1)) := by
  have e : ∀ r j, ¬ r = 48 → ¬ (r = 47 ∧ j = 1) → zup (zup η 48 (η 47 1).toNat x) 47 1 (η 47 1 + 1) r j = η r j := fun r j a b => by
    rw [zup_ne (fun w w2 => b ⟨w, w2⟩), zup_ne (fun w _ => a w)]
  have eW : ∀ j, zup (zup η 48 (η 47 1).toNat x) 47 1 (η 47 1 + 1) 63 j = η 63 j := fun j => e _ _ (by decide) (fun w => absurd w.1 (by decide))
  refine ⟨?_, ?_, ?_, ?_⟩
  · unfold G_r
    rw [e 60 6 (by decide) (fun w => absurd w.1 (by decide)), e 60 8 (by decide) (fun w => absurd w.1 (by decide))]
    exact g.1
  · unfold J_q
    rw [e 60 0 (by decide) (fun w => absurd w.1 (by decide)), e 60 12 (by decide) (fun w => absurd w.1 (by decide)), e 60 13 (by decide) (fun w => absurd w.1 (by decide)), e 47 0 (by decide) (fun w => absurd w.2 (by decide)), zc_congr eW]
    exact g.2.1
  · intro k hk
    rw [e 50 k (by decide) (fun w => absurd w.1 (by decide)), zup_eq]
    have := g.2.2.1 k hk
    omega
  · intro w i hi
    rw [e 60 0 (by decide) (fun w => absurd w.1 (by decide))] at w
    rw [zup_eq] at hi
    rw [zup_ne (fun w2 _ => absurd w2 (by decide))]
    by_cases q : i = (η 47 1).toNat
    · rw [q, zup_eq]
      exact hx w
    · rw [zup_ne (fun _ w2 => q w2)]
      exact g.2.2.2 w i (by omega)
theorem tie_q {η : zE} (g : G_q η) : Gd_q 0 1 (zup η 47 0 (η 47 0 + 1)) := by
  have e : ∀ r j, ¬ (r = 47 ∧ j = 0) → zup η 47 0 (η 47 0 + 1) r j = η r j := fun r j a => zup_ne (fun w w2 => a ⟨w, w2⟩)
  have eW : ∀ j, zup η 47 0 (η 47 0 + 1) 63 j = η 63 j := fun j => e _ _ (fun w => absurd w.1 (by decide))
  refine ⟨?_, ?_, ?_, ?_⟩
  · unfold G_r
    rw [e 60 6 (fun w => absurd w.1 (by decide)), e 60 8 (fun w => absurd w.1 (by decide))]
    exact g.1
  · unfold J_q
    rw [e 60 0 (fun w => absurd w.1 (by decide)), e 60 12 (fun w => absurd w.1 (by decide)), e 60 13 (fun w => absurd w.1 (by decide)), zup_eq, zc_congr eW]
    intro w
    have := g.2.1 w
    exact ⟨this.1, by omega, this.2.2⟩
  · intro k hk
    rw [e 50 k (fun w => absurd w.1 (by decide)), e 47 1 (fun w => absurd w.2 (by decide))]
    exact g.2.2.1 k hk
  · intro w i hi
    rw [e 60 0 (fun w => absurd w.1 (by decide))] at w
    rw [e 47 1 (fun w => absurd w.2 (by decide))] at hi
    rw [e 48 i (fun w => absurd w.1 (by decide))]
    exact g.2.2.2 w i hi
theorem gd_f {a b a' b' : Int} {η : zE} (h : Gd_q a b η) (hf : ¬ η 60 0 = 0) : Gd_q a' b' η := ⟨h.1, fun w => absurd w hf, h.2.2.1, fun w => absurd w hf⟩
theorem push_q {a b : Int} {η : zE} {x : Int} (g : Gd_q a b η) (h0 : 0 ≤ η 60 12) (ha : (if x = 0 then 1 else 0) = a) (hb : b = 1) : G_q (zup (zup η 63 (η 60 12).toNat x) 60 12 (η 60 12 + 1)) := by
  have e : ∀ r j, ¬ r = 63 → ¬ (r = 60 ∧ j = 12) → zup (zup η 63 (η 60 12).toNat x) 60 12 (η 60 12 + 1) r j = η r j := fun r j a b => by
    rw [zup_ne (fun w w2 => b ⟨w, w2⟩), zup_ne (fun w _ => a w)]
  refine ⟨?_, ?_, ?_, ?_⟩
  · unfold G_r
    rw [e 60 6 (by decide) (fun w => absurd w.2 (by decide)), e 60 8 (by decide) (fun w => absurd w.2 (by decide))]
    exact g.1
  · unfold J_q
    rw [e 60 0 (by decide) (fun w => absurd w.2 (by decide)), zup_eq, e 60 13 (by decide) (fun w => absurd w.2 (by decide)), e 47 0 (by decide) (fun w => absurd w.1 (by decide))]
    intro w
    have k := g.2.1 w
    rw [show (η 60 12 + 1).toNat = (η 60 12).toNat + 1 by omega]
    unfold zc_q
    rw [zc_below (η := η) (η 60 12).toNat (fun j hj => by rw [zup_ne (fun w2 _ => absurd w2 (by decide)), zup_ne (fun _ w2 => by omega)])]
    have u : zup (zup η 63 (η 60 12).toNat x) 60 12 (η 60 12 + 1) 63 (η 60 12).toNat = x := by
      rw [zup_ne (fun w2 _ => absurd w2 (by decide)), zup_eq]
    rw [u]
    subst hb
    exact ⟨by rw [ha]; omega, by omega, k.2.2⟩
  · intro k hk
    rw [e 50 k (by decide) (fun w => absurd w.1 (by decide)), e 47 1 (by decide) (fun w => absurd w.1 (by decide))]
    exact g.2.2.1 k hk
  · intro w i hi
    rw [e 60 0 (by decide) (fun w => absurd w.2 (by decide))] at w
    rw [e 47 1 (by decide) (fun w => absurd w.1 (by decide))] at hi
    rw [e 48 i (by decide) (fun w => absurd w.1 (by decide))]
    exact g.2.2.2 w i hi
/-- a write to waits or open -/
theorem cell_q {a b a' b' : Int} {η : zE} {j : Nat} {x : Int} (g : Gd_q a b η) (hj : ¬ j = 6 ∧ ¬ j = 8 ∧ ¬ j = 0) (hJ : J_q a' b' (zup η 60 j x)) : Gd_q a' b' (zup η 60 j x) := by
  have e : ∀ r i, ¬ (r = 60 ∧ i = j) → zup η 60 j x r i = η r i := fun r i a => zup_ne (fun w w2 => a ⟨w, w2⟩)
  refine ⟨?_, hJ, ?_, ?_⟩
  · unfold G_r
    rw [e 60 6 (fun w => hj.1 w.2.symm), e 60 8 (fun w => hj.2.1 w.2.symm)]
    exact g.1
  · intro k hk
    rw [e 50 k (fun w => absurd w.1 (by decide)), e 47 1 (fun w => absurd w.1 (by decide))]
    exact g.2.2.1 k hk
  · intro w i hi
    rw [e 60 0 (fun w => hj.2.2 w.2.symm)] at w
    rw [e 47 1 (fun w => absurd w.1 (by decide))] at hi
    rw [e 48 i (fun w => absurd w.1 (by decide))]
    exact g.2.2.2 w i hi
theorem pop_q {η : zE} (g : G_q η) (hw : 0 < η 60 12) (hz : ¬ η 63 (η 60 12 - 1).toNat = 0) : G_q (zup η 60 12 (η 60 12 - 1)) := by
  refine cell_q g ⟨by decide, by decide, by decide⟩ (fun w => ?_)
  rw [zup_ne (fun _ w2 => absurd w2 (by decide))] at w
  have k := g.2.1 w
  rw [zup_eq, zup_ne (r' := 60) (j' := 13) (fun _ w2 => absurd w2 (by decide)), zup_ne (r' := 47) (fun w2 _ => absurd w2 (by decide)), zc_congr (η := η) (fun j => zup_ne (fun w2 _ => absurd w2 (by decide)))]
  have u : zc_q η (η 60 12).toNat = zc_q η (η 60 12 - 1).toNat := by
    rw [show (η 60 12).toNat = (η 60 12 - 1).toNat + 1 by omega]
    show zc_q η (η 60 12 - 1).toNat + (if η 63 (η 60 12 - 1).toNat = 0 then 1 else 0) = _
    rw [if_neg hz, Int.add_zero]
  rw [← u]
  exact ⟨k.1, by omega, k.2.2⟩
theorem open_q {η : zE} (g : G_q η) (ho : η 60 13 < 8) : Gd_q 1 1 (zup η 60 13 (η 60 13 + 1)) := by
  refine cell_q g ⟨by decide, by decide, by decide⟩ (fun w => ?_)
  rw [zup_ne (fun _ w2 => absurd w2 (by decide))] at w
  have k := g.2.1 w
  rw [zup_eq, zup_ne (r' := 60) (j' := 12) (fun _ w2 => absurd w2 (by decide)), zup_ne (r' := 47) (fun w2 _ => absurd w2 (by decide)), zc_congr (η := η) (fun j => zup_ne (fun w2 _ => absurd w2 (by decide)))]
  exact ⟨by omega, by omega, by omega⟩
/-- an OPEN is closed -/
theorem close_q {η : zE} (g : G_q η) (hf : η 60 0 = 0) (ho : 0 < η 60 13) (hw : 0 ≤ η 60 12) (ht : η 60 12 = 0 ∨ η 63 (η 60 12 - 1).toNat = 0) : 0 < η 60 12 ∧ G_q (zup (zup η 60 12 (η 60 12 - 1)) 60 13 (η 60 13 - 1)) := by
  have k := g.2.1 hf
  have p : 0 < η 60 12 := by
    rcases ht with h | h
    · rw [h] at k
      have : zc_q η (Int.toNat 0) = 0 := rfl
      omega
    · by_cases q : η 60 12 = 0
      · rw [q] at k
        have : zc_q η (Int.toNat 0) = 0 := rfl
        omega
      · omega
  have hz : η 63 (η 60 12 - 1).toNat = 0 := by
    rcases ht with h | h
    · omega
    · exact h
  refine ⟨p, ?_⟩
  have g1 : Gd_q (-1) 0 (zup η 60 12 (η 60 12 - 1)) ∨ True := Or.inr trivial
  have base : Gd_q 1 0 (zup η 60 12 (η 60 12 - 1)) := by
    refine cell_q g ⟨by decide, by decide, by decide⟩ (fun w => ?_)
    rw [zup_eq, zup_ne (r' := 60) (j' := 13) (fun _ w2 => absurd w2 (by decide)), zup_ne (r' := 47) (fun w2 _ => absurd w2 (by decide)), zc_congr (η := η) (fun j => zup_ne (fun w2 _ => absurd w2 (by decide)))]
    have u : zc_q η (η 60 12).toNat = zc_q η (η 60 12 - 1).toNat + 1 := by
      rw [show (η 60 12).toNat = (η 60 12 - 1).toNat + 1 by omega]
      show zc_q η (η 60 12 - 1).toNat + (if η 63 (η 60 12 - 1).toNat = 0 then 1 else 0) = _
      rw [if_pos hz]
    exact ⟨by omega, by omega, k.2.2⟩
  refine cell_q base ⟨by decide, by decide, by decide⟩ (fun w => ?_)
  have e1 : zup η 60 12 (η 60 12 - 1) 60 13 = η 60 13 := zup_ne (fun _ w2 => absurd w2 (by decide))
  have k2 := base.2.1 (by rw [zup_ne (fun _ w2 => absurd w2 (by decide))]; exact hf)
  rw [zup_eq] at k2
  rw [zup_eq, zup_ne (r' := 60) (j' := 12) (fun _ w2 => absurd w2 (by decide)), zup_eq, zup_ne (r' := 47) (fun w2 _ => absurd w2 (by decide)), zup_ne (r' := 47) (fun w2 _ => absurd w2 (by decide)), zc_congr (η := zup η 60 12 (η 60 12 - 1)) (fun j => zup_ne (fun w2 _ => absurd w2 (by decide)))]
  rw [e1, zup_ne (r' := 47) (fun w2 _ => absurd w2 (by decide))] at k2
  exact ⟨by omega, by omega, by omega⟩
def rk_q : List Int32 := [0, 1, 2, 3, 4, 4, 4, 4, 4, 4, 5, 5, 6, 6]
theorem rk_1 : ∀ n : Nat, n < 14 → (n = 0 → (rk_q.getD n 0).toInt = 0) ∧ (¬ n = 0 → 1 ≤ (rk_q.getD n 0).toInt ∧ (rk_q.getD n 0).toInt ≤ 6) := by decide
def Gl_q (η : zE) : Prop := G_r η ∧ Kc_q η
def G0_q (η : zE) : Prop := Gl_q η ∧ η 60 0 = 0
theorem gl_fr {m : List zCe} {η η' : zE} (h : G0_q η) (g : zFm m η η') (w : G_r η') (hd : zdj [(nat_lit 47, nat_lit 0), (nat_lit 48, nat_lit 0), (nat_lit 50, nat_lit 0)] m = true) : Gl_q η' := by
  have e5 : ∀ j, η' 47 j = η 47 j := fun j => g _ _ (zdj_ok hd (zin2_of (q := (47, 0)) (by decide) rfl (Or.inl rfl)))
  have e6 : ∀ j, η' 48 j = η 48 j := fun j => g _ _ (zdj_ok hd (zin2_of (q := (48, 0)) (by decide) rfl (Or.inl rfl)))
  have e7 : ∀ j, η' 50 j = η 50 j := fun j => g _ _ (zdj_ok hd (zin2_of (q := (50, 0)) (by decide) rfl (Or.inl rfl)))
  refine ⟨w, fun k hk => ?_, fun _ i hi => ?_⟩
  · rw [e5, e7]
    exact h.1.2.1 k hk
  · rw [e5] at hi
    rw [e6]
    exact h.1.2.2 h.2 i hi
theorem start_q {η : zE} {j : Nat} {x : Int} (h : Gl_q η) (hk : 0 ≤ η 47 0) : G_q (zup (zup (zup η 49 j x) 60 12 0) 60 13 0) := by
  have e : ∀ r i, ¬ r = 49 → ¬ (r = 60 ∧ i = 12) → ¬ (r = 60 ∧ i = 13) → zup (zup (zup η 49 j x) 60 12 0) 60 13 0 r i = η r i := fun r i a b c => by
    rw [zup_ne (fun w w2 => c ⟨w, w2⟩), zup_ne (fun w w2 => b ⟨w, w2⟩), zup_ne (fun w _ => a w)]
  refine ⟨?_, ?_, ?_, ?_⟩
  · unfold G_r
    rw [e 60 6 (by decide) (fun w => absurd w.2 (by decide)) (fun w => absurd w.2 (by decide)), e 60 8 (by decide) (fun w => absurd w.2 (by decide)) (fun w => absurd w.2 (by decide))]
    exact h.1
  · intro w
    rw [zup_eq, zup_ne (r' := 60) (j' := 12) (fun _ w2 => absurd w2 (by decide)), zup_eq, e 47 0 (by decide) (fun w => absurd w.1 (by decide)) (fun w => absurd w.1 (by decide))]
    exact ⟨rfl, by omega, by decide⟩
  · intro k hk
    rw [e 50 k (by decide) (fun w => absurd w.1 (by decide)) (fun w => absurd w.1 (by decide)), e 47 1 (by decide) (fun w => absurd w.1 (by decide)) (fun w => absurd w.1 (by decide))]
    exact h.2.1 k hk
  · intro w i hi
    rw [e 60 0 (by decide) (fun w => absurd w.2 (by decide)) (fun w => absurd w.2 (by decide))] at w
    rw [e 47 1 (by decide) (fun w => absurd w.1 (by decide)) (fun w => absurd w.1 (by decide))] at hi
    rw [e 48 i (by decide) (fun w => absurd w.1 (by decide)) (fun w => absurd w.1 (by decide))]
    exact h.2.2 w i hi
theorem to_q {η : zE} {j : Nat} (g : G_q η) : Gl_q (zup η 50 j (η 47 1)) := by
  have e : ∀ r i, ¬ r = 50 → zup η 50 j (η 47 1) r i = η r i := fun r i a => zup_ne (fun w _ => a w)
  refine ⟨?_, ?_, ?_⟩
  · unfold G_r
    rw [e 60 6 (by decide), e 60 8 (by decide)]
    exact g.1
  · intro k hk
    rw [e 47 1 (by decide)]
    by_cases q : k = j
    · rw [q, zup_eq]
      exact Int.le_refl _
    · rw [zup_ne (fun _ w => q w)]
      exact g.2.2.1 k hk
  · intro w i hi
    rw [e 60 0 (by decide)] at w
    rw [e 47 1 (by decide)] at hi
    rw [e 48 i (by decide)]
    exact g.2.2.2 w i hi
