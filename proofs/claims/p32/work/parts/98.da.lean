def tm_l : zTm := tm_k
def wl_l : wL := wl_k
def gr_l : List zCe := [(nat_lit 0, nat_lit 8), (nat_lit 0, nat_lit 7), (nat_lit 0, nat_lit 9), (nat_lit 0, nat_lit 10), (nat_lit 2, nat_lit 0), (nat_lit 19, nat_lit 0), (nat_lit 20, nat_lit 0), (nat_lit 21, nat_lit 0), (nat_lit 0, nat_lit 42), (nat_lit 0, nat_lit 43), (nat_lit 0, nat_lit 44), (nat_lit 0, nat_lit 45), (nat_lit 0, nat_lit 46), (nat_lit 0, nat_lit 20), (nat_lit 22, nat_lit 0)]
theorem zmet_cs {P : sm_P} {K : sm_K} {df : Nat → List Value} {ro : Nat → List Int32} {X : sm_X} {dep mid rk : Nat} {T : zTm} {asp : List ab_V} {req rtu : zRt} {P1 P2 : List Int → zE → Prop} {Q1 Q2 : List Int → zE → Int → zE → Prop} (h : zMet P K df ro X dep mid T asp rk req rtu P1 Q1) (h1 : ∀ xs η, P2 xs η → P1 xs η) (h2 : ∀ xs η y η', P2 xs η → Q1 xs η y η' → Q2 xs η y η') : zMet P K df ro X dep mid T asp rk req rtu P2 Q2 := by
  intro α h0 η ra d xs vs a1 a2 a3 a4 a5 a6 a7
  obtain ⟨n, v, h', y, η', g1, g2, g3, g4, g5⟩ := h α h0 η ra d xs vs a1 a2 a3 a4 a5 a6 (h1 xs η a7)
  exact ⟨n, v, h', y, η', g1, g2, g3, g4, h2 xs η y η' a7 g5⟩
theorem zGk_fm2 {G : zE → Prop} {GR m : List zCe} {η η' : zE} (hG : zGk G GR) (g : G η) (h : zFm m η η') (hd : zdj GR m = true) : G η' := hG η η' (fun r j hr => h r j (zdj_ok hd hr)) g
theorem zFm_tr2 {m M : List zCe} {η0 η η' : zE} (h1 : zFm M η0 η) (h2 : zFm m η η') (hm : zsd M m = true) : zFm M η0 η' := fun r j hr => by
  rw [h2 r j (Bool.eq_false_iff.mpr (fun w => ?_)), h1 r j hr]
  obtain ⟨d, hd, d1, d2⟩ := zin2_mem w
  obtain ⟨q, hq1, hq2⟩ := List.any_eq_true.mp (List.all_eq_true.mp hm d hd)
  have g := (Bool.and_eq_true _ _).mp hq2
  have e1 := Nat.eq_of_beq_eq_true g.1
  have : zin2 M r j = true := zin2_of hq1 (by rw [e1, d1]) (by
    rcases (Bool.or_eq_true _ _).mp g.2 with g | g
    · exact Or.inl (Nat.eq_of_beq_eq_true g)
    · rw [Nat.eq_of_beq_eq_true g]; exact d2)
  rw [hr] at this
  cases this
def cz_l (η : zE) : Nat → Int
  | 0 => 0
  | n + 1 => cz_l η n + (if η 22 n ≤ 1 then 1 else 0)
def ct_l (η : zE) : Nat → Int
  | 0 => 0
  | n + 1 => ct_l η n + (if η 22 n = 2 then 1 else 0)
theorem cz_below {η η' : zE} : ∀ n, (∀ j, j < n → η' 22 j = η 22 j) → cz_l η' n = cz_l η n ∧ ct_l η' n = ct_l η n
  | 0, _ => ⟨rfl, rfl⟩
  | n + 1, h => by
    unfold cz_l ct_l
    have w := cz_below n (fun j hj => h j (by omega))
    rw [w.1, w.2, h n (by omega)]
    exact ⟨rfl, rfl⟩
theorem cz_n {η : zE} : ∀ n : Nat, 0 ≤ cz_l η n ∧ 0 ≤ ct_l η n ∧ cz_l η n + ct_l η n ≤ n
  | 0 => ⟨Int.le_refl 0, Int.le_refl 0, Int.le_refl 0⟩
  | n + 1 => by
    unfold cz_l ct_l
    have w := cz_n (η := η) n
    split <;> split <;> omega
def T3_l (k a b : Int) : Prop := (k = 1 → 0 ≤ a ∧ a ≤ 6) ∧ (¬ k = 0 → ¬ k = 1 → 0 ≤ a ∧ a ≤ 63) ∧ (¬ k = 0 → ¬ k = 1 → ¬ k = 2 → 0 ≤ b ∧ b ≤ 63)
def T_l (η : zE) : Prop := ∀ i, i < 128 → T3_l (η 19 i) (η 20 i) (η 21 i)
def G0_l (η : zE) : Prop := G_k η ∧ T_l η
def J_l (d e f : Int) (η : zE) : Prop := 0 ≤ η 0 41 ∧ cz_l η (η 0 41).toNat + e = η 0 43 ∧ η 0 42 = η 0 41 - cz_l η (η 0 41).toNat - ct_l η (η 0 41).toNat + 1 - η 0 45 + f ∧ η 0 19 + η 0 41 - cz_l η (η 0 41).toNat + d = η 0 44
def H_l (d e f : Int) (η : zE) : Prop := G0_l η ∧ J_l d e f η
def G_l : zE → Prop := H_l 0 0 0
def g0r_l : List zCe := [(nat_lit 0, nat_lit 8), (nat_lit 0, nat_lit 7), (nat_lit 0, nat_lit 9), (nat_lit 0, nat_lit 10), (nat_lit 2, nat_lit 0), (nat_lit 19, nat_lit 0), (nat_lit 20, nat_lit 0), (nat_lit 21, nat_lit 0)]
def jr_l : List zCe := [(nat_lit 0, nat_lit 42), (nat_lit 0, nat_lit 43), (nat_lit 0, nat_lit 44), (nat_lit 0, nat_lit 45), (nat_lit 0, nat_lit 46), (nat_lit 0, nat_lit 20), (nat_lit 22, nat_lit 0)]
theorem g0k_l : zGk G0_l g0r_l := fun η η' h g => by
  refine ⟨gk_k η η' (fun r j hr => h r j ?_) g.1, fun i hi => ?_⟩
  · obtain ⟨q, a, b, c⟩ := zin2_mem hr
    exact zin2_of (q := q) (by have : ∀ q ∈ gr_k, q ∈ g0r_l := by decide
                               exact this q a) b c
  · rw [h 19 i (zin2_of (q := (19, 0)) (by decide) rfl (Or.inl rfl)), h 20 i (zin2_of (q := (20, 0)) (by decide) rfl (Or.inl rfl)), h 21 i (zin2_of (q := (21, 0)) (by decide) rfl (Or.inl rfl))]
    exact g.2 i hi
theorem jk_l {d e f : Int} : zGk (J_l d e f) jr_l := fun η η' h g => by
  have e4 : ∀ j, η' 22 j = η 22 j := fun j => h _ _ (zin2_of (q := (22, 0)) (by decide) rfl (Or.inl rfl))
  unfold J_l at g ⊢
  rw [h 0 41 rfl, h 0 42 rfl, h 0 43 rfl, h 0 44 rfl, h 0 45 rfl, h 0 19 rfl, (cz_below _ (fun j _ => e4 j)).1, (cz_below _ (fun j _ => e4 j)).2]
  exact g
theorem hk_l {d e f : Int} : zGk (H_l d e f) gr_l := fun η η' h g => by
  refine ⟨g0k_l η η' (fun r j hr => h r j ?_) g.1, jk_l η η' (fun r j hr => h r j ?_) g.2⟩
  · obtain ⟨q, a, b, c⟩ := zin2_mem hr
    exact zin2_of (q := q) (by have : ∀ q ∈ g0r_l, q ∈ gr_l := by decide
                               exact this q a) b c
  · obtain ⟨q, a, b, c⟩ := zin2_mem hr
    exact zin2_of (q := q) (by have : ∀ q ∈ jr_l, q ∈ gr_l := by decide
                               exact this q a) b c
theorem gk_l : zGk G_l gr_l := hk_l
/-- what is kept where cells change -/
theorem h_w {η' : zE} {d e f w br he wn kr co : Int} (g : G0_l η') (f1 : η' 0 41 = w) (f2 : η' 0 43 = br) (f3 : η' 0 42 = he) (f4 : η' 0 45 = wn) (f5 : η' 0 19 = kr) (f6 : η' 0 44 = co) (h : 0 ≤ w ∧ cz_l η' w.toNat + e = br ∧ he = w - cz_l η' w.toNat - ct_l η' w.toNat + 1 - wn + f ∧ kr + w - cz_l η' w.toNat + d = co) : H_l d e f η' := ⟨g, by unfold J_l; rw [f1, f2, f3, f4, f5, f6]; exact h⟩
theorem grow_t {η : zE} {n : Nat} {a b c : Int} (g : T_l η) (t : T3_l a b c) : T_l (zup (zup (zup η 19 n a) 20 n b) 21 n c) := fun i hi => by
  by_cases q : i = n
  · subst q
    have a1 : zup (zup (zup η 19 i a) 20 i b) 21 i c 19 i = a := by rw [zup_ne (fun e _ => (show ¬ ((19 : Nat) = 21) by decide) e), zup_ne (fun e _ => (show ¬ ((19 : Nat) = 20) by decide) e), zup_eq]
    have a2 : zup (zup (zup η 19 i a) 20 i b) 21 i c 20 i = b := by rw [zup_ne (fun e _ => (show ¬ ((20 : Nat) = 21) by decide) e), zup_eq]
    have a3 : zup (zup (zup η 19 i a) 20 i b) 21 i c 21 i = c := zup_eq
    rw [a1, a2, a3]
    exact t
  · have a1 : ∀ r, zup (zup (zup η 19 n a) 20 n b) 21 n c r i = η r i := fun r => by rw [zup_ne (fun _ e => q e), zup_ne (fun _ e => q e), zup_ne (fun _ e => q e)]
    rw [a1, a1, a1]
    exact g i hi
theorem tk_l : zGk T_l [(nat_lit 19, nat_lit 0), (nat_lit 20, nat_lit 0), (nat_lit 21, nat_lit 0)] := fun η η' h g i hi => by
  rw [h 19 i (zin2_of (q := (19, 0)) (by decide) rfl (Or.inl rfl)), h 20 i (zin2_of (q := (20, 0)) (by decide) rfl (Or.inl rfl)), h 21 i (zin2_of (q := (21, 0)) (by decide) rfl (Or.inl rfl))]
  exact g i hi
theorem grow_g {η : zE} {n m : Nat} {a b c x y z : Int} (g : G0_l η) (t : T3_l a b c) : G0_l (zup (zup (zup (zup (zup (zup η 19 n a) 20 n b) 21 n c) 23 m x) 0 42 y) 0 19 z) := by
  refine ⟨?_, ?_⟩
  · refine zGk_upc gk_k (zGk_upc gk_k (zGk_up gk_k (zGk_up gk_k (zGk_up gk_k (zGk_up gk_k g.1 ?_) ?_) ?_) ?_) ?_) ?_ <;> decide
  · refine zGk_upc tk_l (zGk_upc tk_l (zGk_up tk_l (grow_t g.2 t) ?_) ?_) ?_ <;> decide
theorem cz_push {η : zE} {w x : Int} (h : 0 ≤ w) : cz_l (zup η 22 w.toNat x) (w + 1).toNat = cz_l η w.toNat + (if x ≤ 1 then 1 else 0) ∧ ct_l (zup η 22 w.toNat x) (w + 1).toNat = ct_l η w.toNat + (if x = 2 then 1 else 0) := by
  rw [show (w + 1).toNat = w.toNat + 1 by omega]
  have u := cz_below (η := η) (η' := zup η 22 w.toNat x) w.toNat (fun j hj => zup_ne (fun _ e => by omega))
  refine ⟨?_, ?_⟩
  · show cz_l (zup η 22 w.toNat x) w.toNat + (if zup η 22 w.toNat x 22 w.toNat ≤ 1 then 1 else 0) = _
    rw [u.1, zup_eq]
  · show ct_l (zup η 22 w.toNat x) w.toNat + (if zup η 22 w.toNat x 22 w.toNat = 2 then 1 else 0) = _
    rw [u.2, zup_eq]
theorem cz_pop {η : zE} {w : Int} (h : 1 ≤ w) : cz_l η w.toNat = cz_l η (w - 1).toNat + (if η 22 (w - 1).toNat ≤ 1 then 1 else 0) ∧ ct_l η w.toNat = ct_l η (w - 1).toNat + (if η 22 (w - 1).toNat = 2 then 1 else 0) := by
  rw [show w.toNat = (w - 1).toNat + 1 by omega]
  exact ⟨rfl, rfl⟩
theorem cz_push0 {η : zE} {w x : Int} (h : 0 ≤ w) (hx : x = 0) : cz_l (zup η 22 w.toNat x) (w + 1).toNat = cz_l η w.toNat + 1 ∧ ct_l (zup η 22 w.toNat x) (w + 1).toNat = ct_l η w.toNat := by
  have u := cz_push (η := η) (x := x) h
  subst hx
  exact ⟨u.1, u.2.trans (Int.add_zero _)⟩
theorem cz_push2 {η : zE} {w x : Int} (h : 0 ≤ w) (hx : x = 2) : cz_l (zup η 22 w.toNat x) (w + 1).toNat = cz_l η w.toNat ∧ ct_l (zup η 22 w.toNat x) (w + 1).toNat = ct_l η w.toNat + 1 := by
  have u := cz_push (η := η) (x := x) h
  subst hx
  exact ⟨u.1.trans (Int.add_zero _), u.2⟩
theorem cz_push3 {η : zE} {w x : Int} (h : 0 ≤ w) (hx : 3 ≤ x) : cz_l (zup η 22 w.toNat x) (w + 1).toNat = cz_l η w.toNat ∧ ct_l (zup η 22 w.toNat x) (w + 1).toNat = ct_l η w.toNat := by
  have n1 : ¬ x ≤ 1 := by omega
  have n2 : ¬ x = 2 := by omega
  have u := cz_push (η := η) (x := x) h
  rw [if_neg n1, if_neg n2] at u
  exact ⟨u.1.trans (Int.add_zero _), u.2.trans (Int.add_zero _)⟩
theorem cz_pop0 {η : zE} {w : Int} (h : 1 ≤ w) (hx : η 22 (w - 1).toNat ≤ 1) : cz_l η w.toNat = cz_l η (w - 1).toNat + 1 ∧ ct_l η w.toNat = ct_l η (w - 1).toNat := by
  have n2 : ¬ η 22 (w - 1).toNat = 2 := by omega
  have u := cz_pop (η := η) h
  rw [if_pos hx, if_neg n2] at u
  exact ⟨u.1, u.2.trans (Int.add_zero _)⟩
theorem cz_pop2 {η : zE} {w : Int} (h : 1 ≤ w) (hx : η 22 (w - 1).toNat = 2) : cz_l η w.toNat = cz_l η (w - 1).toNat ∧ ct_l η w.toNat = ct_l η (w - 1).toNat + 1 := by
  have n1 : ¬ η 22 (w - 1).toNat ≤ 1 := by omega
  have u := cz_pop (η := η) h
  rw [if_neg n1, if_pos hx] at u
  exact ⟨u.1.trans (Int.add_zero _), u.2⟩
theorem cz_pop3 {η : zE} {w : Int} (h : 1 ≤ w) (hx : 3 ≤ η 22 (w - 1).toNat) : cz_l η w.toNat = cz_l η (w - 1).toNat ∧ ct_l η w.toNat = ct_l η (w - 1).toNat := by
  have n1 : ¬ η 22 (w - 1).toNat ≤ 1 := by omega
  have n2 : ¬ η 22 (w - 1).toNat = 2 := by omega
  have u := cz_pop (η := η) h
  rw [if_neg n1, if_neg n2] at u
  exact ⟨u.1.trans (Int.add_zero _), u.2.trans (Int.add_zero _)⟩
theorem cz_zup {η : zE} {r j : Nat} {x : Int} (h : ¬ r = 22) (n : Nat) : cz_l (zup η r j x) n = cz_l η n ∧ ct_l (zup η r j x) n = ct_l η n := cz_below n (fun _ _ => zup_ne (fun e _ => h e.symm))
