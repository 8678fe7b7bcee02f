/-! The law's instructions, over the small machine. -/
theorem lw_M : pr_P 0 = some (yL_law, cL_law, 7, some .boolean, 1, 0, 0) := rfl
def LV (lv : sm_L) (x m o : Nat) (i : Int32) : Prop := sm_lk lv 0 = some (.retAddr 1) ∧ sm_lk lv 1 = some (.ref x) ∧ sm_lk lv 2 = some (.ref m) ∧ sm_lk lv 3 = some (.ref o) ∧ sm_lk lv 4 = some (.int i)
abbrev EV (ro : Nat → List Int32) (pc : Nat) (lv : sm_L) (st : List Value) (h : List sm_C) (c s : Nat) (F : ev_F) : Prop := ev pr_P pr_K pr_df ro wX 40 0 pc lv st h c s F
section LWA
variable {ro : Nat → List Int32} {lv : sm_L} {x m o : Nat} {i : Int32} {st : List Value} {h : List sm_C} {c s : Nat} {F : ev_F}
theorem lw_ref {pc n a : Nat} {k : Fin 4} (hk : pr_K 0 pc = some (.aload_n k, 1, [])) (hl : sm_lk lv k.val = some (.ref a)) (hn : pc + 1 = n) (hF : EV ro n lv (.ref a :: st) h c s F) : EV ro pc lv st h c s F := by
  subst hn
  exact ev_lo lw_M hk (show sm_ldA lv k.val (pc + 1) st = some (pc + 1, lv, .ref a :: st) by unfold sm_ldA; rw [hl]) hF
def ar_w (ro : Nat → List Int32) (i : Int32) (j : Int) : Int32 := (ro 1).getD (i + Int32.ofInt j).toNatClampNeg 0
def ix_w (ro : Nat → List Int32) (i : Int32) (j : Int) : Prop := ¬ (i + Int32.ofInt j < 0 ∨ (ro 1).length ≤ (i + Int32.ofInt j).toNatClampNeg)
theorem lw_arg {pc n : Nat} {j : Int} (hl : LV lv x m o i) (k1 : pr_K 0 pc = some (.aload_n ab_f0, 1, [])) (k2 : pr_K 0 (pc + 1) = some (.iload 4, 2, [])) (k3 : pr_K 0 (pc + 3) = some (.iconst j, 1, [])) (k4 : pr_K 0 (pc + 4) = some (.iadd, 1, [])) (k5 : pr_K 0 (pc + 5) = some (.iaload, 1, [])) (hn : pc + 6 = n) (ha : ix_w ro i j) (hF : EV ro n lv (.int (ar_w ro i j) :: st) h c s F) : EV ro pc lv st h c s F := by
  subst hn
  refine ev_lo (pc' := pc + 1) (lv' := lv) (st' := .retAddr 1 :: st) lw_M k1 (show sm_ldA lv 0 (pc + 1) st = some (pc + 1, lv, .retAddr 1 :: st) by unfold sm_ldA; rw [hl.1]) ?_
  refine ev_lo (pc' := pc + 3) (lv' := lv) (st' := .int i :: .retAddr 1 :: st) lw_M k2 (show sm_ldI lv 4 (pc + 1 + 2) (.retAddr 1 :: st) = some (pc + 3, lv, .int i :: .retAddr 1 :: st) by unfold sm_ldI; rw [hl.2.2.2.2]) ?_
  refine ev_lo (pc' := pc + 4) (lv' := lv) (st' := .int (Int32.ofInt j) :: .int i :: .retAddr 1 :: st) lw_M k3 rfl ?_
  refine ev_lo (pc' := pc + 5) (lv' := lv) (st' := .int (i + Int32.ofInt j) :: .retAddr 1 :: st) lw_M k4 rfl ?_
  refine ev_hp (pc' := pc + 6) (st' := .int (ar_w ro i j) :: st) (h1 := h) lw_M k5 ?_ hF
  show sm_il [100] ro (pc + 5) (.int (i + Int32.ofInt j) :: .retAddr 1 :: st) h = _
  unfold sm_il
  dsimp only
  rw [if_pos ⟨List.mem_cons_self, ha⟩]
  rfl
theorem lw_inv {pc n idx mid np ci ml : Nat} {yn : MethodName} {cc : ByteArray} {rt : Option FieldType} {b rk : Nat} {vs r : List Value} {q : sm_C} {P : Int → zE → zE → Prop} (hk : pr_K 0 pc = some (.invokevirtual idx, 3, [mid])) (hm : Nat.ble mid 899 = true) (hP : pr_P mid = some (yn, cc, ml, rt, np, 1, ci)) (hc : Nat.ble (ci + 1) 100 = true) (hn : pc + 3 = n) (hd : (vs.reverse ++ .ref b :: r).drop np = .ref b :: r) (ht : (vs.reverse ++ .ref b :: r).take np = vs.reverse) (hq : h[b]? = some q) (hqk : q.1 = ci) (hck : (r.map fun v => v.category).sum ≤ 8 ∧ (lg_sl (.ref b :: vs)).length ≤ ml ∧ ml ≤ 45) (T : RT ro mid (.ref b :: vs) rk x m o h P) (hF : ∀ v h' y, SL (P y) x m o h' → zres rk y v → EV ro n lv (v.toList ++ r) h' c s F) : EV ro pc lv (vs.reverse ++ .ref b :: r) h c s F := by
  subst hn
  obtain ⟨n, v, h', y, g1, g2, g3, g4⟩ := T
  have hm := Nat.ble_eq.mp hm
  have hc := Nat.ble_eq.mp hc
  have hcl : sm_cl pr_P (.invokevirtual idx) [mid] (vs.reverse ++ .ref b :: r) h = some (mid, (yn, cc, ml, rt, np, 1, ci), .ref b :: vs, r) := by
    unfold sm_cl
    dsimp only
    rw [hP]
    dsimp only
    rw [hd]
    dsimp only
    rw [hq]
    dsimp only
    rw [if_pos ⟨rfl, hqk, by omega⟩, ht, List.reverse_reverse]
  exact ev_callz lw_M hk rfl (sm_X0_low (by omega)) hcl hck g1 g4 (hF v h' y g2 g3)
theorem lw_pop {pc n rk : Nat} {y : Int} {v : Option Value} {r : List Value} (hk : pr_K 0 pc = some (.pop, 1, [])) (hv : zres rk y v) (h1 : rk = 1 ∨ rk = 2) (hn : pc + 1 = n) (hF : EV ro n lv r h c s F) : EV ro pc lv (v.toList ++ r) h c s F := by
  subst hn
  have e : v = some (.int (Int32.ofInt y)) := by
    rcases h1 with rfl | rfl
    · exact hv.1
    · exact hv.1
  subst e
  exact ev_lo lw_M hk rfl hF
theorem lw_pop2 {pc n : Nat} {y : Int} {v : Option Value} {r : List Value} (hk : pr_K 0 pc = some (.pop2, 1, [])) (hv : zres 3 y v) (hn : pc + 1 = n) (hF : EV ro n lv r h c s F) : EV ro pc lv (v.toList ++ r) h c s F := by
  subst hn
  have e : v = some (.long (Int64.ofInt y)) := hv.1
  subst e
  exact ev_lo lw_M hk rfl hF
theorem lw_go {pc n : Nat} {d : Int} {st : List Value} (hk : pr_K 0 pc = some (.goto d, 3, [])) (hd : (0 : Int) ≤ pc + d) (hn : ((pc : Int) + d).toNat = n) (hF : EV ro n lv st h c s F) : EV ro pc lv st h c s F := by
  subst hn
  refine ev_lo (pc' := ((pc : Int) + d).toNat) (lv' := lv) (st' := st) lw_M hk ?_ hF
  show sm_jp pc d lv st = _
  unfold sm_jp
  rw [if_pos hd]
theorem lw_nz {pc n1 n2 : Nat} {d : Int} {a : Int32} (hk : pr_K 0 pc = some (.ifCond .eq d, 3, [])) (hd : (0 : Int) ≤ pc + d) (h1 : ((pc : Int) + d).toNat = n1) (h2 : pc + 3 = n2) (hA : a = 0 → EV ro n1 lv st h c s F) (hB : ¬ a = 0 → EV ro n2 lv st h c s F) : EV ro pc lv (.int a :: st) h c s F := by
  subst h1
  subst h2
  by_cases q : a = 0
  · refine ev_lo (pc' := ((pc : Int) + d).toNat) (lv' := lv) (st' := st) lw_M hk ?_ (hA q)
    show sm_if .eq pc d lv (.int a :: st) = _
    unfold sm_if
    dsimp only
    rw [if_pos hd, if_pos (show sm_cd .eq a 0 = true from decide_eq_true q)]
  · refine ev_lo (pc' := pc + 3) (lv' := lv) (st' := st) lw_M hk ?_ (hB q)
    show sm_if .eq pc d lv (.int a :: st) = _
    unfold sm_if
    dsimp only
    rw [if_pos hd, if_neg (show ¬ sm_cd .eq a 0 = true from fun w => q (of_decide_eq_true w))]
theorem lw_con {pc n : Nat} {j : Int} (hk : pr_K 0 pc = some (.iconst j, 1, [])) (hn : pc + 1 = n) (hF : EV ro n lv (.int (Int32.ofInt j) :: st) h c s F) : EV ro pc lv st h c s F := by
  subst hn
  exact ev_lo lw_M hk rfl hF
theorem lw_same {pc n : Nat} {d : Int} {a : Int32} (hk : pr_K 0 pc = some (.if_icmp .eq d, 3, [])) (hd : (0 : Int) ≤ pc + d) (hn : ((pc : Int) + d).toNat = n) (hF : EV ro n lv st h c s F) : EV ro pc lv (.int a :: .int a :: st) h c s F := by
  subst hn
  refine ev_lo (pc' := ((pc : Int) + d).toNat) (lv' := lv) (st' := st) lw_M hk ?_ hF
  show sm_ic .eq pc d lv (.int a :: .int a :: st) = _
  unfold sm_ic
  dsimp only
  rw [if_pos hd, if_pos (show sm_cd .eq a a = true from decide_eq_true rfl)]
theorem lk_s1 {k j : Nat} {v w : Value} (hj : ¬ j = k) (hj2 : ¬ (j + 1 = k ∧ w.category = 2)) (h : sm_lk lv j = some w) : sm_lk (sm_s1 lv k v) j = some w := by
  unfold sm_s1
  refine sm_lk_tail (fun e => hj e.symm) (sm_lk_fil h ?_)
  dsimp only
  rw [Bool.and_eq_true]
  constructor
  · rw [show (j == k) = false from beq_eq_false_iff_ne.mpr hj]
    rfl
  · cases hb : (j + 1 == k && w.category == 2) with
    | false => rfl
    | true =>
      have q := (Bool.and_eq_true _ _).mp hb
      exact absurd ⟨eq_of_beq q.1, eq_of_beq q.2⟩ hj2
theorem lv_s1 {k : Nat} {a : Int32} (hl : LV lv x m o i) (hk : 5 ≤ k) : LV (sm_s1 lv k (.int a)) x m o i := by
  obtain ⟨h0, h1, h2, h3, h4⟩ := hl
  exact ⟨lk_s1 (by omega) (fun q => absurd (show (1 : Nat) = 2 from q.2) (by decide)) h0, lk_s1 (by omega) (fun q => absurd (show (1 : Nat) = 2 from q.2) (by decide)) h1, lk_s1 (by omega) (fun q => absurd (show (1 : Nat) = 2 from q.2) (by decide)) h2, lk_s1 (by omega) (fun q => absurd (show (1 : Nat) = 2 from q.2) (by decide)) h3, lk_s1 (by omega) (fun q => absurd (show (1 : Nat) = 2 from q.2) (by decide)) h4⟩
theorem lv_i {a : Int32} (hl : LV lv x m o i) : LV (sm_s1 lv 4 (.int a)) x m o a := by
  obtain ⟨h0, h1, h2, h3, h4⟩ := hl
  exact ⟨lk_s1 (by omega) (fun q => absurd (show (1 : Nat) = 2 from q.2) (by decide)) h0, lk_s1 (by omega) (fun q => absurd (show (1 : Nat) = 2 from q.2) (by decide)) h1, lk_s1 (by omega) (fun q => absurd (show (1 : Nat) = 2 from q.2) (by decide)) h2, lk_s1 (by omega) (fun q => absurd (show (1 : Nat) = 2 from q.2) (by decide)) h3, sm_lk_head⟩
theorem lw_st {pc n k : Nat} {a : Int32} (hk : pr_K 0 pc = some (.istore k, 2, [])) (hb : Nat.ble (k + 1) 7 = true) (hn : pc + 2 = n) (hF : EV ro n (sm_s1 lv k (.int a)) st h c s F) : EV ro pc lv (.int a :: st) h c s F := by
  subst hn
  have hb := Nat.ble_eq.mp hb
  refine ev_lo (pc' := pc + 2) (lv' := sm_s1 lv k (.int a)) (st' := st) lw_M hk ?_ hF
  show sm_stI 7 lv k (pc + 2) (.int a :: st) = _
  unfold sm_stI
  dsimp only
  rw [if_pos (by omega)]
/-- the class's and the model's first cell -/
theorem sl_x {P : zE → zE → Prop} (S : SL P x m o h) : ∃ q, h[x]? = some q ∧ q.1 = 7 := by
  obtain ⟨α, η, β, θ, hC, hM, hA, p⟩ := S
  obtain ⟨q, a, b, d⟩ := hC.2.1 0 _ rfl
  exact ⟨q, by rw [← hA.1.1]; exact a, b⟩
theorem sl_y {P : zE → zE → Prop} (S : SL P x m o h) : ∃ q, h[m]? = some q ∧ q.1 = 8 := by
  obtain ⟨α, η, β, θ, hC, hM, hA, p⟩ := S
  obtain ⟨q, a, b, d⟩ := hM.2.1 0 _ rfl
  exact ⟨q, by rw [← hA.1.2]; exact a, b⟩
end LWA
/-! The law's groove. -/
theorem sl_o {x m o : Nat} {P : zE → zE → Prop} {h : List sm_C} (S : SL P x m o h) : ∃ v, h[o]? = some (103, [v]) := by
  obtain ⟨α, η, β, θ, hC, hM, hA, p⟩ := S
  exact hA.2.1
theorem sl_set {x m o : Nat} {P : zE → zE → Prop} {h : List sm_C} {v : Value} (S : SL P x m o h) : SL P x m o (h.set o (103, [v])) := by
  obtain ⟨α, η, β, θ, hC, hM, hA, p⟩ := S
  obtain ⟨a1, ⟨v0, a3⟩, a4, a5, a6⟩ := hA
  have w : ∀ b, ¬ b = o → (h.set o (103, [v]))[b]? = h[b]? := fun b hb => by rw [List.getElem?_set, if_neg (fun e => hb e.symm)]
  have hlt : o < h.length := (List.getElem?_eq_some_iff.mp a3).1
  exact ⟨α, η, β, θ, ⟨hC.1, zHp_fr hC.2.1 (fun r c hr => w _ (a4 r c hr)), hC.2.2⟩, ⟨hM.1, zHp_fr hM.2.1 (fun r c hr => w _ (a5 r c hr)), hM.2.2⟩, ⟨a1, ⟨v, by rw [List.getElem?_set, if_pos rfl, if_pos hlt]⟩, a4, a5, a6⟩, p⟩
theorem fd_w {h : List sm_C} {a ci k : Nat} {q : sm_C} {v : Value} (hq : h[a]? = some q) (h1 : q.1 = ci) (h2 : q.2[k]? = some v) : sm_fd h a ci k = some v := by
  unfold sm_fd
  rw [hq]
  dsimp only
  rw [if_pos h1, h2]
theorem gr_w {x m o : Nat} {P : zE → zE → Prop} {h : List sm_C} (S : SL P x m o h) (g w : Int32) (idx : Nat) : ∃ (z : Int32) (h1 : List sm_C) (dc ds : Nat), sm_X0 1 6 40 (.invokestatic idx) [903] [.ref o, .int w, .int g, .ref x] h = some ([.int z], h1, dc, ds) ∧ SL P x m o h1 ∧ dc ≤ 1 ∧ ds ≤ 6 := by
  have S0 := S
  obtain ⟨v0, ho⟩ := sl_o S
  obtain ⟨α, η, β, θ, ⟨c1, c2, c3, c4⟩, hM, hA, p⟩ := S
  obtain ⟨qx, x1, x2, x3, x4⟩ := c2 0 _ rfl
  obtain ⟨qs, s1, s2, s3, s4⟩ := c2 2 _ rfl
  obtain ⟨qn, t1, t2, t3, t4⟩ := c2 70 _ rfl
  have hx4 : sm_fd h x 7 4 = some (.ref (α 2)) := fd_w (by rw [← hA.1.1]; exact x1) x2 ((x4 4 (by decide)).2 2 (by decide +kernel) rfl)
  have hx7 : sm_fd h x 7 7 = some (.ref (α 70)) := fd_w (by rw [← hA.1.1]; exact x1) x2 ((x4 7 (by decide)).2 70 (by decide +kernel) rfl)
  have bn : (0 : Int) ≤ η 2 1 ∧ η 2 1 ≤ 12 := wf_ok (a := 1) (b := 1) (z := (0, 12)) c3 (by decide +kernel) (Nat.le_refl _) (Nat.le_refl _)
  have hn : sm_fd h (α 2) 4 1 = some (.int (Int32.ofInt (η 2 1))) := fd_w s1 s2 ((s4 1 (by decide)).1 (by decide) (by decide)).2
  have row : ∀ t, t = 3 ∨ t = 4 ∨ t = 5 ∨ t = 71 → ∃ q, h[α t]? = some q ∧ q.1 = 100 ∧ q.2.length = 12 := fun t ht => by
    rcases ht with rfl | rfl | rfl | rfl
    · obtain ⟨q, a, b, d, _⟩ := c2 3 _ rfl
      exact ⟨q, a, b, d⟩
    · obtain ⟨q, a, b, d, _⟩ := c2 4 _ rfl
      exact ⟨q, a, b, d⟩
    · obtain ⟨q, a, b, d, _⟩ := c2 5 _ rfl
      exact ⟨q, a, b, d⟩
    · obtain ⟨q, a, b, d, _⟩ := c2 71 _ rfl
      exact ⟨q, a, b, d⟩
  have hw : ∃ t, (t = 3 ∨ t = 4 ∨ t = 5 ∨ t = 71) ∧ sm_gw h (α 2) (α 70) w = some (.ref (α t)) := by
    unfold sm_gw
    by_cases w0 : w = 0
    · exact ⟨3, Or.inl rfl, by rw [if_pos w0]; exact fd_w s1 s2 ((s4 8 (by decide)).2 3 (by decide +kernel) rfl)⟩
    · rw [if_neg w0]
      by_cases w1 : w = 1
      · exact ⟨4, Or.inr (Or.inl rfl), by rw [if_pos w1]; exact fd_w s1 s2 ((s4 9 (by decide)).2 4 (by decide +kernel) rfl)⟩
      · rw [if_neg w1]
        by_cases w2 : w = 2
        · exact ⟨71, Or.inr (Or.inr (Or.inr rfl)), by rw [if_pos w2]; exact fd_w t1 t2 ((t4 8 (by decide)).2 71 (by decide +kernel) rfl)⟩
        · exact ⟨5, Or.inr (Or.inr (Or.inl rfl)), by rw [if_neg w2]; exact fd_w s1 s2 ((s4 10 (by decide)).2 5 (by decide +kernel) rfl)⟩
  show ∃ (z : Int32) (h1 : List sm_C) (dc ds : Nat), sm_x3 1 6 40 [.ref o, .int w, .int g, .ref x] h = some ([.int z], h1, dc, ds) ∧ _
  unfold sm_x3
  dsimp only
  by_cases q0 : 16 ≤ 40 ∧ sm_c8 ([] : List Value) = true ∧ sm_g0 x h = true
  · rw [if_pos q0]
    exact ⟨1, h, 1, 6, rfl, S0, Nat.le_refl _, Nat.le_refl _⟩
  rw [if_neg q0]
  unfold sm_x3g
  rw [hx4, hx7]
  dsimp only
  rw [hn]
  dsimp only
  rw [if_pos ⟨by decide, by decide⟩]
  by_cases q1 : g < 0 ∨ Int32.ofInt (η 2 1) ≤ g
  · rw [if_pos q1]
    exact ⟨1, h, 1, 6, rfl, S0, Nat.le_refl _, Nat.le_refl _⟩
  rw [if_neg q1]
  by_cases q2 : w < 0 ∨ 3 < w
  · rw [if_pos q2]
    exact ⟨2, h, 1, 6, rfl, S0, Nat.le_refl _, Nat.le_refl _⟩
  rw [if_neg q2]
  obtain ⟨t, ht, hw⟩ := hw
  obtain ⟨q, r1, r2, r3⟩ := row t ht
  rw [hw]
  dsimp only
  rw [r1, ho]
  dsimp only
  have g1 : g.toNatClampNeg < q.2.length := by
    have a1 : ¬ g < 0 := fun z => q1 (Or.inl z)
    have a2 : ¬ Int32.ofInt (η 2 1) ≤ g := fun z => q1 (Or.inr z)
    rw [Int32.le_iff_toInt_le, z32_of ⟨by omega, by omega⟩] at a2
    have e : g.toNatClampNeg = g.toInt.toNat := rfl
    rw [r3, e]
    omega
  rw [if_pos ⟨r2, rfl, g1, Nat.zero_lt_one⟩]
  exact ⟨0, _, 0, 0, rfl, sl_set S0, Nat.zero_le _, Nat.zero_le _⟩
