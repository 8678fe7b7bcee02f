/-! feed, text -/
theorem wk_fm {mods : List zCe} {η η' : zE} (h : yp_wk η) (f : zFm mods η η') (hk : zdj [(62, 0)] mods = true) : yp_wk η' := fun i hi => by
  rw [f 62 i (zdj_ok hk (zin2_of (q := (62, 0)) (by decide) rfl (Or.inl rfl)))]
  exact h i hi
theorem r1_fm {mods : List zCe} {η η' : zE} (f : zFm mods η η') (hk : zdj [(1, 0)] mods = true) (j : Nat) : η' 1 j = η 1 j := f 1 j (zdj_ok hk (zin2_of (q := (1, 0)) (by decide) rfl (Or.inl rfl)))
theorem pt_0 {n y : Int} {η η' θ : zE} (hp : PB_w η θ) (b0 : 0 ≤ η 0 1 ∧ η 0 1 ≤ 700) (wk : yp_wk η') (r1 : ∀ j, η' 1 j = η 1 j) (fc : FC_q n η η') (t : yp_t0 n η y η') : PT_w n y η' θ := by
  obtain ⟨⟨p0, f1, f2⟩, p2, p3⟩ := hp
  refine ⟨wk, fun w => ?_, fun w1 w2 => ?_⟩
  · have e : η' 0 1 = η 0 1 := fc.1 (by omega)
    have g := t.1 (by omega)
    exact ⟨g.1, ⟨wk, g.2.1.trans f1, g.2.2.trans f2⟩, e.trans p2, fun j hj => by rw [r1]; exact p3 j (by omega)⟩
  · have g := t.2 w1 (by omega)
    refine ⟨fc.2 w1 (by omega), ?_⟩
    rcases yr_text (n := n) (s := η) (m := θ) w1 (by omega) (fun j hj => p3 j (by omega)) with q | q
    · exact ⟨by rw [g.1, q.1], g.2.2.1.trans q.2.2.1, g.2.2.2.trans q.2.2.2⟩
    · exact absurd q.1 g.2.1
theorem pt_1 {n y : Int} {η η' θ : zE} (hp : PB_w η θ) (b0 : 0 ≤ η 0 1 ∧ η 0 1 ≤ 700) (wk : yp_wk η') (fc : FC_q n η η') (t : yp_t1 n η y η') : PT_w n y η' θ := by
  obtain ⟨⟨p0, f1, f2⟩, p2, p3⟩ := hp
  obtain ⟨t1, t2, t3, t4, t5, t6, _⟩ := t
  refine ⟨wk, fun w => by omega, fun w1 w2 => ⟨fc.2 w1 (by omega), ?_⟩⟩
  rcases yr_text (n := n) (s := η) (m := θ) w1 (by omega) (fun j hj => p3 j (by omega)) with q | q
  · exact absurd t3 q.2.1
  · exact ⟨by rw [t4, q.2.1], by rw [t5, t3, q.2.2.2.1], t6.trans q.2.2.1⟩
theorem cc_text {ro : Nat → List Int32} (hro : ro 2 = [0, 1, 2, 3, 4, 4, 4, 4, 4, 4, 5, 5, 6, 6]) {x m o : Nat} {h : List sm_C} (S : SL PB_w x m o h) (a : Int32) : RT ro 66 [.ref x, .int a] 1 x m o h (PT_w a.toInt) := by
  obtain ⟨α, η, β, θ, ⟨c1, c2, c3, c4⟩, hM, hA, hp⟩ := S
  have b0 : (0 : Int) ≤ η 0 1 ∧ η 0 1 ≤ 700 := wf_ok (a := 1) (b := 1) (z := (0, 700)) c3 (by decide +kernel) (Nat.le_refl _) (Nat.le_refl _)
  obtain ⟨n, v, h', y, η', j, rt, g1, g2, g3, g4, g5, g6, g7⟩ := zqe_text hro α h η rf_c 39 [a.toInt] [.ref x, .int a] (by decide) c1 c2 rfc_self (by decide +kernel) ⟨by rw [← hA.1.1]; rfl, z1_w a α⟩ rfl ⟨⟨wB_w c3, ⟨z32i a, trivial⟩, fun f w => nomatch w⟩, ⟨c3.2, c4⟩, hp.1.1⟩
  match j, g2, g6, g7 with
  | 0, g2, g6, g7 =>
    cases g2
    have g6 : sQ wl_qe zTr _ zMqe_text [a.toInt] η y η' := g6
    have g7 : (GA_q η' ∧ G_r η' ∧ FC_q a.toInt η η') ∧ yp_t0 a.toInt η y η' := g7
    obtain ⟨⟨w1, w2, w3⟩, w4⟩ := g7
    have fm : zFm zMqe_text η η' := g6.2.2.2.1
    exact ⟨n, v, h', y, g1, sl_c hM hA g4 ⟨c1, g3, ⟨g6.1.1, w1⟩, w2⟩ rfl (fun r c hr => ⟨r, c, hr, rfl⟩) (pt_0 hp b0 (wk_fm hp.1.1 fm (by decide +kernel)) (r1_fm fm (by decide +kernel)) w3 w4), g5, g4.1⟩
  | 1, g2, g6, g7 =>
    cases g2
    have g6 : sQ wl_qe zTr _ zMqe_text [a.toInt] η y η' := g6
    have g7 : (GB_q η' ∧ G_r η' ∧ FC_q a.toInt η η') ∧ yp_t1 a.toInt η y η' := g7
    obtain ⟨⟨w1, w2, w3⟩, w4⟩ := g7
    have fm : zFm zMqe_text η η' := g6.2.2.2.1
    have p := pt_1 hp b0 (wk_fm hp.1.1 fm (by decide +kernel)) w3 w4
    exact ⟨n, v, h', y, g1, sl_c (P := PT_w a.toInt y) hM hA g4 (sw_sc c1 g3 g6.1 w1 w2) rfl (fun r c hr => ⟨sw_w r, c, (sw_get hr).1, rfl⟩) ⟨p.1, fun w => ⟨(p.2.1 w).1, (p.2.1 w).2.1, (p.2.1 w).2.2.1, (p.2.1 w).2.2.2⟩, p.2.2⟩, g5, g4.1⟩
  | k + 2, g2, _, _ => cases g2
theorem cm_text {ro : Nat → List Int32} {x m o : Nat} {h : List sm_C} {a : Int32} {y1 : Int} (S : SL (PT_w a.toInt y1) x m o h) : RT ro 137 [.ref m, .int a] 1 x m o h (fun y η θ => PB_w η θ ∧ y = y1) := by
  obtain ⟨α, η, β, θ, hC, ⟨c1, c2, c3, c4⟩, hA, p1, p2, p3⟩ := S
  obtain ⟨n, v, h', y, η', g1, g3, g4, g5, g6, g7, g8⟩ := zne_text β h θ rf_m 39 [a.toInt] [.ref m, .int a] (by decide) c1 c2 rfm_self ⟨by rw [← hA.1.2]; rfl, z1_w a β⟩ rfl ⟨⟨c3, ⟨z32i a, trivial⟩, fun f w => nomatch w⟩, c4.1⟩
  have fm : zFm zMne_text θ η' := g6.2.2.2.1
  have g8 : yq_t a.toInt θ y η' := g8
  have g7 : (G_k η' ∧ T_l η' ∧ PL_n 3 η') ∧ (0 ≤ a.toInt ∧ a.toInt ≤ θ 0 1 → η' 0 1 = 0) ∧ (¬ (0 ≤ a.toInt ∧ a.toInt ≤ θ 0 1) → η' 0 1 = θ 0 1) := g7
  obtain ⟨w1, w2, w3⟩ := g7
  have r1 := r1_fm fm (by decide +kernel)
  refine ⟨n, v, h', y, g1, sl_m hC hA g4 ⟨c1, g3, g6.1, w1, zGk_fm uk_w c4.2.1 fm (by decide +kernel), zGk_fm vk_w c4.2.2 fm (by decide +kernel)⟩ ?_, g5, g4.1⟩
  by_cases q : a.toInt < 0 ∨ θ 0 1 < a.toInt
  · obtain ⟨q1, q2, q3, q4⟩ := p2 q
    have e := g8.1 q
    exact ⟨⟨⟨q2.1, q2.2.1.trans e.2.1.symm, q2.2.2.trans e.2.2.symm⟩, q3.trans (w3 (by omega)).symm, fun j hj => by rw [r1]; exact q4 j hj⟩, by rw [q1, e.1]⟩
  · obtain ⟨q1, q2, q3, q4⟩ := p3 (by omega) (by omega)
    have e := g8.2 (by omega) (by omega)
    exact ⟨⟨⟨p1, q3.trans e.2.1.symm, q4.trans e.2.2.symm⟩, q1.trans (w2 ⟨by omega, by omega⟩).symm, fun j hj => by omega⟩, by rw [q2, e.1]⟩
theorem cc_feed {ro : Nat → List Int32} {x m o : Nat} {h : List sm_C} (S : SL PB_w x m o h) (a b c d e : Int32) : RT ro 64 [.ref x, .int a, .int b, .int c, .int d, .int e] 1 x m o h (PF_w a.toInt b.toInt c.toInt d.toInt e.toInt) := by
  obtain ⟨α, η, β, θ, ⟨c1, c2, c3, c4⟩, hM, hA, hp⟩ := S
  have b0 : (0 : Int) ≤ η 0 1 ∧ η 0 1 ≤ 700 := wf_ok (a := 1) (b := 1) (z := (0, 700)) c3 (by decide +kernel) (Nat.le_refl _) (Nat.le_refl _)
  obtain ⟨n, v, h', y, η', g1, g3, g4, g5, g6, g7, g8⟩ := zge_feed α h η rf_c 39 [a.toInt, b.toInt, c.toInt, d.toInt, e.toInt] [.ref x, .int a, .int b, .int c, .int d, .int e] (by decide) c1 c2 rfc_self ⟨by rw [← hA.1.1]; rfl, z5_w a b c d e α⟩ rfl ⟨⟨wB_w c3, ⟨z32i a, z32i b, z32i c, z32i d, z32i e, trivial⟩, fun f w => nomatch w⟩, trivial⟩
  have fm : zFm zMge_feed η η' := g6.2.2.2.1
  have g7 : (700 < η 0 1 + 20 → y = -1 ∧ η' 0 1 = η 0 1) ∧ (η 0 1 + 20 ≤ 700 → y = η 0 1 + 20 ∧ η' 0 1 = η 0 1 + 20) := g7
  have g8 : (700 < η 0 1 + 20 → y = -1 ∧ η' 1 = η 1) ∧ (η 0 1 + 20 ≤ 700 → y = yf_c a.toInt b.toInt c.toInt d.toInt e.toInt η 0 1 ∧ η' = yf_c a.toInt b.toInt c.toInt d.toInt e.toInt η) := g8
  have wk : yp_wk η' ∧ η' 0 2 = θ 0 4 ∧ η' 0 3 = θ 0 5 := ⟨wk_fm hp.1.1 fm (by decide +kernel), (fm 0 2 (by decide +kernel)).trans hp.1.2.1, (fm 0 3 (by decide +kernel)).trans hp.1.2.2⟩
  refine ⟨n, v, h', y, g1, sl_c hM hA g4 ⟨c1, g3, ⟨g6.1.1, zGk_fm gk_c c3.2 fm (by decide +kernel)⟩, zGk_fm gk_r c4 fm (by decide +kernel)⟩ rfl (fun r c hr => ⟨r, c, hr, rfl⟩) ?_, g5, g4.1⟩
  obtain ⟨p1, p2, p3⟩ := hp
  refine ⟨wk, fun w => ?_, fun w => ?_⟩
  · have f1 := g7.1 (by omega)
    have f2 := g8.1 (by omega)
    exact ⟨f1.1, wk, f1.2.trans p2, fun j hj => by rw [f2.2]; exact p3 j (by omega)⟩
  · have f1 := g7.2 (by omega)
    have f2 := g8.2 (by omega)
    have z := zf_bytes (s := η) (m := θ) (a := a.toInt) (b := b.toInt) (c := c.toInt) (d := d.toInt) (e := e.toInt) b0.1 (by omega) p2 p3
    exact ⟨by omega, by omega, by omega, fun j hj => by rw [f2.2]; exact z.2.2 j (by omega)⟩
theorem cm_feed {ro : Nat → List Int32} {x m o : Nat} {h : List sm_C} {a b c d e : Int32} {y1 : Int} (S : SL (PF_w a.toInt b.toInt c.toInt d.toInt e.toInt y1) x m o h) : RT ro 116 [.ref m, .int a, .int b, .int c, .int d, .int e] 1 x m o h (fun y η θ => PB_w η θ ∧ y = y1) := by
  obtain ⟨α, η, β, θ, hC, ⟨c1, c2, c3, c4⟩, hA, p1, p2, p3⟩ := S
  obtain ⟨n, v, h', y, η', g1, g3, g4, g5, g6, g7, g8⟩ := zhe_feed β h θ rf_m 39 [a.toInt, b.toInt, c.toInt, d.toInt, e.toInt] [.ref m, .int a, .int b, .int c, .int d, .int e] (by decide) c1 c2 rfm_self ⟨by rw [← hA.1.2]; rfl, z5_w a b c d e β⟩ rfl ⟨⟨c3, ⟨z32i a, z32i b, z32i c, z32i d, z32i e, trivial⟩, fun f w => nomatch w⟩, trivial⟩
  have fm : zFm zMhe_feed θ η' := g6.2.2.2.1
  have g7 : (700 < θ 0 1 + 20 → y = -1 ∧ η' 0 1 = θ 0 1) ∧ (θ 0 1 + 20 ≤ 700 → y = θ 0 1 + 20 ∧ η' 0 1 = θ 0 1 + 20) := g7
  have g8 : (700 < θ 0 1 + 20 → y = -1 ∧ η' 1 = θ 1) ∧ (θ 0 1 + 20 ≤ 700 → y = yf_q a.toInt b.toInt c.toInt d.toInt e.toInt θ 0 1 ∧ η' = yf_q a.toInt b.toInt c.toInt d.toInt e.toInt θ) := g8
  refine ⟨n, v, h', y, g1, sl_m hC hA g4 ⟨c1, g3, g6.1, ⟨zGk_fm gk_k c4.1.1 fm (by decide +kernel), zGk_fm tk_l c4.1.2.1 fm (by decide +kernel), zGk_fm plk_n c4.1.2.2 fm (by decide +kernel)⟩, zGk_fm uk_w c4.2.1 fm (by decide +kernel), zGk_fm vk_w c4.2.2 fm (by decide +kernel)⟩ ?_, g5, g4.1⟩
  have e4 : η' 0 4 = θ 0 4 := fm 0 4 (by decide +kernel)
  have e5 : η' 0 5 = θ 0 5 := fm 0 5 (by decide +kernel)
  have pp : yp_wk η ∧ η 0 2 = η' 0 4 ∧ η 0 3 = η' 0 5 := ⟨p1.1, p1.2.1.trans e4.symm, p1.2.2.trans e5.symm⟩
  by_cases q : 700 < θ 0 1 + 20
  · obtain ⟨q1, q2, q3, q4⟩ := p2 q
    have f1 := g7.1 q
    have f2 := g8.1 q
    exact ⟨⟨pp, q3.trans f1.2.symm, fun j hj => by rw [f2.2]; exact q4 j hj⟩, by rw [q1, f1.1]⟩
  · obtain ⟨q1, q2, q3, q4⟩ := p3 (by omega)
    have f1 := g7.2 (by omega)
    have f2 := g8.2 (by omega)
    exact ⟨⟨pp, by omega, fun j hj => by rw [f2.2]; exact q4 j (by omega)⟩, by rw [q1, f1.1]⟩
theorem cc_fault {ro : Nat → List Int32} {x m o : Nat} {h : List sm_C} (S : SL PB_w x m o h) (a : Int32) : RT ro 67 [.ref x, .int a] 1 x m o h (PQ_w a.toInt) := by
  obtain ⟨α, η, β, θ, ⟨c1, c2, c3, c4⟩, hM, hA, hp⟩ := S
  obtain ⟨n, v, h', y, η', g1, g3, g4, g5, g6, _, g8⟩ := zgf_fault α h η rf_c 39 [a.toInt] [.ref x, .int a] (by decide) c1 c2 rfc_self ⟨by rw [← hA.1.1]; rfl, z1_w a α⟩ rfl ⟨⟨wB_w c3, ⟨z32i a, trivial⟩, fun f w => nomatch w⟩, trivial⟩
  have g8 : y = (if a.toInt = 0 then η 0 2 else if a.toInt = 1 then η 0 3 else -1) ∧ η' = η := g8
  obtain ⟨k1, k2⟩ := g8
  subst k2
  exact ⟨n, v, h', y, g1, sl_c hM hA g4 ⟨c1, g3, c3, c4⟩ rfl (fun r c hr => ⟨r, c, hr, rfl⟩) ⟨hp, by rw [k1, hp.1.2.1, hp.1.2.2]⟩, g5, g4.1⟩
theorem cm_fault {ro : Nat → List Int32} {x m o : Nat} {h : List sm_C} {a : Int32} {y1 : Int} (S : SL (PQ_w a.toInt y1) x m o h) : RT ro 138 [.ref m, .int a] 1 x m o h (fun y η θ => PB_w η θ ∧ y = y1) := by
  obtain ⟨α, η, β, θ, hC, ⟨c1, c2, c3, c4⟩, hA, hp, hy⟩ := S
  obtain ⟨n, v, h', y, η', g1, g3, g4, g5, g6, _, g8⟩ := zhf_fault β h θ rf_m 39 [a.toInt] [.ref m, .int a] (by decide) c1 c2 rfm_self ⟨by rw [← hA.1.2]; rfl, z1_w a β⟩ rfl ⟨⟨c3, ⟨z32i a, trivial⟩, fun f w => nomatch w⟩, trivial⟩
  have fm : zFm zMhf_fault θ η' := g6.2.2.2.1
  have g8 : y = (if a.toInt = 0 then θ 0 4 else if a.toInt = 1 then θ 0 5 else -1) ∧ η' = zup θ 0 2 0 := g8
  refine ⟨n, v, h', y, g1, sl_m hC hA g4 ⟨c1, g3, g6.1, ⟨zGk_fm gk_k c4.1.1 fm (by decide +kernel), zGk_fm tk_l c4.1.2.1 fm (by decide +kernel), zGk_fm plk_n c4.1.2.2 fm (by decide +kernel)⟩, zGk_fm uk_w c4.2.1 fm (by decide +kernel), zGk_fm vk_w c4.2.2 fm (by decide +kernel)⟩ ⟨?_, by rw [g8.1, hy]⟩, g5, g4.1⟩
  rw [g8.2]
  exact hp
