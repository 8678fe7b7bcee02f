/-! feed, text -/
theorem wk_fm {mods : List zCe} {η η' : zE} (h : yp_wk η) (f : zFm mods η η') (hk : zdj [(62, 0)] mods = true) : yp_wk η' := fun i hi => by
  rw [f 62 i (zdj_ok hk (zin2_of (q := (62, 0)) (by decide) rfl (Or.inl rfl)))]
  exact h i hi
theorem r1_fm {mods : List zCe} {η η' : zE} (f : zFm mods η η') (hk : zdj [(1, 0)] mods = true) (j : Nat) : η' 1 j = η 1 j := f 1 j (zdj_ok hk (zin2_of (q := (1, 0)) (by decide) rfl (Or.inl rfl)))
theorem pt_0 {n y : Int} {η η' θ : zE} (hp : PB_w η θ) (b0 : 0 ≤ η 0 1 ∧ η 0 1 ≤ 700) (wk : yp_wk η') (r1 : ∀ j, η' 1 j = η 1 j) (a : ∀ r j, 2 ≤ r → r ≤ 16 → η' r j = η r j) (fc : FC_q n η η') (t : yp_t0 n η y η' ∧ η' 95 0 = η 95 0) : PT_w n y η' θ := by
  obtain ⟨⟨p0, ⟨f1, f2⟩, kx, tp⟩, p2, p3⟩ := hp
  obtain ⟨t, t9⟩ := t
  have kx' := kx_s kx a
  refine ⟨wk, fun w => ?_, fun w1 w2 => ?_⟩
  · have e : η' 0 1 = η 0 1 := fc.1 (by omega)
    have g := t.1 (by omega)
    exact ⟨g.1, ⟨wk, ⟨g.2.1.trans f1, g.2.2.trans f2⟩, kx', t9.trans tp⟩, e.trans p2, fun j hj => by rw [r1]; exact p3 j (by omega)⟩
  · have g := t.2 w1 (by omega)
    refine ⟨fc.2 w1 (by omega), ?_⟩
    rcases yr_text (n := n) (s := η) (m := θ) w1 (by omega) (fun j hj => p3 j (by omega)) with q | q
    · exact ⟨by rw [g.1, q.1], g.2.2.1.trans q.2.2.1, g.2.2.2.trans q.2.2.2, fun _ => ⟨kx', t9.trans tp⟩, fun z => by rw [g.1] at z; exact absurd z (by decide)⟩
    · exact absurd q.1 g.2.1
theorem pt_1 {n y : Int} {η η' ηs θ : zE} (hp : PB_w η θ) (b0 : 0 ≤ η 0 1 ∧ η 0 1 ≤ 700) (wk : yp_wk ηs) (s0 : ∀ j, ηs 0 j = η' 0 j) (s9 : ηs 95 0 = η' 95 0) (a : ∀ r j, 32 ≤ r → r ≤ 46 → ηs (r - 30) j = η' r j) (fc : FC_q n η η') (t : yp_t1 n η y η' ∧ η' 95 0 = 0) : PT_w n y ηs θ := by
  obtain ⟨⟨p0, ⟨f1, f2⟩, kx, tp⟩, p2, p3⟩ := hp
  obtain ⟨⟨t1, t2, t3, t4, t5, t6, t7⟩, t9⟩ := t
  refine ⟨wk, fun w => by omega, fun w1 w2 => ⟨(s0 1).trans (fc.2 w1 (by omega)), ?_⟩⟩
  rcases yr_text (n := n) (s := η) (m := θ) w1 (by omega) (fun j hj => p3 j (by omega)) with q | q
  · exact absurd t3 q.2.1
  · have nn := yr_texN (n := n) (s := η) (m := θ) w1 (by omega) (fun j hj => p3 j (by omega)) t3
    have yy : y = (yq_R n θ).1 := by rw [t4, q.2.1]
    refine ⟨yy, by rw [s0, t5, t3, q.2.2.2.1], (s0 3).trans (t6.trans q.2.2.1), fun z => by omega, fun _ => ⟨fun θ' k => ?_, s9.trans t9⟩⟩
    obtain ⟨k1, k2, k3, _, K4, K7, K8, K9, K10, K11, K12, K13, K14, K15, K5, K6, _⟩ := k
    refine kx_of q.2.2.2.2 (fun r j h1 h2 => (a r j h1 h2).trans (t7 r j h1 (by omega))) ⟨k1, k2, k3⟩ (fun r j hr hj => ?_) (fun r j hr hj => ?_)
    · rcases hr with rfl | rfl
      · exact K5 j hj
      · exact K6 j hj
    · have : r = 4 ∨ r = 7 ∨ r = 8 ∨ r = 9 ∨ r = 10 ∨ r = 11 ∨ r = 12 ∨ r = 13 ∨ r = 14 ∨ r = 15 := by omega
      rcases this with rfl | rfl | rfl | rfl | rfl | rfl | rfl | rfl | rfl | rfl
      · exact K4 j hj
      · exact K7 j hj
      · exact K8 j hj
      · exact K9 j hj
      · exact K10 j hj
      · exact K11 j hj
      · exact K12 j hj
      · exact K13 j hj
      · exact K14 j hj
      · exact K15 j hj
theorem sw_a {r : Nat} (h : 2 ≤ r) (h2 : r ≤ 16) : sw_w r = r + 30 := by
  unfold sw_w
  rw [show (Nat.ble 2 r && Nat.ble r 22) = true from (Bool.and_eq_true _ _).mpr ⟨Nat.ble_eq.mpr h, Nat.ble_eq.mpr (by omega)⟩]
  rfl
theorem ra_fm {mods : List zCe} {η η' : zE} (f : zFm mods η η') (hk : zdj pb_l (mods.filter (fun q => Nat.ble 2 q.1 && Nat.ble q.1 16)) = true) (hk2 : (mods.filter (fun q => Nat.ble 2 q.1 && Nat.ble q.1 16)).isEmpty = true) (r j : Nat) (h : 2 ≤ r) (h2 : r ≤ 16) : η' r j = η r j := f r j (Bool.eq_false_iff.mpr (fun w => by
  obtain ⟨q, q1, q2, q3⟩ := zin2_mem w
  have g : q ∈ mods.filter (fun q => Nat.ble 2 q.1 && Nat.ble q.1 16) := List.mem_filter.mpr ⟨q1, by rw [q2]; exact (Bool.and_eq_true _ _).mpr ⟨Nat.ble_eq.mpr h, Nat.ble_eq.mpr h2⟩⟩
  rw [List.isEmpty_iff.mp hk2] at g
  cases g))
theorem cc_text {ro : Nat → List Int32} (hro : ro 2 = [0, 1, 2, 3, 4, 4, 4, 4, 4, 4, 5, 5, 6, 6]) {x m o : Nat} {h : List sm_C} (S : SL PB_w x m o h) (a : Int32) : RT ro 66 [.ref x, .int a] 1 x m o h (PT_w a.toInt) := by
  obtain ⟨α, η, β, θ, ⟨c1, c2, c3, c4⟩, hM, hA, hp⟩ := S
  have b0 : (0 : Int) ≤ η 0 1 ∧ η 0 1 ≤ 700 := wf_ok (a := 1) (b := 1) (z := (0, 700)) c3 (by decide +kernel) (Nat.le_refl _) (Nat.le_refl _)
  obtain ⟨n, v, h', y, η', j, rt, g1, g2, g3, g4, g5, g6, g7⟩ := zqe_textK hro α h η rf_c 39 [a.toInt] [.ref x, .int a] (by decide) c1 c2 rfc_self (by decide +kernel) ⟨by rw [← hA.1.1]; rfl, z1_w a α⟩ rfl ⟨⟨wB_w c3, ⟨z32i a, trivial⟩, fun f w => nomatch w⟩, ⟨c3.2, c4⟩, hp.1.1⟩
  match j, g2, g6, g7 with
  | 0, g2, g6, g7 =>
    cases g2
    have g6 : sQ wl_qe zTr _ zMqe_textK [a.toInt] η y η' := g6
    have g7 : (GA_q η' ∧ G_r η' ∧ FC_q a.toInt η η') ∧ yp_t0 a.toInt η y η' ∧ η' 95 0 = η 95 0 := g7
    obtain ⟨⟨w1, w2, w3⟩, w4⟩ := g7
    have fm : zFm zMqe_textK η η' := g6.2.2.2.1
    exact ⟨n, v, h', y, g1, sl_c hM hA g4 ⟨c1, g3, ⟨g6.1.1, w1⟩, w2⟩ rfl (fun r c hr => ⟨r, c, hr, rfl⟩) (pt_0 hp b0 (wk_fm hp.1.1 fm (by decide +kernel)) (r1_fm fm (by decide +kernel)) (ra_fm fm (by decide +kernel) (by decide +kernel)) w3 w4), g5, g4.1⟩
  | 1, g2, g6, g7 =>
    cases g2
    have g6 : sQ wl_qe zTr _ zMqe_textK [a.toInt] η y η' := g6
    have g7 : (GB_q η' ∧ G_r η' ∧ FC_q a.toInt η η') ∧ yp_t1 a.toInt η y η' ∧ η' 95 0 = 0 := g7
    obtain ⟨⟨w1, w2, w3⟩, w4⟩ := g7
    have fm : zFm zMqe_textK η η' := g6.2.2.2.1
    have wk : yp_wk η' := wk_fm hp.1.1 fm (by decide +kernel)
    have p := pt_1 (η' := η') (ηs := fun r j => η' (sw_w r) j) hp b0 wk (fun _ => rfl) rfl (fun r j h1 h2 => by show η' (sw_w (r - 30)) j = η' r j; rw [sw_a (by omega) (by omega), show r - 30 + 30 = r by omega]) w3 w4
    exact ⟨n, v, h', y, g1, sl_c (P := PT_w a.toInt y) hM hA g4 (sw_sc c1 g3 g6.1 w1 w2) rfl (fun r c hr => ⟨sw_w r, c, (sw_get hr).1, rfl⟩) p, g5, g4.1⟩
  | k + 2, g2, _, _ => cases g2
theorem cm_text {ro : Nat → List Int32} {x m o : Nat} {h : List sm_C} {a : Int32} {y1 : Int} (S : SL (PT_w a.toInt y1) x m o h) : RT ro 137 [.ref m, .int a] 1 x m o h (fun y η θ => PB_w η θ ∧ y = y1) := by
  obtain ⟨α, η, β, θ, hC, ⟨c1, c2, c3, c4⟩, hA, p1, p2, p3⟩ := S
  obtain ⟨n, v, h', y, η', g1, g3, g4, g5, g6, g7, g8⟩ := zne_text β h θ rf_m 39 [a.toInt] [.ref m, .int a] (by decide) c1 c2 rfm_self ⟨by rw [← hA.1.2]; rfl, z1_w a β⟩ rfl ⟨⟨c3, ⟨z32i a, trivial⟩, fun f w => nomatch w⟩, c4.1⟩
  have fm : zFm zMne_text θ η' := g6.2.2.2.1
  have g8 : yq_u a.toInt θ y η' := g8
  have g7 : (G_k η' ∧ T_l η' ∧ PL_n 3 η') ∧ (0 ≤ a.toInt ∧ a.toInt ≤ θ 0 1 → η' 0 1 = 0) ∧ (¬ (0 ≤ a.toInt ∧ a.toInt ≤ θ 0 1) → η' 0 1 = θ 0 1) := g7
  obtain ⟨w1, w2, w3⟩ := g7
  have r1 := r1_fm fm (by decide +kernel)
  refine ⟨n, v, h', y, g1, sl_m hC hA g4 ⟨c1, g3, g6.1, w1, zGk_fm uk_w c4.2.1 fm (by decide +kernel), zGk_fm vk_w c4.2.2 fm (by decide +kernel)⟩ ?_, g5, g4.1⟩
  by_cases q : a.toInt < 0 ∨ θ 0 1 < a.toInt
  · obtain ⟨q1, q2⟩ := p2 q
    have e := g8.1 q
    rw [e.1, e.2, q1]
    exact ⟨pb_z q2 (by decide), rfl⟩
  · obtain ⟨q1, q2, q3, q4, q5, q6⟩ := p3 (by omega) (by omega)
    obtain ⟨e1, e2, e3, e4, e5⟩ := g8.2 (by omega) (by omega)
    have yy : y = y1 := by rw [e1, q2]
    refine ⟨⟨?_, q1.trans (w2 ⟨by omega, by omega⟩).symm, fun j hj => by omega⟩, yy⟩
    by_cases s : y1 < 0
    · have k := q5 s
      have d := e5 (by omega)
      exact ⟨p1, ⟨q3.trans e2.symm, q4.trans e3.symm⟩, kx_m k.1 (by rw [d.1]; exact hK_R), k.2.trans d.2.symm⟩
    · have k := q6 (by omega)
      have d := e4 (by omega)
      exact ⟨p1, ⟨q3.trans e2.symm, q4.trans e3.symm⟩, k.1 _ d.1, k.2.trans d.2.symm⟩
theorem cc_feed {ro : Nat → List Int32} {x m o : Nat} {h : List sm_C} (S : SL PB_w x m o h) (a b c d e : Int32) : RT ro 64 [.ref x, .int a, .int b, .int c, .int d, .int e] 1 x m o h (PF_w a.toInt b.toInt c.toInt d.toInt e.toInt) := by
  obtain ⟨α, η, β, θ, ⟨c1, c2, c3, c4⟩, hM, hA, hp⟩ := S
  have b0 : (0 : Int) ≤ η 0 1 ∧ η 0 1 ≤ 700 := wf_ok (a := 1) (b := 1) (z := (0, 700)) c3 (by decide +kernel) (Nat.le_refl _) (Nat.le_refl _)
  obtain ⟨n, v, h', y, η', g1, g3, g4, g5, g6, g7, g8⟩ := zge_feed α h η rf_c 39 [a.toInt, b.toInt, c.toInt, d.toInt, e.toInt] [.ref x, .int a, .int b, .int c, .int d, .int e] (by decide) c1 c2 rfc_self ⟨by rw [← hA.1.1]; rfl, z5_w a b c d e α⟩ rfl ⟨⟨wB_w c3, ⟨z32i a, z32i b, z32i c, z32i d, z32i e, trivial⟩, fun f w => nomatch w⟩, trivial⟩
  have fm : zFm zMge_feed η η' := g6.2.2.2.1
  have g7 : (700 < η 0 1 + 20 → y = -1 ∧ η' 0 1 = η 0 1) ∧ (η 0 1 + 20 ≤ 700 → y = η 0 1 + 20 ∧ η' 0 1 = η 0 1 + 20) := g7
  have g8 : (700 < η 0 1 + 20 → y = -1 ∧ η' 1 = η 1) ∧ (η 0 1 + 20 ≤ 700 → y = yf_c a.toInt b.toInt c.toInt d.toInt e.toInt η 0 1 ∧ η' = yf_c a.toInt b.toInt c.toInt d.toInt e.toInt η) := g8
  have wk : PA_w η' θ := ⟨wk_fm hp.1.1 fm (by decide +kernel), ⟨(fm 0 2 (by decide +kernel)).trans hp.1.2.1.1, (fm 0 3 (by decide +kernel)).trans hp.1.2.1.2⟩, kx_s hp.1.2.2.1 (ra_fm fm (by decide +kernel) (by decide +kernel)), (fm 95 0 (by decide +kernel)).trans hp.1.2.2.2⟩
  refine ⟨n, v, h', y, g1, sl_c hM hA g4 ⟨c1, g3, ⟨g6.1.1, zGk_fm gk_c c3.2 fm (by decide +kernel)⟩, zGk_fm gk_r c4 fm (by decide +kernel)⟩ rfl (fun r c hr => ⟨r, c, hr, rfl⟩) ?_, g5, g4.1⟩
  obtain ⟨p1, p2, p3⟩ := hp
  refine ⟨wk, fun w => ?_, fun w => ?_⟩
  · have f1 := g7.1 (by omega)
    have f2 := g8.1 (by omega)
    exact ⟨f1.1, wk, f1.2.trans p2, fun j hj => by rw [f2.2]; exact p3 j (by omega)⟩
  · have f1 := g7.2 (by omega)
    have f2 := g8.2 (by omega)
    have z := zf_bytes (s := η) (m := θ) (a := a.toInt) (b := b.toInt) (c := c.toInt) (d := d.toInt) (e := e.toInt) b0.1 (by omega) p2 p3
    exact ⟨by omega, by omega, by omega, fun j hj => by rw [f2.2]; exact z.2.2 j (by omega)⟩
theorem hk_fm {r j : Nat} (q : ((r = 5 ∨ r = 6) ∧ j < 12) ∨ ((r = 4 ∨ (7 ≤ r ∧ r ≤ 15)) ∧ j < 4) ∨ (r = 0 ∧ 12 ≤ j ∧ j ≤ 15)) : zin2 zMhe_feed r j = false := by
  refine Bool.eq_false_iff.mpr (fun w => ?_)
  obtain ⟨k, k1, k2, k3⟩ := zin2_mem w
  have := List.all_eq_true.mp (show zMhe_feed.all (fun q => Nat.beq q.1 1 || Nat.beq q.1 0 && (Nat.ble 1 q.2 && Nat.ble q.2 4)) = true by decide) k k1
  rcases (Bool.or_eq_true _ _).mp this with z | z
  · have z := Nat.eq_of_beq_eq_true z
    omega
  · obtain ⟨z1, z2⟩ := (Bool.and_eq_true _ _).mp z
    obtain ⟨z2, z3⟩ := (Bool.and_eq_true _ _).mp z2
    have z1 := Nat.eq_of_beq_eq_true z1
    have z2 := Nat.ble_eq.mp z2
    have z3 := Nat.ble_eq.mp z3
    rcases k3 with k3 | k3 <;> omega
theorem cm_feed {ro : Nat → List Int32} {x m o : Nat} {h : List sm_C} {a b c d e : Int32} {y1 : Int} (S : SL (PF_w a.toInt b.toInt c.toInt d.toInt e.toInt y1) x m o h) : RT ro 116 [.ref m, .int a, .int b, .int c, .int d, .int e] 1 x m o h (fun y η θ => PB_w η θ ∧ y = y1) := by
  obtain ⟨α, η, β, θ, hC, ⟨c1, c2, c3, c4⟩, hA, p1, p2, p3⟩ := S
  obtain ⟨n, v, h', y, η', g1, g3, g4, g5, g6, g7, g8⟩ := zhe_feed β h θ rf_m 39 [a.toInt, b.toInt, c.toInt, d.toInt, e.toInt] [.ref m, .int a, .int b, .int c, .int d, .int e] (by decide) c1 c2 rfm_self ⟨by rw [← hA.1.2]; rfl, z5_w a b c d e β⟩ rfl ⟨⟨c3, ⟨z32i a, z32i b, z32i c, z32i d, z32i e, trivial⟩, fun f w => nomatch w⟩, trivial⟩
  have fm : zFm zMhe_feed θ η' := g6.2.2.2.1
  have g7 : (700 < θ 0 1 + 20 → y = -1 ∧ η' 0 1 = θ 0 1) ∧ (θ 0 1 + 20 ≤ 700 → y = θ 0 1 + 20 ∧ η' 0 1 = θ 0 1 + 20) := g7
  have g8 : (700 < θ 0 1 + 20 → y = -1 ∧ η' 1 = θ 1) ∧ (θ 0 1 + 20 ≤ 700 → y = yf_q a.toInt b.toInt c.toInt d.toInt e.toInt θ 0 1 ∧ η' = yf_q a.toInt b.toInt c.toInt d.toInt e.toInt θ) := g8
  refine ⟨n, v, h', y, g1, sl_m hC hA g4 ⟨c1, g3, g6.1, ⟨zGk_fm gk_k c4.1.1 fm (by decide +kernel), zGk_fm tk_l c4.1.2.1 fm (by decide +kernel), zGk_fm plk_n c4.1.2.2 fm (by decide +kernel)⟩, zGk_fm uk_w c4.2.1 fm (by decide +kernel), zGk_fm vk_w c4.2.2 fm (by decide +kernel)⟩ ?_, g5, g4.1⟩
  have pp : PA_w η η' := ⟨p1.1, ⟨p1.2.1.1.trans (fm 0 4 (by decide +kernel)).symm, p1.2.1.2.trans (fm 0 5 (by decide +kernel)).symm⟩, kx_m p1.2.2.1 (fun r j q => fm r j (hk_fm q)), p1.2.2.2.trans (fm 0 74 (by decide +kernel)).symm⟩
  by_cases q : 700 < θ 0 1 + 20
  · obtain ⟨q1, q2, q3, q4⟩ := p2 q
    have f1 := g7.1 q
    have f2 := g8.1 q
    exact ⟨⟨pp, q3.trans f1.2.symm, fun j hj => by rw [f2.2]; exact q4 j hj⟩, by rw [q1, f1.1]⟩
  · obtain ⟨q1, q2, q3, q4⟩ := p3 (by omega)
    have f1 := g7.2 (by omega)
    have f2 := g8.2 (by omega)
    exact ⟨⟨pp, by omega, fun j hj => by rw [f2.2]; exact q4 j (by omega)⟩, by rw [q1, f1.1]⟩
theorem cc_fault {ro : Nat → List Int32} {x m o : Nat} {h : List sm_C} (S : SL PB_w x m o h) (a : Int32) : RT ro 67 [.ref x, .int a] 1 x m o h (PQ_w a.toInt) := by
  obtain ⟨α, η, β, θ, ⟨c1, c2, c3, c4⟩, hM, hA, hp⟩ := S
  have b9 : (0 : Int) ≤ η 95 0 ∧ η 95 0 ≤ 24 := wf_ok (a := 0) (b := 0) (z := (0, 24)) c3 (by decide +kernel) (Nat.le_refl _) (Nat.le_refl _)
  obtain ⟨n, v, h', y, η', g1, g3, g4, g5, g6, _, g8⟩ := zgf_fault α h η rf_c 39 [a.toInt] [.ref x, .int a] (by decide) c1 c2 rfc_self ⟨by rw [← hA.1.1]; rfl, z1_w a α⟩ rfl ⟨⟨wB_w c3, ⟨z32i a, trivial⟩, fun f w => nomatch w⟩, trivial⟩
  have fm : zFm zMgf_fault η η' := g6.2.2.2.1
  have g8 : y = (if a.toInt = 0 then η 0 2 else if a.toInt = 1 then η 0 3 else -1) ∧ η' = η := g8
  exact ⟨n, v, h', y, g1, sl_c hM hA g4 ⟨c1, g3, ⟨g6.1.1, zGk_fm gk_c c3.2 fm (by decide +kernel)⟩, zGk_fm gk_r c4 fm (by decide +kernel)⟩ rfl (fun r c hr => ⟨r, c, hr, rfl⟩) (by rw [g8.2]; exact ⟨hp, by rw [g8.1, hp.1.2.1.1, hp.1.2.1.2]⟩), g5, g4.1⟩
theorem cm_fault {ro : Nat → List Int32} {x m o : Nat} {h : List sm_C} {a : Int32} {y1 : Int} (S : SL (PQ_w a.toInt y1) x m o h) : RT ro 138 [.ref m, .int a] 1 x m o h (fun y η θ => PB_w η θ ∧ y = y1) := by
  obtain ⟨α, η, β, θ, hC, ⟨c1, c2, c3, c4⟩, hA, hp, hy⟩ := S
  have b9 : (0 : Int) ≤ θ 0 74 ∧ θ 0 74 ≤ 24 := wf_ok (a := 74) (b := 74) (z := (0, 24)) c3 (by decide +kernel) (Nat.le_refl _) (Nat.le_refl _)
  have b12 : (0 : Int) ≤ θ 0 12 ∧ θ 0 12 ≤ 12 := wf_ok (a := 12) (b := 12) (z := (0, 12)) c3 (by decide +kernel) (Nat.le_refl _) (Nat.le_refl _)
  obtain ⟨n, v, h', y, η', g1, g3, g4, g5, g6, _, g8⟩ := zhf_fault β h θ rf_m 39 [a.toInt] [.ref m, .int a] (by decide) c1 c2 rfm_self ⟨by rw [← hA.1.2]; rfl, z1_w a β⟩ rfl ⟨⟨c3, ⟨z32i a, trivial⟩, fun f w => nomatch w⟩, trivial⟩
  have fm : zFm zMhf_fault θ η' := g6.2.2.2.1
  have g8 : y = (if a.toInt = 0 then θ 0 4 else if a.toInt = 1 then θ 0 5 else -1) ∧ η' = zup θ 0 2 0 := g8
  exact ⟨n, v, h', y, g1, sl_m hC hA g4 ⟨c1, g3, g6.1, ⟨zGk_fm gk_k c4.1.1 fm (by decide +kernel), zGk_fm tk_l c4.1.2.1 fm (by decide +kernel), zGk_fm plk_n c4.1.2.2 fm (by decide +kernel)⟩, zGk_fm uk_w c4.2.1 fm (by decide +kernel), zGk_fm vk_w c4.2.2 fm (by decide +kernel)⟩ (by rw [g8.2]; exact ⟨pb_z hp (by decide), by rw [g8.1, hy]⟩), g5, g4.1⟩
theorem nmq_e {η θ : zE} {x : Int} (p : PB_w η θ) : yv_nm x η = yp_fd (θ 12) x (θ 0 14).toNat (θ 0 14).toNat := by
  have u := p.1.2.2.1.2.2.1
  have e : η 2 3 = θ 0 14 := u.2.2.1.trans (un_0 (j := 14))
  have u0 : (0 : Int) ≤ η 2 3 := u.1
  unfold yv_nm
  rw [e]
  exact fd_c (fun i hi => ((u.2.2.2 i (show (i : Int) < η 2 3 by omega)).1).trans (un_4 (by decide))) _ (Nat.le_refl _)
theorem cc_named {ro : Nat → List Int32} {x m o : Nat} {h : List sm_C} (S : SL PB_w x m o h) (a : Int32) : RT ro 68 [.ref x, .int a] 1 x m o h (PN_w a.toInt) := by
  obtain ⟨α, η, β, θ, ⟨c1, c2, c3, c4⟩, hM, hA, hp⟩ := S
  have b9 : (0 : Int) ≤ η 95 0 ∧ η 95 0 ≤ 24 := wf_ok (a := 0) (b := 0) (z := (0, 24)) c3 (by decide +kernel) (Nat.le_refl _) (Nat.le_refl _)
  obtain ⟨n, v, h', y, η', g1, g3, g4, g5, g6, _, g8⟩ := zgs_named α h η rf_c 39 [a.toInt] [.ref x, .int a] (by decide) c1 c2 rfc_self ⟨by rw [← hA.1.1]; rfl, z1_w a α⟩ rfl ⟨⟨wB_w c3, ⟨z32i a, trivial⟩, fun f w => nomatch w⟩, trivial⟩
  have fm : zFm zMgs_named η η' := g6.2.2.2.1
  have g8 : y = yv_nm a.toInt η ∧ η' = η := g8
  exact ⟨n, v, h', y, g1, sl_c hM hA g4 ⟨c1, g3, ⟨g6.1.1, zGk_fm gk_c c3.2 fm (by decide +kernel)⟩, zGk_fm gk_r c4 fm (by decide +kernel)⟩ rfl (fun r c hr => ⟨r, c, hr, rfl⟩) (by rw [g8.2]; exact ⟨hp, by rw [g8.1, nmq_e hp]⟩), g5, g4.1⟩
theorem cm_named {ro : Nat → List Int32} {x m o : Nat} {h : List sm_C} {a : Int32} {y1 : Int} (S : SL (PN_w a.toInt y1) x m o h) : RT ro 139 [.ref m, .int a] 1 x m o h (fun y η θ => PB_w η θ ∧ y = y1) := by
  obtain ⟨α, η, β, θ, hC, ⟨c1, c2, c3, c4⟩, hA, hp, hy⟩ := S
  have b9 : (0 : Int) ≤ θ 0 74 ∧ θ 0 74 ≤ 24 := wf_ok (a := 74) (b := 74) (z := (0, 24)) c3 (by decide +kernel) (Nat.le_refl _) (Nat.le_refl _)
  have b12 : (0 : Int) ≤ θ 0 12 ∧ θ 0 12 ≤ 12 := wf_ok (a := 12) (b := 12) (z := (0, 12)) c3 (by decide +kernel) (Nat.le_refl _) (Nat.le_refl _)
  obtain ⟨n, v, h', y, η', g1, g3, g4, g5, g6, _, g8⟩ := zhs_named β h θ rf_m 39 [a.toInt] [.ref m, .int a] (by decide) c1 c2 rfm_self ⟨by rw [← hA.1.2]; rfl, z1_w a β⟩ rfl ⟨⟨c3, ⟨z32i a, trivial⟩, fun f w => nomatch w⟩, trivial⟩
  have fm : zFm zMhs_named θ η' := g6.2.2.2.1
  have g8 : y = yp_fd (θ 12) a.toInt (θ 0 14).toNat (θ 0 14).toNat ∧ η' = zup θ 0 2 0 := g8
  exact ⟨n, v, h', y, g1, sl_m hC hA g4 ⟨c1, g3, g6.1, ⟨zGk_fm gk_k c4.1.1 fm (by decide +kernel), zGk_fm tk_l c4.1.2.1 fm (by decide +kernel), zGk_fm plk_n c4.1.2.2 fm (by decide +kernel)⟩, zGk_fm uk_w c4.2.1 fm (by decide +kernel), zGk_fm vk_w c4.2.2 fm (by decide +kernel)⟩ (by rw [g8.2]; exact ⟨pb_z hp (by decide), by rw [g8.1, hy]⟩), g5, g4.1⟩
theorem ne_e {η θ : zE} {x : Int} (p : PB_w η θ) : yv_ne x η = yw_ne x θ := by
  have o := p.1.2.2.1.2.2.2
  have e1 : η 2 5 = θ 4 1 := o.2.1.trans (un_4 (r := 4) (j := 1) (by decide))
  have e2 : η 2 6 = θ 4 3 := o.2.2.1.trans (un_4 (r := 4) (j := 3) (by decide))
  have b1 : 0 ≤ η 2 5 ∧ η 2 5 ≤ 99 := o.2.2.2.2.1
  have b2 : 0 ≤ η 2 6 ∧ η 2 6 ≤ 9 := o.2.2.2.2.2
  unfold yv_ne yw_ne
  by_cases c : yq_in x 1 99 = 0
  · rw [if_pos c, if_pos c]
  · have w := (in_11 c).2
    rw [if_neg c, if_neg c, nd_e b1 b2 _ (by omega), e1, e2]
theorem bb_e {η θ : zE} {x : Int} (p : PB_w η θ) : yv_bb x η = yw_bb x θ := by
  have g := p.1.2.2.1.1
  have e : η 2 1 = θ 0 12 := g.2.2.1.trans (un_0 (j := 12))
  have g0 : ∀ j : Nat, (j : Int) < η 2 1 → η 4 j = θ 6 j ∧ 0 ≤ η 4 j ∧ η 4 j ≤ 9 := fun j hj => by
    have w := g.2.2.2 j hj
    exact ⟨w.2.1.trans (un_5 (r := 6) (j := j) (Or.inr rfl)), w.2.2⟩
  unfold yv_bb yw_bb
  by_cases c : yq_in x 1 12 = 0
  · rw [if_pos c, if_pos c]
  · have w := (in_11 c).2
    rw [if_neg c, if_neg c, e]
    by_cases q : θ 0 12 < x
    · rw [show (θ 0 12 - x + 1).toNat = 0 by omega]
      rfl
    · exact (b1_e (N := (θ 0 12 - x).toNat) (by omega) (fun j hj => g0 j (by omega)) _ (by omega)).1
def PE_w (a y : Int) (η θ : zE) : Prop := PB_w η θ ∧ y = yw_ne a θ
def PG_w (a y : Int) (η θ : zE) : Prop := PB_w η θ ∧ y = yw_bb a θ
theorem cc_needle {ro : Nat → List Int32} {x m o : Nat} {h : List sm_C} (S : SL PB_w x m o h) (a : Int32) : RT ro 95 [.ref x, .int a] 1 x m o h (PE_w a.toInt) := by
  obtain ⟨α, η, β, θ, ⟨c1, c2, c3, c4⟩, hM, hA, hp⟩ := S
  have b9 : (0 : Int) ≤ η 95 0 ∧ η 95 0 ≤ 24 := wf_ok (a := 0) (b := 0) (z := (0, 24)) c3 (by decide +kernel) (Nat.le_refl _) (Nat.le_refl _)
  obtain ⟨n, v, h', y, η', g1, g3, g4, g5, g6, _, g8⟩ := zgs_needle α h η rf_c 39 [a.toInt] [.ref x, .int a] (by decide) c1 c2 rfc_self ⟨by rw [← hA.1.1]; rfl, z1_w a α⟩ rfl ⟨⟨wB_w c3, ⟨z32i a, trivial⟩, fun f w => nomatch w⟩, trivial⟩
  have fm : zFm zMgs_needle η η' := g6.2.2.2.1
  have g8 : y = yv_ne a.toInt η ∧ η' = η := g8
  exact ⟨n, v, h', y, g1, sl_c hM hA g4 ⟨c1, g3, ⟨g6.1.1, zGk_fm gk_c c3.2 fm (by decide +kernel)⟩, zGk_fm gk_r c4 fm (by decide +kernel)⟩ rfl (fun r c hr => ⟨r, c, hr, rfl⟩) (by rw [g8.2]; exact ⟨hp, by rw [g8.1, ne_e hp]⟩), g5, g4.1⟩
theorem cm_needle {ro : Nat → List Int32} {x m o : Nat} {h : List sm_C} {a : Int32} {y1 : Int} (S : SL (PE_w a.toInt y1) x m o h) : RT ro 197 [.ref m, .int a] 1 x m o h (fun y η θ => PB_w η θ ∧ y = y1) := by
  obtain ⟨α, η, β, θ, hC, ⟨c1, c2, c3, c4⟩, hA, hp, hy⟩ := S
  have b9 : (0 : Int) ≤ θ 0 74 ∧ θ 0 74 ≤ 24 := wf_ok (a := 74) (b := 74) (z := (0, 24)) c3 (by decide +kernel) (Nat.le_refl _) (Nat.le_refl _)
  have b12 : (0 : Int) ≤ θ 0 12 ∧ θ 0 12 ≤ 12 := wf_ok (a := 12) (b := 12) (z := (0, 12)) c3 (by decide +kernel) (Nat.le_refl _) (Nat.le_refl _)
  obtain ⟨n, v, h', y, η', g1, g3, g4, g5, g6, _, g8⟩ := zhs_needle β h θ rf_m 39 [a.toInt] [.ref m, .int a] (by decide) c1 c2 rfm_self ⟨by rw [← hA.1.2]; rfl, z1_w a β⟩ rfl ⟨⟨c3, ⟨z32i a, trivial⟩, fun f w => nomatch w⟩, trivial⟩
  have fm : zFm zMhs_needle θ η' := g6.2.2.2.1
  have g8 : y = yw_ne a.toInt θ ∧ η' = zup θ 0 2 0 := g8
  exact ⟨n, v, h', y, g1, sl_m hC hA g4 ⟨c1, g3, g6.1, ⟨zGk_fm gk_k c4.1.1 fm (by decide +kernel), zGk_fm tk_l c4.1.2.1 fm (by decide +kernel), zGk_fm plk_n c4.1.2.2 fm (by decide +kernel)⟩, zGk_fm uk_w c4.2.1 fm (by decide +kernel), zGk_fm vk_w c4.2.2 fm (by decide +kernel)⟩ (by rw [g8.2]; exact ⟨pb_z hp (by decide), by rw [g8.1, hy]⟩), g5, g4.1⟩
theorem cc_bestBit {ro : Nat → List Int32} {x m o : Nat} {h : List sm_C} (S : SL PB_w x m o h) (a : Int32) : RT ro 98 [.ref x, .int a] 1 x m o h (PG_w a.toInt) := by
  obtain ⟨α, η, β, θ, ⟨c1, c2, c3, c4⟩, hM, hA, hp⟩ := S
  have b9 : (0 : Int) ≤ η 95 0 ∧ η 95 0 ≤ 24 := wf_ok (a := 0) (b := 0) (z := (0, 24)) c3 (by decide +kernel) (Nat.le_refl _) (Nat.le_refl _)
  obtain ⟨n, v, h', y, η', g1, g3, g4, g5, g6, _, g8⟩ := zgs_bestBit α h η rf_c 39 [a.toInt] [.ref x, .int a] (by decide) c1 c2 rfc_self ⟨by rw [← hA.1.1]; rfl, z1_w a α⟩ rfl ⟨⟨wB_w c3, ⟨z32i a, trivial⟩, fun f w => nomatch w⟩, trivial⟩
  have fm : zFm zMgs_bestBit η η' := g6.2.2.2.1
  have g8 : y = yv_bb a.toInt η ∧ η' = η := g8
  exact ⟨n, v, h', y, g1, sl_c hM hA g4 ⟨c1, g3, ⟨g6.1.1, zGk_fm gk_c c3.2 fm (by decide +kernel)⟩, zGk_fm gk_r c4 fm (by decide +kernel)⟩ rfl (fun r c hr => ⟨r, c, hr, rfl⟩) (by rw [g8.2]; exact ⟨hp, by rw [g8.1, bb_e hp]⟩), g5, g4.1⟩
theorem cm_bestBit {ro : Nat → List Int32} {x m o : Nat} {h : List sm_C} {a : Int32} {y1 : Int} (S : SL (PG_w a.toInt y1) x m o h) : RT ro 200 [.ref m, .int a] 1 x m o h (fun y η θ => PB_w η θ ∧ y = y1) := by
  obtain ⟨α, η, β, θ, hC, ⟨c1, c2, c3, c4⟩, hA, hp, hy⟩ := S
  have b9 : (0 : Int) ≤ θ 0 74 ∧ θ 0 74 ≤ 24 := wf_ok (a := 74) (b := 74) (z := (0, 24)) c3 (by decide +kernel) (Nat.le_refl _) (Nat.le_refl _)
  have b12 : (0 : Int) ≤ θ 0 12 ∧ θ 0 12 ≤ 12 := wf_ok (a := 12) (b := 12) (z := (0, 12)) c3 (by decide +kernel) (Nat.le_refl _) (Nat.le_refl _)
  obtain ⟨n, v, h', y, η', g1, g3, g4, g5, g6, _, g8⟩ := zhs_bestBit β h θ rf_m 39 [a.toInt] [.ref m, .int a] (by decide) c1 c2 rfm_self ⟨by rw [← hA.1.2]; rfl, z1_w a β⟩ rfl ⟨⟨c3, ⟨z32i a, trivial⟩, fun f w => nomatch w⟩, trivial⟩
  have fm : zFm zMhs_bestBit θ η' := g6.2.2.2.1
  have g8 : y = yw_bb a.toInt θ ∧ η' = zup θ 0 2 0 := g8
  exact ⟨n, v, h', y, g1, sl_m hC hA g4 ⟨c1, g3, g6.1, ⟨zGk_fm gk_k c4.1.1 fm (by decide +kernel), zGk_fm tk_l c4.1.2.1 fm (by decide +kernel), zGk_fm plk_n c4.1.2.2 fm (by decide +kernel)⟩, zGk_fm uk_w c4.2.1 fm (by decide +kernel), zGk_fm vk_w c4.2.2 fm (by decide +kernel)⟩ (by rw [g8.2]; exact ⟨pb_z hp (by decide), by rw [g8.1, hy]⟩), g5, g4.1⟩
theorem bt_w (a b : Int32) {z : Int} (h : z = 0 ∨ z = 1) : sB [(-2147483648, 2147483647), (-2147483648, 2147483647), (0, 1)] [a.toInt, b.toInt, (Int32.ofInt z).toInt] := ⟨z32i a, z32i b, by rcases h with rfl | rfl <;> decide, trivial⟩
theorem ci_w {c : Int} (h : c = 0 ∨ c = 1) : (Int32.ofInt c).toInt = 0 ∨ (Int32.ofInt c).toInt = 1 := by
  rcases h with rfl | rfl
  · exact Or.inl rfl
  · exact Or.inr rfl
theorem vt_tp {t g i : Int} {s : zE} (h : V_w s) (h0 : 0 ≤ s 0 74 ∧ s 0 74 ≤ 24) (h1 : s 0 12 ≤ 12) : V_w (yw_tp t g i s).2 := by
  unfold yw_tp
  split
  · exact h
  · split
    · exact h
    · split
      · exact h
      · next c1 _ c3 =>
        have gg : 0 ≤ g ∧ g ≤ 23 := by
          by_cases q : 0 ≤ g ∧ g < s 0 12
          · omega
          · exact absurd (if_neg q) c3
        split
        · exact vt_no h (by omega) gg
        · exact vt_no h (by omega) gg
theorem vt_sk {k : Int} {s : zE} (h : V_w s) (h0 : 0 ≤ s 0 74 ∧ s 0 74 ≤ 24) : V_w (yw_sk k s).2 := by
  unfold yw_sk
  split
  · exact h
  · exact vt_no h (by omega) (by omega)
theorem vz_2 {s : zE} (h : V_w s) : V_w (zup s 0 2 0) := h
theorem cc_tape {ro : Nat → List Int32} {x m o : Nat} {h : List sm_C} (S : SL PB_w x m o h) (a b : Int32) {c : Int} (hc : c = 0 ∨ c = 1) : RT ro 104 [.ref x, .int a, .int b, .int (Int32.ofInt c)] 1 x m o h (PX_w (fun s => yv_tp a.toInt b.toInt (Int32.ofInt c).toInt s)) := by
  obtain ⟨α, η, β, θ, ⟨c1, c2, c3, c4⟩, hM, hA, hp⟩ := S
  have b9 : (0 : Int) ≤ η 95 0 ∧ η 95 0 ≤ 24 := wf_ok (a := 0) (b := 0) (z := (0, 24)) c3 (by decide +kernel) (Nat.le_refl _) (Nat.le_refl _)
  obtain ⟨n, v, h', y, η', g1, g3, g4, g5, g6, _, g8⟩ := zgs_tape α h η rf_c 39 [a.toInt, b.toInt, (Int32.ofInt c).toInt] [.ref x, .int a, .int b, .int (Int32.ofInt c)] (by decide) c1 c2 rfc_self ⟨by rw [← hA.1.1]; rfl, z3_w a b (Int32.ofInt c) α⟩ rfl ⟨⟨wB_w c3, bt_w a b hc, fun f w => nomatch w⟩, trivial⟩
  have fm : zFm zMgs_tape η η' := g6.2.2.2.1
  have g8 : y = (yv_tp a.toInt b.toInt (Int32.ofInt c).toInt η).1 ∧ η' = (yv_tp a.toInt b.toInt (Int32.ofInt c).toInt η).2 := g8
  exact ⟨n, v, h', y, g1, sl_c hM hA g4 ⟨c1, g3, ⟨g6.1.1, zGk_fm gk_c c3.2 fm (by decide +kernel)⟩, zGk_fm gk_r c4 fm (by decide +kernel)⟩ rfl (fun r c hr => ⟨r, c, hr, rfl⟩) ⟨η, hp, b9, g8.1, g8.2⟩, g5, g4.1⟩
theorem cm_tape {ro : Nat → List Int32} {x m o : Nat} {h : List sm_C} {a b : Int32} {c : Int} (hc : c = 0 ∨ c = 1) {y1 : Int} (S : SL (PX_w (fun s => yv_tp a.toInt b.toInt (Int32.ofInt c).toInt s) y1) x m o h) : RT ro 207 [.ref m, .int a, .int b, .int (Int32.ofInt c)] 1 x m o h (fun y η θ => PB_w η θ ∧ y = y1) := by
  obtain ⟨α, η, β, θ, hC, ⟨c1, c2, c3, c4⟩, hA, e0, hp, e9, e1, e2⟩ := S
  have b9 : (0 : Int) ≤ θ 0 74 ∧ θ 0 74 ≤ 24 := wf_ok (a := 74) (b := 74) (z := (0, 24)) c3 (by decide +kernel) (Nat.le_refl _) (Nat.le_refl _)
  have b12 : (0 : Int) ≤ θ 0 12 ∧ θ 0 12 ≤ 12 := wf_ok (a := 12) (b := 12) (z := (0, 12)) c3 (by decide +kernel) (Nat.le_refl _) (Nat.le_refl _)
  obtain ⟨n, v, h', y, η', g1, g3, g4, g5, g6, _, g8⟩ := zhs_tape β h θ rf_m 39 [a.toInt, b.toInt, (Int32.ofInt c).toInt] [.ref m, .int a, .int b, .int (Int32.ofInt c)] (by decide) c1 c2 rfm_self ⟨by rw [← hA.1.2]; rfl, z3_w a b (Int32.ofInt c) β⟩ rfl ⟨⟨c3, bt_w a b hc, fun f w => nomatch w⟩, trivial⟩
  have fm : zFm zMhs_tape θ η' := g6.2.2.2.1
  have g8 : y = (yw_tp a.toInt b.toInt (Int32.ofInt c).toInt (zup θ 0 2 0)).1 ∧ η' = (yw_tp a.toInt b.toInt (Int32.ofInt c).toInt (zup θ 0 2 0)).2 := g8
  exact ⟨n, v, h', y, g1, sl_m hC hA g4 ⟨c1, g3, g6.1, ⟨zGk_fm gk_k c4.1.1 fm (by decide +kernel), zGk_fm tk_l c4.1.2.1 fm (by decide +kernel), zGk_fm plk_n c4.1.2.2 fm (by decide +kernel)⟩, zGk_fm uk_w c4.2.1 fm (by decide +kernel), (by rw [g8.2]; exact vt_tp (vz_2 c4.2.2) b9 b12.2)⟩ (by
    have q := tp_e (t := a.toInt) (g := b.toInt) (ci_w hc) (pb_z (x := 0) (r := 0) (j := 2) hp (by decide)) e9
    rw [g8.2, e2]
    exact ⟨q.1, by rw [g8.1, e1]; exact q.2⟩), g5, g4.1⟩
theorem cc_strike {ro : Nat → List Int32} {x m o : Nat} {h : List sm_C} (S : SL PB_w x m o h) (a : Int32) : RT ro 105 [.ref x, .int a] 1 x m o h (PX_w (fun s => yv_sk a.toInt s)) := by
  obtain ⟨α, η, β, θ, ⟨c1, c2, c3, c4⟩, hM, hA, hp⟩ := S
  have b9 : (0 : Int) ≤ η 95 0 ∧ η 95 0 ≤ 24 := wf_ok (a := 0) (b := 0) (z := (0, 24)) c3 (by decide +kernel) (Nat.le_refl _) (Nat.le_refl _)
  obtain ⟨n, v, h', y, η', g1, g3, g4, g5, g6, _, g8⟩ := zgs_strike α h η rf_c 39 [a.toInt] [.ref x, .int a] (by decide) c1 c2 rfc_self ⟨by rw [← hA.1.1]; rfl, z1_w a α⟩ rfl ⟨⟨wB_w c3, ⟨z32i a, trivial⟩, fun f w => nomatch w⟩, trivial⟩
  have fm : zFm zMgs_strike η η' := g6.2.2.2.1
  have g8 : y = (yv_sk a.toInt η).1 ∧ η' = (yv_sk a.toInt η).2 := g8
  exact ⟨n, v, h', y, g1, sl_c hM hA g4 ⟨c1, g3, ⟨g6.1.1, zGk_fm gk_c c3.2 fm (by decide +kernel)⟩, zGk_fm gk_r c4 fm (by decide +kernel)⟩ rfl (fun r c hr => ⟨r, c, hr, rfl⟩) ⟨η, hp, b9, g8.1, g8.2⟩, g5, g4.1⟩
theorem cm_strike {ro : Nat → List Int32} {x m o : Nat} {h : List sm_C} {a : Int32} {y1 : Int} (S : SL (PX_w (fun s => yv_sk a.toInt s) y1) x m o h) : RT ro 208 [.ref m, .int a] 1 x m o h (fun y η θ => PB_w η θ ∧ y = y1) := by
  obtain ⟨α, η, β, θ, hC, ⟨c1, c2, c3, c4⟩, hA, e0, hp, e9, e1, e2⟩ := S
  have b9 : (0 : Int) ≤ θ 0 74 ∧ θ 0 74 ≤ 24 := wf_ok (a := 74) (b := 74) (z := (0, 24)) c3 (by decide +kernel) (Nat.le_refl _) (Nat.le_refl _)
  have b12 : (0 : Int) ≤ θ 0 12 ∧ θ 0 12 ≤ 12 := wf_ok (a := 12) (b := 12) (z := (0, 12)) c3 (by decide +kernel) (Nat.le_refl _) (Nat.le_refl _)
  obtain ⟨n, v, h', y, η', g1, g3, g4, g5, g6, _, g8⟩ := zhs_strike β h θ rf_m 39 [a.toInt] [.ref m, .int a] (by decide) c1 c2 rfm_self ⟨by rw [← hA.1.2]; rfl, z1_w a β⟩ rfl ⟨⟨c3, ⟨z32i a, trivial⟩, fun f w => nomatch w⟩, trivial⟩
  have fm : zFm zMhs_strike θ η' := g6.2.2.2.1
  have g8 : y = (yw_sk a.toInt (zup θ 0 2 0)).1 ∧ η' = (yw_sk a.toInt (zup θ 0 2 0)).2 := g8
  exact ⟨n, v, h', y, g1, sl_m hC hA g4 ⟨c1, g3, g6.1, ⟨zGk_fm gk_k c4.1.1 fm (by decide +kernel), zGk_fm tk_l c4.1.2.1 fm (by decide +kernel), zGk_fm plk_n c4.1.2.2 fm (by decide +kernel)⟩, zGk_fm uk_w c4.2.1 fm (by decide +kernel), (by rw [g8.2]; exact vt_sk (vz_2 c4.2.2) b9)⟩ (by
    have q := sk_e (k := a.toInt) (pb_z (x := 0) (r := 0) (j := 2) hp (by decide)) e9
    rw [g8.2, e2]
    exact ⟨q.1, by rw [g8.1, e1]; exact q.2⟩), g5, g4.1⟩
theorem cc_known {ro : Nat → List Int32} {x m o : Nat} {h : List sm_C} (S : SL PB_w x m o h) (a : Int32) : RT ro 106 [.ref x, .int a] 2 x m o h (PX_w (fun s => yv_kn a.toInt s)) := by
  obtain ⟨α, η, β, θ, ⟨c1, c2, c3, c4⟩, hM, hA, hp⟩ := S
  have b9 : (0 : Int) ≤ η 95 0 ∧ η 95 0 ≤ 24 := wf_ok (a := 0) (b := 0) (z := (0, 24)) c3 (by decide +kernel) (Nat.le_refl _) (Nat.le_refl _)
  obtain ⟨n, v, h', y, η', g1, g3, g4, g5, g6, _, g8⟩ := zgs_known α h η rf_c 39 [a.toInt] [.ref x, .int a] (by decide) c1 c2 rfc_self ⟨by rw [← hA.1.1]; rfl, z1_w a α⟩ rfl ⟨⟨wB_w c3, ⟨z32i a, trivial⟩, fun f w => nomatch w⟩, trivial⟩
  have fm : zFm zMgs_known η η' := g6.2.2.2.1
  have g8 : y = (yv_kn a.toInt η).1 ∧ η' = (yv_kn a.toInt η).2 := g8
  exact ⟨n, v, h', y, g1, sl_c hM hA g4 ⟨c1, g3, ⟨g6.1.1, zGk_fm gk_c c3.2 fm (by decide +kernel)⟩, zGk_fm gk_r c4 fm (by decide +kernel)⟩ rfl (fun r c hr => ⟨r, c, hr, rfl⟩) ⟨η, hp, b9, g8.1, g8.2⟩, g5, g4.1⟩
theorem cm_known {ro : Nat → List Int32} {x m o : Nat} {h : List sm_C} {a : Int32} {y1 : Int} (S : SL (PX_w (fun s => yv_kn a.toInt s) y1) x m o h) : RT ro 209 [.ref m, .int a] 2 x m o h (fun y η θ => PB_w η θ ∧ y = y1) := by
  obtain ⟨α, η, β, θ, hC, ⟨c1, c2, c3, c4⟩, hA, e0, hp, e9, e1, e2⟩ := S
  have b9 : (0 : Int) ≤ θ 0 74 ∧ θ 0 74 ≤ 24 := wf_ok (a := 74) (b := 74) (z := (0, 24)) c3 (by decide +kernel) (Nat.le_refl _) (Nat.le_refl _)
  have b12 : (0 : Int) ≤ θ 0 12 ∧ θ 0 12 ≤ 12 := wf_ok (a := 12) (b := 12) (z := (0, 12)) c3 (by decide +kernel) (Nat.le_refl _) (Nat.le_refl _)
  obtain ⟨n, v, h', y, η', g1, g3, g4, g5, g6, _, g8⟩ := zhs_known β h θ rf_m 39 [a.toInt] [.ref m, .int a] (by decide) c1 c2 rfm_self ⟨by rw [← hA.1.2]; rfl, z1_w a β⟩ rfl ⟨⟨c3, ⟨z32i a, trivial⟩, fun f w => nomatch w⟩, trivial⟩
  have fm : zFm zMhs_known θ η' := g6.2.2.2.1
  have g8 : y = (yw_kn a.toInt (zup θ 0 2 0)).1 ∧ η' = (yw_kn a.toInt (zup θ 0 2 0)).2 := g8
  exact ⟨n, v, h', y, g1, sl_m hC hA g4 ⟨c1, g3, g6.1, ⟨zGk_fm gk_k c4.1.1 fm (by decide +kernel), zGk_fm tk_l c4.1.2.1 fm (by decide +kernel), zGk_fm plk_n c4.1.2.2 fm (by decide +kernel)⟩, zGk_fm uk_w c4.2.1 fm (by decide +kernel), zGk_fm vk_w c4.2.2 fm (by decide +kernel)⟩ (by
    have q := kn_e (n := a.toInt) (pb_z (x := 0) (r := 0) (j := 2) hp (by decide))
    rw [g8.2, e2]
    exact ⟨q.1, by rw [g8.1, e1]; exact q.2⟩), g5, g4.1⟩
