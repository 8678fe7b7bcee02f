theorem cc_text {ro : Nat → List Int32} (hro : ro 2 = [0, 1, 2, 3, 4, 4, 4, 4, 4, 4, 5, 5, 6, 6]) {x m o : Nat} {n1 n2 : Int} {h : List sm_C} (S : SL x m o n1 n2 h) (a : Int32) : RT ro 66 [.ref x, .int a] 1 x m o h (fun _ p q => X_w a.toInt n1 p ∧ q = n2) := by
  obtain ⟨α, η, β, θ, ⟨c1, c2, c3, c4⟩, hM, hA, e1, e2⟩ := S
  obtain ⟨n, v, h', y, η', j, rt, g1, g2, g3, g4, g5, g6, g7⟩ := zq_text hro α h η rf_c 39 [a.toInt] [.ref x, .int a] (by decide) c1 c2 rfc_self (by decide +kernel) ⟨by rw [← hA.1.1]; rfl, z1_w a α⟩ rfl ⟨⟨wB_w c3, ⟨z32i a, trivial⟩, fun f w => nomatch w⟩, c3.2, c4⟩
  match j, g2, g6, g7 with
  | 0, g2, g6, g7 =>
    cases g2
    have g6 : sQ wl_q zTr _ zMq_text [a.toInt] η y η' := g6
    obtain ⟨w1, w2, w3⟩ := g7
    exact ⟨n, v, h', y, _, n2, g1, sl_c hM hA g4 ⟨c1, g3, ⟨g6.1.1, w1⟩, w2⟩ rfl (fun r c hr => ⟨r, c, hr, rfl⟩) rfl e2, g5, g4.1, by rw [← e1]; exact w3, rfl⟩
  | 1, g2, g6, g7 =>
    cases g2
    have g6 : sQ wl_q zTr _ zMq_text [a.toInt] η y η' := g6
    obtain ⟨w1, w2, w3⟩ := g7
    exact ⟨n, v, h', y, η' 0 1, n2, g1, sl_c hM hA g4 (sw_sc c1 g3 g6.1 w1 w2) rfl (fun r c hr => ⟨sw_w r, c, (sw_get hr).1, rfl⟩) rfl e2, g5, g4.1, by rw [← e1]; exact w3, rfl⟩
  | k + 2, g2, _, _ => cases g2
theorem cm_text {ro : Nat → List Int32} {x m o : Nat} {n1 n2 : Int} {h : List sm_C} (S : SL x m o n1 n2 h) (a : Int32) : RT ro 137 [.ref m, .int a] 1 x m o h (fun _ p q => p = n1 ∧ X_w a.toInt n2 q) := by
  obtain ⟨α, η, β, θ, hC, ⟨c1, c2, c3, c4⟩, hA, e1, e2⟩ := S
  obtain ⟨n, v, h', y, η', g1, g3, g4, g5, g6, g7⟩ := zn_text β h θ rf_m 39 [a.toInt] [.ref m, .int a] (by decide) c1 c2 rfm_self ⟨by rw [← hA.1.2]; rfl, z1_w a β⟩ rfl ⟨⟨c3, ⟨z32i a, trivial⟩, fun f w => nomatch w⟩, c4.1⟩
  have fm := g6.2.2.2.1
  obtain ⟨w1, w2, w3⟩ := g7
  refine ⟨n, v, h', y, n1, _, g1, sl_m hC hA g4 ⟨c1, g3, g6.1, w1, zGk_fm uk_w c4.2.1 fm (by decide +kernel), zGk_fm vk_w c4.2.2 fm (by decide +kernel)⟩ e1 rfl, g5, g4.1, rfl, ?_⟩
  rw [← e2]
  exact ⟨fun q => w3 (fun z => by rcases q with q | q <;> have z1 : 0 ≤ a.toInt ∧ a.toInt ≤ θ 0 1 := z <;> omega), fun p q => w2 ⟨p, q⟩⟩
theorem cc_feed {ro : Nat → List Int32} {x m o : Nat} {n1 n2 : Int} {h : List sm_C} (S : SL x m o n1 n2 h) (a b c d e : Int32) : RT ro 64 [.ref x, .int a, .int b, .int c, .int d, .int e] 1 x m o h (fun y p q => F_w n1 y p ∧ q = n2) := by
  obtain ⟨α, η, β, θ, ⟨c1, c2, c3, c4⟩, hM, hA, e1, e2⟩ := S
  obtain ⟨n, v, h', y, η', g1, g3, g4, g5, g6, g7⟩ := zg_feed α h η rf_c 39 [a.toInt, b.toInt, c.toInt, d.toInt, e.toInt] [.ref x, .int a, .int b, .int c, .int d, .int e] (by decide) c1 c2 rfc_self ⟨by rw [← hA.1.1]; rfl, z5_w a b c d e α⟩ rfl ⟨⟨wB_w c3, ⟨z32i a, z32i b, z32i c, z32i d, z32i e, trivial⟩, fun f w => nomatch w⟩, trivial⟩
  have fm := g6.2.2.2.1
  exact ⟨n, v, h', y, _, n2, g1, sl_c hM hA g4 ⟨c1, g3, ⟨g6.1.1, zGk_fm gk_c c3.2 fm (by decide +kernel)⟩, zGk_fm gk_r c4 fm (by decide +kernel)⟩ rfl (fun r c hr => ⟨r, c, hr, rfl⟩) rfl e2, g5, g4.1, by rw [← e1]; exact g7, rfl⟩
theorem cm_feed {ro : Nat → List Int32} {x m o : Nat} {n1 n2 : Int} {h : List sm_C} (S : SL x m o n1 n2 h) (a b c d e : Int32) : RT ro 116 [.ref m, .int a, .int b, .int c, .int d, .int e] 1 x m o h (fun y p q => p = n1 ∧ F_w n2 y q) := by
  obtain ⟨α, η, β, θ, hC, ⟨c1, c2, c3, c4⟩, hA, e1, e2⟩ := S
  obtain ⟨n, v, h', y, η', g1, g3, g4, g5, g6, g7⟩ := zh_feed β h θ rf_m 39 [a.toInt, b.toInt, c.toInt, d.toInt, e.toInt] [.ref m, .int a, .int b, .int c, .int d, .int e] (by decide) c1 c2 rfm_self ⟨by rw [← hA.1.2]; rfl, z5_w a b c d e β⟩ rfl ⟨⟨c3, ⟨z32i a, z32i b, z32i c, z32i d, z32i e, trivial⟩, fun f w => nomatch w⟩, trivial⟩
  have fm := g6.2.2.2.1
  refine ⟨n, v, h', y, n1, _, g1, sl_m hC hA g4 ⟨c1, g3, g6.1, ⟨zGk_fm gk_k c4.1.1 fm (by decide +kernel), zGk_fm tk_l c4.1.2.1 fm (by decide +kernel), zGk_fm plk_n c4.1.2.2 fm (by decide +kernel)⟩, zGk_fm uk_w c4.2.1 fm (by decide +kernel), zGk_fm vk_w c4.2.2 fm (by decide +kernel)⟩ e1 rfl, g5, g4.1, rfl, ?_⟩
  rw [← e2]
  exact g7
