theorem dX7_groove_0 : decode cX7_groove 0 = .ok (.aload_n 0, 1) := by decide +kernel
theorem dX7_groove_1 : decode cX7_groove 1 = .ok (.iload_n 1, 1) := by decide +kernel
theorem dX7_groove_2 : decode cX7_groove 2 = .ok (.invokevirtual 125, 3) := by decide +kernel
theorem dX7_groove_5 : decode cX7_groove 5 = .ok (.ifCond .ne 13, 3) := by decide +kernel
theorem dX7_groove_8 : decode cX7_groove 8 = .ok (.new 129, 3) := by decide +kernel
theorem dX7_groove_11 : decode cX7_groove 11 = .ok (.dup, 1) := by decide +kernel
theorem dX7_groove_12 : decode cX7_groove 12 = .ok (.ldc 131, 2) := by decide +kernel
theorem dX7_groove_14 : decode cX7_groove 14 = .ok (.invokespecial 133, 3) := by decide +kernel
theorem dX7_groove_17 : decode cX7_groove 17 = .ok (.athrow, 1) := by decide +kernel
theorem dX7_groove_18 : decode cX7_groove 18 = .ok (.iload_n 2, 1) := by decide +kernel
theorem dX7_groove_19 : decode cX7_groove 19 = .ok (.tableswitch 69 0 3 #[29, 39, 49, 59], 29) := by decide +kernel
theorem dX7_groove_88 : decode cX7_groove 88 = .ok (.new 148, 3) := by decide +kernel
theorem dX7_groove_91 : decode cX7_groove 91 = .ok (.dup, 1) := by decide +kernel
theorem dX7_groove_92 : decode cX7_groove 92 = .ok (.ldc 150, 2) := by decide +kernel
theorem dX7_groove_94 : decode cX7_groove 94 = .ok (.invokespecial 152, 3) := by decide +kernel
theorem dX7_groove_97 : decode cX7_groove 97 = .ok (.athrow, 1) := by decide +kernel
theorem dL_groove_0 : decode cL_groove 0 = .ok (.aload_n 3, 1) := by decide +kernel
theorem dL_groove_1 : decode cL_groove 1 = .ok (.iconst 0, 1) := by decide +kernel
theorem dL_groove_2 : decode cL_groove 2 = .ok (.aload_n 0, 1) := by decide +kernel
theorem dL_groove_3 : decode cL_groove 3 = .ok (.iload_n 1, 1) := by decide +kernel
theorem dL_groove_4 : decode cL_groove 4 = .ok (.iload_n 2, 1) := by decide +kernel
theorem dL_groove_5 : decode cL_groove 5 = .ok (.invokevirtual 7, 3) := by decide +kernel
theorem dL_groove_8 : decode cL_groove 8 = .ok (.i2l, 1) := by decide +kernel
theorem dL_groove_9 : decode cL_groove 9 = .ok (.lastore, 1) := by decide +kernel
theorem dL_groove_10 : decode cL_groove 10 = .ok (.goto 11, 3) := by decide +kernel
theorem dL_groove_13 : decode cL_groove 13 = .ok (.astore 4, 2) := by decide +kernel
theorem dL_groove_15 : decode cL_groove 15 = .ok (.iconst 1, 1) := by decide +kernel
theorem dL_groove_16 : decode cL_groove 16 = .ok (.ireturn, 1) := by decide +kernel
theorem dL_groove_17 : decode cL_groove 17 = .ok (.astore 4, 2) := by decide +kernel
theorem dL_groove_19 : decode cL_groove 19 = .ok (.iconst 2, 1) := by decide +kernel
theorem dL_groove_20 : decode cL_groove 20 = .ok (.ireturn, 1) := by decide +kernel
theorem dL_groove_21 : decode cL_groove 21 = .ok (.iconst 0, 1) := by decide +kernel
theorem dL_groove_22 : decode cL_groove 22 = .ok (.ireturn, 1) := by decide +kernel
/-! The class's groove: what its fields say; it throws, or answers; the law's groove catches. -/
def xn : sm_X := fun _ _ _ _ _ => none
theorem sm_nat0 : (0 : Int32).toNatClampNeg = 0 := by decide
theorem xn_ok {l : Launch} {D : va_G} {G : Nat → ClassId} {E : Nat → Nat} {ro : Nat → List Int32} : sm_XOK l D G E ro xn pr_L := by
  intro p e R s m args below meth c Q A Ts own ini cc ml d i dt pc ls ad st st' h h' dc ds H locs cells slots len hX
  cases hX
theorem fd_inv {h : List sm_C} {a ci k : Nat} {v : Value} (hf : sm_fd h a ci k = some v) : ∃ q, h[a]? = some q ∧ q.1 = ci ∧ q.2[k]? = some v := by
  unfold sm_fd at hf
  split at hf
  · next q hq =>
    split at hf
    · next h1 => exact ⟨q, hq, h1, hf⟩
    · cases hf
  · cases hf
theorem gf_w {h : List sm_C} {a ci k t pc : Nat} {v : Value} {r : List Value} (hf : sm_fd h a ci k = some v) (hc : Nat.ble (ci + 1) 100 = true) : sm_gf [ci, k, t] pc (.ref a :: r) h = some (pc + 3, v :: r, h) := by
  obtain ⟨q, h1, h2, h3⟩ := fd_inv hf
  have hc := Nat.ble_eq.mp hc
  unfold sm_gf
  dsimp only
  rw [h1]
  dsimp only
  rw [if_pos ⟨h2, by omega⟩, h3]
theorem sm_g0_inv {x : Nat} {h : List sm_C} (hg : sm_g0 x h = true) : ∃ (y : Nat), sm_fd h x 7 4 = some (.ref y) ∧ sm_fd h y 4 1 = some (.int 0) := by
  unfold sm_g0 at hg
  split at hg
  · next q hq =>
    split at hg
    · next y h4 =>
      split at hg
      · next p hp =>
        obtain ⟨a, b, c⟩ := of_decide_eq_true hg
        refine ⟨y, ?_, ?_⟩
        · unfold sm_fd
          rw [hq]
          dsimp only
          rw [if_pos a, h4]
        · unfold sm_fd
          rw [hp]
          dsimp only
          rw [if_pos b, c]
      · cases hg
    · cases hg
  · cases hg
/-- is it a groove: 0 or 1 -/
theorem gr_is {ro : Nat → List Int32} {x y : Nat} {n p0 : Int32} {h : List sm_C} (hx : sm_fd h x 7 4 = some (.ref y)) (hn : sm_fd h y 4 1 = some (.int n)) : ∃ k, sx pr_P pr_K pr_df ro xn k 0 72 0 (lv_args 0 [.ref x, .int p0]) [] h 0 0 = some (some (.int (if p0 < 0 ∨ n ≤ p0 then 0 else 1)), h, 0, 0) := by
  have hM := pgX7_isGroove
  have last : ∀ z : Int32, z = 0 ∨ z = 1 → ev pr_P pr_K pr_df ro xn 0 72 20 [(0, .ref x), (1, .int p0)] [.int z] h 0 0 (fun v h' c s => v = some (.int z) ∧ h' = h ∧ c = 0 ∧ s = 0) := fun z hz => ev_ret hM (i := .ireturn) (len := 1) (dt := []) rfl (v := some (.int z)) (show sm_ret (some .boolean) .ireturn [.int z] = some (some (.int z)) by unfold sm_ret; dsimp only; rw [if_pos (Or.inr ⟨rfl, hz⟩)]) ⟨rfl, rfl, rfl, rfl⟩
  have no : ev pr_P pr_K pr_df ro xn 0 72 19 [(0, .ref x), (1, .int p0)] [] h 0 0 (fun v h' c s => v = some (.int 0) ∧ h' = h ∧ c = 0 ∧ s = 0) := ev_lo (pc' := 20) (lv' := [(0, .ref x), (1, .int p0)]) (st' := [.int 0]) hM (i := .iconst 0) (len := 1) (dt := []) rfl rfl (last 0 (Or.inl rfl))
  have yes : ev pr_P pr_K pr_df ro xn 0 72 15 [(0, .ref x), (1, .int p0)] [] h 0 0 (fun v h' c s => v = some (.int 1) ∧ h' = h ∧ c = 0 ∧ s = 0) := ev_lo (pc' := 16) (lv' := [(0, .ref x), (1, .int p0)]) (st' := [.int 1]) hM (i := .iconst 1) (len := 1) (dt := []) rfl rfl (ev_lo (pc' := 20) (lv' := [(0, .ref x), (1, .int p0)]) (st' := [.int 1]) hM (i := .goto 4) (len := 3) (dt := []) rfl rfl (last 1 (Or.inr rfl)))
  have whole : ev pr_P pr_K pr_df ro xn 0 72 0 [(0, .ref x), (1, .int p0)] [] h 0 0 (fun v h' c s => v = some (.int (if p0 < 0 ∨ n ≤ p0 then 0 else 1)) ∧ h' = h ∧ c = 0 ∧ s = 0) := by
    refine ev_lo (pc' := 1) (lv' := [(0, .ref x), (1, .int p0)]) (st' := [.int p0]) hM (i := .iload_n ab_f1) (len := 1) (dt := []) rfl rfl ?_
    by_cases q : p0 < 0
    · rw [if_pos (Or.inl q)]
      refine ev_lo (pc' := 19) (lv' := [(0, .ref x), (1, .int p0)]) (st' := []) hM (i := .ifCond .lt 18) (len := 3) (dt := []) rfl ?_ no
      show sm_if .lt 1 18 [(0, .ref x), (1, .int p0)] [.int p0] = _
      unfold sm_if
      dsimp only
      rw [if_pos (by decide), if_pos (show sm_cd .lt p0 0 = true from decide_eq_true q)]
      rfl
    · refine ev_lo (pc' := 4) (lv' := [(0, .ref x), (1, .int p0)]) (st' := []) hM (i := .ifCond .lt 18) (len := 3) (dt := []) rfl ?_ ?_
      · show sm_if .lt 1 18 [(0, .ref x), (1, .int p0)] [.int p0] = _
        unfold sm_if
        dsimp only
        rw [if_pos (by decide), if_neg (show ¬ sm_cd .lt p0 0 = true from fun w => q (of_decide_eq_true w))]
      refine ev_lo (pc' := 5) (lv' := [(0, .ref x), (1, .int p0)]) (st' := [.int p0]) hM (i := .iload_n ab_f1) (len := 1) (dt := []) rfl rfl ?_
      refine ev_lo (pc' := 6) (lv' := [(0, .ref x), (1, .int p0)]) (st' := [.ref x, .int p0]) hM (i := .aload_n ab_f0) (len := 1) (dt := []) rfl rfl ?_
      refine ev_hp (pc' := 9) (st' := [.ref y, .int p0]) (h1 := h) hM (i := .getfield 28) (len := 3) (dt := [7, 4, 3]) rfl (gf_w (t := 3) hx rfl) ?_
      refine ev_hp (pc' := 12) (st' := [.int n, .int p0]) (h1 := h) hM (i := .getfield 196) (len := 3) (dt := [4, 1, 0]) rfl (gf_w (t := 0) hn rfl) ?_
      by_cases q2 : n ≤ p0
      · rw [if_pos (Or.inr q2)]
        refine ev_lo (pc' := 19) (lv' := [(0, .ref x), (1, .int p0)]) (st' := []) hM (i := .if_icmp .ge 7) (len := 3) (dt := []) rfl ?_ no
        show sm_ic .ge 12 7 [(0, .ref x), (1, .int p0)] [.int n, .int p0] = _
        unfold sm_ic
        dsimp only
        rw [if_pos (by decide), if_pos (show sm_cd .ge p0 n = true from decide_eq_true q2)]
        rfl
      · rw [if_neg (fun w => w.elim q q2)]
        refine ev_lo (pc' := 15) (lv' := [(0, .ref x), (1, .int p0)]) (st' := []) hM (i := .if_icmp .ge 7) (len := 3) (dt := []) rfl ?_ yes
        show sm_ic .ge 12 7 [(0, .ref x), (1, .int p0)] [.int n, .int p0] = _
        unfold sm_ic
        dsimp only
        rw [if_pos (by decide), if_neg (show ¬ sm_cd .ge p0 n = true from fun w => q2 (of_decide_eq_true w))]
  obtain ⟨k, v, h', c', s', a, b, c, d, e⟩ := whole
  subst b; subst c; subst d; subst e
  exact ⟨k, a⟩

/-- the answer -/
theorem gr_an {ro : Nat → List Int32} {x y z q : Nat} {n p0 p1 : Int32} {vs : List Value} {h : List sm_C} (hx : sm_fd h x 7 4 = some (.ref y)) (hz : sm_fd h x 7 7 = some (.ref z)) (hn : sm_fd h y 4 1 = some (.int n)) (h0 : ¬ (p0 < 0 ∨ n ≤ p0)) (h1 : ¬ (p1 < 0 ∨ 3 < p1)) (hw : sm_gw h y z p1 = some (.ref q)) (hq : h[q]? = some (100, vs)) (hl : p0.toNatClampNeg < vs.length) : ∃ k, sx pr_P pr_K pr_df ro xn k 1 222 0 (lv_args 0 [.ref x, .int p0, .int p1]) [] h 0 0 = some (some (.int (sm_ival (vs.getD p0.toNatClampNeg .null))), h, 0, 0) := by
  have hM := pgX7_groove
  obtain ⟨k1, hk1⟩ := gr_is (ro := ro) (p0 := p0) hx hn
  rw [if_neg h0] at hk1
  have hi : ¬ (p0 < 0 ∨ vs.length ≤ p0.toNatClampNeg) := fun w => by
    rcases w with w | w
    · exact h0 (Or.inl w)
    · omega
  obtain ⟨L, hL⟩ : ∃ L : sm_L, L = [(0, .ref x), (1, .int p0), (2, .int p1)] := ⟨_, rfl⟩
  have body : ev pr_P pr_K pr_df ro xn 1 222 18 L [] h 0 0 (fun v h' c s => v = some (.int (sm_ival (vs.getD p0.toNatClampNeg .null))) ∧ h' = h ∧ c = 0 ∧ s = 0) := by
    subst hL
    refine ev_lo (pc' := 19) (lv' := [(0, .ref x), (1, .int p0), (2, .int p1)]) (st' := [.int p1]) hM (i := .iload_n ab_f2) (len := 1) (dt := []) rfl rfl ?_
    have b0 : (0 : Int) ≤ p1.toInt := by
      have := Int32.not_lt.mp (fun w => h1 (Or.inl w))
      rw [Int32.le_iff_toInt_le] at this
      exact this
    have b1 : p1.toInt ≤ 3 := by
      have := Int32.not_lt.mp (fun w => h1 (Or.inr w))
      rw [Int32.le_iff_toInt_le] at this
      exact this
    have e1 : p1 = 0 ∨ p1 = 1 ∨ p1 = 2 ∨ p1 = 3 := by
      have : p1.toInt = 0 ∨ p1.toInt = 1 ∨ p1.toInt = 2 ∨ p1.toInt = 3 := by omega
      rcases this with w | w | w | w
      · exact Or.inl (Int32.toInt_inj.mp w)
      · exact Or.inr (Or.inl (Int32.toInt_inj.mp w))
      · exact Or.inr (Or.inr (Or.inl (Int32.toInt_inj.mp w)))
      · exact Or.inr (Or.inr (Or.inr (Int32.toInt_inj.mp w)))
    generalize hLL : [((0 : Nat), Value.ref x), (1, .int p0), (2, .int p1)] = L
    rcases e1 with rfl | rfl | rfl | rfl
    · subst hLL
      refine ev_lo (pc' := 48) (lv' := [(0, .ref x), (1, .int p0), (2, .int 0)]) (st' := []) hM (i := .tableswitch 69 0 3 ⟨[29, 39, 49, 59]⟩) (len := 29) (dt := []) rfl rfl ?_
      have hw : sm_fd h y 4 8 = some (.ref q) := hw
      refine ev_lo (pc' := 49) (lv' := [(0, .ref x), (1, .int p0), (2, .int 0)]) (st' := [.ref x]) hM (i := .aload_n ab_f0) (len := 1) (dt := []) rfl rfl ?_
      refine ev_hp (pc' := 52) (st' := [.ref y]) (h1 := h) hM (i := .getfield 28) (len := 3) (dt := [7, 4, 3]) rfl (gf_w (t := 3) hx rfl) ?_
      refine ev_hp (pc' := 55) (st' := [.ref q]) (h1 := h) hM (i := .getfield 136) (len := 3) (dt := [4, 8, 3]) rfl (gf_w (t := 3) hw rfl) ?_
      refine ev_lo (pc' := 56) (lv' := [(0, .ref x), (1, .int p0), (2, .int 0)]) (st' := [.int p0, .ref q]) hM (i := .iload_n ab_f1) (len := 1) (dt := []) rfl rfl ?_
      refine ev_hp (pc' := 57) (st' := [.int (sm_ival (vs.getD p0.toNatClampNeg .null))]) (h1 := h) hM (i := .iaload) (len := 1) (dt := []) rfl ?_ ?_
      · show sm_il [100] ro 56 [.int p0, .ref q] h = _
        unfold sm_il
        dsimp only
        rw [hq]
        dsimp only
        rw [if_pos ⟨List.mem_cons_self, hi⟩]
      exact ev_ret hM (i := .ireturn) (len := 1) (dt := []) rfl (v := some (.int (sm_ival (vs.getD p0.toNatClampNeg .null)))) (show sm_ret (some .int) .ireturn [.int (sm_ival (vs.getD p0.toNatClampNeg .null))] = some (some (.int (sm_ival (vs.getD p0.toNatClampNeg .null)))) by unfold sm_ret; dsimp only; rw [if_pos (Or.inl rfl)]) ⟨rfl, rfl, rfl, rfl⟩
    · subst hLL
      refine ev_lo (pc' := 58) (lv' := [(0, .ref x), (1, .int p0), (2, .int 1)]) (st' := []) hM (i := .tableswitch 69 0 3 ⟨[29, 39, 49, 59]⟩) (len := 29) (dt := []) rfl rfl ?_
      have hw : sm_fd h y 4 9 = some (.ref q) := hw
      refine ev_lo (pc' := 59) (lv' := [(0, .ref x), (1, .int p0), (2, .int 1)]) (st' := [.ref x]) hM (i := .aload_n ab_f0) (len := 1) (dt := []) rfl rfl ?_
      refine ev_hp (pc' := 62) (st' := [.ref y]) (h1 := h) hM (i := .getfield 28) (len := 3) (dt := [7, 4, 3]) rfl (gf_w (t := 3) hx rfl) ?_
      refine ev_hp (pc' := 65) (st' := [.ref q]) (h1 := h) hM (i := .getfield 139) (len := 3) (dt := [4, 9, 3]) rfl (gf_w (t := 3) hw rfl) ?_
      refine ev_lo (pc' := 66) (lv' := [(0, .ref x), (1, .int p0), (2, .int 1)]) (st' := [.int p0, .ref q]) hM (i := .iload_n ab_f1) (len := 1) (dt := []) rfl rfl ?_
      refine ev_hp (pc' := 67) (st' := [.int (sm_ival (vs.getD p0.toNatClampNeg .null))]) (h1 := h) hM (i := .iaload) (len := 1) (dt := []) rfl ?_ ?_
      · show sm_il [100] ro 66 [.int p0, .ref q] h = _
        unfold sm_il
        dsimp only
        rw [hq]
        dsimp only
        rw [if_pos ⟨List.mem_cons_self, hi⟩]
      exact ev_ret hM (i := .ireturn) (len := 1) (dt := []) rfl (v := some (.int (sm_ival (vs.getD p0.toNatClampNeg .null)))) (show sm_ret (some .int) .ireturn [.int (sm_ival (vs.getD p0.toNatClampNeg .null))] = some (some (.int (sm_ival (vs.getD p0.toNatClampNeg .null)))) by unfold sm_ret; dsimp only; rw [if_pos (Or.inl rfl)]) ⟨rfl, rfl, rfl, rfl⟩
    · subst hLL
      refine ev_lo (pc' := 68) (lv' := [(0, .ref x), (1, .int p0), (2, .int 2)]) (st' := []) hM (i := .tableswitch 69 0 3 ⟨[29, 39, 49, 59]⟩) (len := 29) (dt := []) rfl rfl ?_
      have hw : sm_fd h z 1 8 = some (.ref q) := hw
      refine ev_lo (pc' := 69) (lv' := [(0, .ref x), (1, .int p0), (2, .int 2)]) (st' := [.ref x]) hM (i := .aload_n ab_f0) (len := 1) (dt := []) rfl rfl ?_
      refine ev_hp (pc' := 72) (st' := [.ref z]) (h1 := h) hM (i := .getfield 47) (len := 3) (dt := [7, 7, 3]) rfl (gf_w (t := 3) hz rfl) ?_
      refine ev_hp (pc' := 75) (st' := [.ref q]) (h1 := h) hM (i := .getfield 142) (len := 3) (dt := [1, 8, 3]) rfl (gf_w (t := 3) hw rfl) ?_
      refine ev_lo (pc' := 76) (lv' := [(0, .ref x), (1, .int p0), (2, .int 2)]) (st' := [.int p0, .ref q]) hM (i := .iload_n ab_f1) (len := 1) (dt := []) rfl rfl ?_
      refine ev_hp (pc' := 77) (st' := [.int (sm_ival (vs.getD p0.toNatClampNeg .null))]) (h1 := h) hM (i := .iaload) (len := 1) (dt := []) rfl ?_ ?_
      · show sm_il [100] ro 76 [.int p0, .ref q] h = _
        unfold sm_il
        dsimp only
        rw [hq]
        dsimp only
        rw [if_pos ⟨List.mem_cons_self, hi⟩]
      exact ev_ret hM (i := .ireturn) (len := 1) (dt := []) rfl (v := some (.int (sm_ival (vs.getD p0.toNatClampNeg .null)))) (show sm_ret (some .int) .ireturn [.int (sm_ival (vs.getD p0.toNatClampNeg .null))] = some (some (.int (sm_ival (vs.getD p0.toNatClampNeg .null)))) by unfold sm_ret; dsimp only; rw [if_pos (Or.inl rfl)]) ⟨rfl, rfl, rfl, rfl⟩
    · subst hLL
      refine ev_lo (pc' := 78) (lv' := [(0, .ref x), (1, .int p0), (2, .int 3)]) (st' := []) hM (i := .tableswitch 69 0 3 ⟨[29, 39, 49, 59]⟩) (len := 29) (dt := []) rfl rfl ?_
      have hw : sm_fd h y 4 10 = some (.ref q) := hw
      refine ev_lo (pc' := 79) (lv' := [(0, .ref x), (1, .int p0), (2, .int 3)]) (st' := [.ref x]) hM (i := .aload_n ab_f0) (len := 1) (dt := []) rfl rfl ?_
      refine ev_hp (pc' := 82) (st' := [.ref y]) (h1 := h) hM (i := .getfield 28) (len := 3) (dt := [7, 4, 3]) rfl (gf_w (t := 3) hx rfl) ?_
      refine ev_hp (pc' := 85) (st' := [.ref q]) (h1 := h) hM (i := .getfield 145) (len := 3) (dt := [4, 10, 3]) rfl (gf_w (t := 3) hw rfl) ?_
      refine ev_lo (pc' := 86) (lv' := [(0, .ref x), (1, .int p0), (2, .int 3)]) (st' := [.int p0, .ref q]) hM (i := .iload_n ab_f1) (len := 1) (dt := []) rfl rfl ?_
      refine ev_hp (pc' := 87) (st' := [.int (sm_ival (vs.getD p0.toNatClampNeg .null))]) (h1 := h) hM (i := .iaload) (len := 1) (dt := []) rfl ?_ ?_
      · show sm_il [100] ro 86 [.int p0, .ref q] h = _
        unfold sm_il
        dsimp only
        rw [hq]
        dsimp only
        rw [if_pos ⟨List.mem_cons_self, hi⟩]
      exact ev_ret hM (i := .ireturn) (len := 1) (dt := []) rfl (v := some (.int (sm_ival (vs.getD p0.toNatClampNeg .null)))) (show sm_ret (some .int) .ireturn [.int (sm_ival (vs.getD p0.toNatClampNeg .null))] = some (some (.int (sm_ival (vs.getD p0.toNatClampNeg .null)))) by unfold sm_ret; dsimp only; rw [if_pos (Or.inl rfl)]) ⟨rfl, rfl, rfl, rfl⟩
  have whole : ev pr_P pr_K pr_df ro xn 1 222 0 L [] h 0 0 (fun v h' c s => v = some (.int (sm_ival (vs.getD p0.toNatClampNeg .null))) ∧ h' = h ∧ c = 0 ∧ s = 0) := by
    obtain ⟨qx, g1, g2, g3⟩ := fd_inv hx
    have hcl : sm_cl pr_P (.invokevirtual 125) [72] [.int p0, .ref x] h = some (72, (yX7_isGroove, cX7_isGroove, 2, some .boolean, 1, 1, 7), [.ref x, .int p0], []) := by
      unfold sm_cl
      dsimp only
      rw [pgX7_isGroove]
      show (match h[x]? with
        | some q => if (1 : Nat) = 1 ∧ q.1 = 7 ∧ q.1 < 100 then _ else _
        | none => _) = _
      rw [g1]
      dsimp only
      rw [if_pos ⟨rfl, g2, by omega⟩]
      rfl
    have b2 := body
    subst hL
    refine ev_lo (pc' := 1) (lv' := [(0, .ref x), (1, .int p0), (2, .int p1)]) (st' := [.ref x]) hM (i := .aload_n ab_f0) (len := 1) (dt := []) rfl rfl ?_
    refine ev_lo (pc' := 2) (lv' := [(0, .ref x), (1, .int p0), (2, .int p1)]) (st' := [.int p0, .ref x]) hM (i := .iload_n ab_f1) (len := 1) (dt := []) rfl rfl ?_
    refine ev_callz (d := 0) (r := []) hM (i := .invokevirtual 125) (len := 3) (dt := [72]) rfl rfl rfl hcl ⟨by decide, Nat.le_of_ble_eq_true rfl, by decide⟩ hk1 rfl ?_
    refine ev_lo (pc' := 18) (lv' := [(0, .ref x), (1, .int p0), (2, .int p1)]) (st' := []) hM (i := .ifCond .ne 13) (len := 3) (dt := []) rfl rfl b2
  obtain ⟨k, v, h', c', s', a, b, c, d, e⟩ := whole
  subst b; subst c; subst d; subst e; subst hL
  exact ⟨k, a⟩

