/-! The law's loop. -/
theorem and63 (a : Int32) : ∃ n : Nat, n < 64 ∧ a &&& 63 = Int32.ofNat n := by
  refine ⟨(a.toBitVec &&& 63#32).toNat, ?_, ?_⟩
  · rw [BitVec.toNat_and]
    exact Nat.lt_of_le_of_lt Nat.and_le_right (by decide)
  · apply Int32.toBitVec_inj.mp
    show a.toBitVec &&& 63#32 = BitVec.ofNat 32 (a.toBitVec &&& 63#32).toNat
    rw [BitVec.ofNat_toNat, BitVec.setWidth_eq]
theorem b6_w : (Int8.ofInt 6).toInt32 = Int32.ofInt 6 := by decide
theorem b63_w : (Int8.ofInt 63).toInt32 = (63 : Int32) := by decide
section LWL
variable {ro : Nat → List Int32} {lv : sm_L} {x m o : Nat} {i : Int32} {h : List sm_C} {c s : Nat} {F : ev_F}
def tb_w (pc : Nat) (d lo hi : Int) (offs : List Int) (z : Int) : Option Nat := if z < lo ∨ hi < z then (if 0 ≤ (pc : Int) + d then some ((pc : Int) + d).toNat else none) else match offs[(z - lo).toNat]? with
  | some off => if 0 ≤ (pc : Int) + off then some ((pc : Int) + off).toNat else none
  | none => none
theorem lw_sw {pc n : Nat} {d lo hi : Int} {offs : List Int} {a : Int32} (hk : pr_K 0 pc = some (.tableswitch d lo hi ⟨offs⟩, 172, [])) (hn : tb_w pc d lo hi offs a.toInt = some n) (hF : EV ro n lv [] h c s F) : EV ro pc lv [.int a] h c s F := by
  refine ev_lo (pc' := n) (lv' := lv) (st' := []) lw_M hk ?_ hF
  show sm_tb pc d lo hi ⟨offs⟩ lv [.int a] = _
  unfold sm_tb
  dsimp only
  unfold tb_w at hn
  split
  · next q =>
    rw [if_pos q] at hn
    unfold sm_jp
    split at hn
    · next q2 =>
      rw [if_pos q2]
      cases hn
      rfl
    · cases hn
  · next q =>
    rw [if_neg q] at hn
    rw [show (Array.mk offs)[(a.toInt - lo).toNat]? = offs[(a.toInt - lo).toNat]? from List.getElem?_toArray]
    cases ho : offs[(a.toInt - lo).toNat]? with
    | none =>
      rw [ho] at hn
      cases hn
    | some off =>
      rw [ho] at hn
      dsimp only at hn ⊢
      unfold sm_jp
      split at hn
      · next q2 =>
        rw [if_pos q2]
        cases hn
        rfl
      · cases hn
theorem lw_hd {C D : Nat} (hl : LV lv x m o i) (hA : True → c ≤ C ∧ s ≤ D) (hB : sm_cd .gt i (Int32.ofNat (ro 1).length - (Int8.ofInt 6).toInt32) = false → EV ro 33 lv [] h c s (fun v _ c' s' => v = some (.int 1) ∧ c' ≤ C ∧ s' ≤ D)) : EV ro 23 lv [] h c s (fun v _ c' s' => v = some (.int 1) ∧ c' ≤ C ∧ s' ≤ D) := by
  refine ev_lo (pc' := 25) (lv' := lv) (st' := [.int i]) lw_M (i := .iload 4) (len := 2) (dt := []) rfl (show sm_ldI lv 4 25 [] = some (25, lv, [.int i]) by unfold sm_ldI; rw [hl.2.2.2.2]) ?_
  refine ev_lo (pc' := 26) (lv' := lv) (st' := [.retAddr 1, .int i]) lw_M (i := .aload_n ab_f0) (len := 1) (dt := []) rfl (show sm_ldA lv 0 26 [.int i] = some (26, lv, [.retAddr 1, .int i]) by unfold sm_ldA; rw [hl.1]) ?_
  refine ev_hp (pc' := 27) (st' := [.int (Int32.ofNat (ro 1).length), .int i]) (h1 := h) lw_M (i := .arraylength) (len := 1) (dt := []) rfl ?_ ?_
  · show sm_ln ro 26 [.retAddr 1, .int i] h = _
    unfold sm_ln
    dsimp only
    rw [if_pos (Or.inr rfl)]
  refine ev_lo (pc' := 29) (lv' := lv) (st' := [.int (Int8.ofInt 6).toInt32, .int (Int32.ofNat (ro 1).length), .int i]) lw_M (i := .bipush 6) (len := 2) (dt := []) rfl rfl ?_
  refine ev_lo (pc' := 30) (lv' := lv) (st' := [.int (Int32.ofNat (ro 1).length - (Int8.ofInt 6).toInt32), .int i]) lw_M (i := .isub) (len := 1) (dt := []) rfl rfl ?_
  cases q : sm_cd .gt i (Int32.ofNat (ro 1).length - (Int8.ofInt 6).toInt32) with
  | true =>
    refine ev_lo (pc' := 1428) (lv' := lv) (st' := []) lw_M (i := .if_icmp .gt 1398) (len := 3) (dt := []) rfl ?_ ?_
    · show sm_ic .gt 30 1398 lv [.int (Int32.ofNat (ro 1).length - (Int8.ofInt 6).toInt32), .int i] = _
      unfold sm_ic
      dsimp only
      rw [if_pos (by decide), if_pos q]
      rfl
    refine ev_lo (pc' := 1429) (lv' := lv) (st' := [.int 1]) lw_M (i := .iconst 1) (len := 1) (dt := []) rfl rfl ?_
    exact ev_ret lw_M (i := .ireturn) (len := 1) (dt := []) rfl (v := some (.int 1)) (show sm_ret (some .boolean) .ireturn [.int 1] = some (some (.int 1)) by unfold sm_ret; dsimp only; rw [if_pos (Or.inr ⟨rfl, Or.inr rfl⟩)]) ⟨rfl, hA trivial⟩
  | false =>
    refine ev_lo (pc' := 33) (lv' := lv) (st' := []) lw_M (i := .if_icmp .gt 1398) (len := 3) (dt := []) rfl ?_ (hB q)
    show sm_ic .gt 30 1398 lv [.int (Int32.ofNat (ro 1).length - (Int8.ofInt 6).toInt32), .int i] = _
    unfold sm_ic
    dsimp only
    rw [if_pos (by decide), q]
    rfl
theorem lw_en (hl : LV lv x m o i) (hF : EV ro 23 (sm_s1 lv 4 (.int (i + Int32.ofInt 6))) [] h c s F) : EV ro 1422 lv [] h c s F := by
  refine ev_lo (pc' := 1425) (lv' := sm_s1 lv 4 (.int (i + Int32.ofInt 6))) (st' := []) lw_M (i := .iinc 4 6) (len := 3) (dt := []) rfl ?_ (lw_go rfl (by decide) rfl hF)
  show sm_inc 7 lv 4 1425 6 [] = _
  unfold sm_inc
  rw [hl.2.2.2.2]
  dsimp only
  rw [if_pos (by decide)]
theorem lw_di (hro : ro 2 = [0, 1, 2, 3, 4, 4, 4, 4, 4, 4, 5, 5, 6, 6]) (hl : LV lv x m o i) (hi : ¬ (i < 0 ∨ (ro 1).length ≤ i.toNatClampNeg)) (hx : ∀ j : Int, 0 ≤ j → j ≤ 5 → ix_w ro i j) (S0 : SL PB_w x m o h) (hF : KF ro x m o i c s F) : EV ro 33 lv [] h c s F := by
  refine ev_lo (pc' := 34) (lv' := lv) (st' := [.retAddr 1]) lw_M (i := .aload_n ab_f0) (len := 1) (dt := []) rfl (show sm_ldA lv 0 34 [] = some (34, lv, [.retAddr 1]) by unfold sm_ldA; rw [hl.1]) ?_
  refine ev_lo (pc' := 36) (lv' := lv) (st' := [.int i, .retAddr 1]) lw_M (i := .iload 4) (len := 2) (dt := []) rfl (show sm_ldI lv 4 36 [.retAddr 1] = some (36, lv, [.int i, .retAddr 1]) by unfold sm_ldI; rw [hl.2.2.2.2]) ?_
  refine ev_hp (pc' := 37) (st' := [.int ((ro 1).getD i.toNatClampNeg 0)]) (h1 := h) lw_M (i := .iaload) (len := 1) (dt := []) rfl ?_ ?_
  · show sm_il [100] ro 36 [.int i, .retAddr 1] h = _
    unfold sm_il
    dsimp only
    rw [if_pos ⟨List.mem_cons_self, hi⟩]
  refine ev_lo (pc' := 39) (lv' := lv) (st' := [.int (Int8.ofInt 63).toInt32, .int ((ro 1).getD i.toNatClampNeg 0)]) lw_M (i := .bipush 63) (len := 2) (dt := []) rfl rfl ?_
  refine ev_lo (pc' := 40) (lv' := lv) (st' := [.int ((ro 1).getD i.toNatClampNeg 0 &&& (Int8.ofInt 63).toInt32)]) lw_M (i := .iand) (len := 1) (dt := []) rfl rfl ?_
  rw [b63_w]
  obtain ⟨n, hn, e⟩ := and63 ((ro 1).getD i.toNatClampNeg 0)
  rw [e]
  match n, hn with
  | 0, _ => exact lw_sw (n := 212) rfl (by decide +kernel) (ck_0 hro hl hx S0 hF)
  | 1, _ => exact lw_sw (n := 285) rfl (by decide +kernel) (ck_1 hro hl hx S0 hF)
  | 2, _ => exact lw_sw (n := 310) rfl (by decide +kernel) (ck_2 hro hl hx S0 hF)
  | 3, _ => exact lw_sw (n := 335) rfl (by decide +kernel) (ck_3 hro hl hx S0 hF)
  | 4, _ => exact lw_sw (n := 360) rfl (by decide +kernel) (ck_4 hro hl hx S0 hF)
  | 5, _ => exact lw_sw (n := 400) rfl (by decide +kernel) (ck_5 hro hl hx S0 hF)
  | 6, _ => exact lw_sw (n := 437) rfl (by decide +kernel) (ck_6 hro hl hx S0 hF)
  | 7, _ => exact lw_sw (n := 474) rfl (by decide +kernel) (ck_7 hro hl hx S0 hF)
  | 8, _ => exact lw_sw (n := 511) rfl (by decide +kernel) (ck_8 hro hl hx S0 hF)
  | 9, _ => exact lw_sw (n := 536) rfl (by decide +kernel) (ck_9 hro hl hx S0 hF)
  | 10, _ => exact lw_sw (n := 561) rfl (by decide +kernel) (ck_10 hro hl hx S0 hF)
  | 11, _ => exact lw_sw (n := 574) rfl (by decide +kernel) (ck_11 hro hl hx S0 hF)
  | 12, _ => exact lw_sw (n := 599) rfl (by decide +kernel) (ck_12 hro hl hx S0 hF)
  | 13, _ => exact lw_sw (n := 636) rfl (by decide +kernel) (ck_13 hro hl hx S0 hF)
  | 14, _ => exact lw_sw (n := 649) rfl (by decide +kernel) (ck_14 hro hl hx S0 hF)
  | 15, _ => exact lw_sw (n := 698) rfl (by decide +kernel) (ck_15 hro hl hx S0 hF)
  | 16, _ => exact lw_sw (n := 723) rfl (by decide +kernel) (ck_16 hro hl hx S0 hF)
  | 17, _ => exact lw_sw (n := 760) rfl (by decide +kernel) (ck_17 hro hl hx S0 hF)
  | 18, _ => exact lw_sw (n := 773) rfl (by decide +kernel) (ck_18 hro hl hx S0 hF)
  | 19, _ => exact lw_sw (n := 798) rfl (by decide +kernel) (ck_19 hro hl hx S0 hF)
  | 20, _ => exact lw_sw (n := 835) rfl (by decide +kernel) (ck_20 hro hl hx S0 hF)
  | 21, _ => exact lw_sw (n := 884) rfl (by decide +kernel) (ck_21 hro hl hx S0 hF)
  | 22, _ => exact lw_sw (n := 909) rfl (by decide +kernel) (ck_22 hro hl hx S0 hF)
  | 23, _ => exact lw_sw (n := 922) rfl (by decide +kernel) (ck_23 hro hl hx S0 hF)
  | 24, _ => exact lw_sw (n := 959) rfl (by decide +kernel) (ck_24 hro hl hx S0 hF)
  | 25, _ => exact lw_sw (n := 984) rfl (by decide +kernel) (ck_25 hro hl hx S0 hF)
  | 26, _ => exact lw_sw (n := 1033) rfl (by decide +kernel) (ck_26 hro hl hx S0 hF)
  | 27, _ => exact lw_sw (n := 1070) rfl (by decide +kernel) (ck_27 hro hl hx S0 hF)
  | 28, _ => exact lw_sw (n := 1107) rfl (by decide +kernel) (ck_28 hro hl hx S0 hF)
  | 29, _ => exact lw_sw (n := 1132) rfl (by decide +kernel) (ck_29 hro hl hx S0 hF)
  | 30, _ => exact lw_sw (n := 1197) rfl (by decide +kernel) (ck_30 hro hl hx S0 hF)
  | 31, _ => exact lw_sw (n := 1222) rfl (by decide +kernel) (ck_31 hro hl hx S0 hF)
  | 32, _ => exact lw_sw (n := 1247) rfl (by decide +kernel) (ck_32 hro hl hx S0 hF)
  | 33, _ => exact lw_sw (n := 1272) rfl (by decide +kernel) (ck_33 hro hl hx S0 hF)
  | 34, _ => exact lw_sw (n := 1309) rfl (by decide +kernel) (ck_34 hro hl hx S0 hF)
  | 35, _ => exact lw_sw (n := 1358) rfl (by decide +kernel) (ck_35 hro hl hx S0 hF)
  | 36, _ => exact lw_sw (n := 1371) rfl (by decide +kernel) (ck_36 hro hl hx S0 hF)
  | 37, _ => exact lw_sw (n := 1384) rfl (by decide +kernel) (ck_37 hro hl hx S0 hF)
  | 38, _ => exact lw_sw (n := 1397) rfl (by decide +kernel) (ck_38 hro hl hx S0 hF)
  | 39, _ => exact lw_sw (n := 1422) rfl (by decide +kernel) (hF lv h c s hl S0 (Nat.le_refl _) (Nat.le_add_right _ _) (Nat.le_add_right _ _))
  | 40, _ => exact lw_sw (n := 1422) rfl (by decide +kernel) (hF lv h c s hl S0 (Nat.le_refl _) (Nat.le_add_right _ _) (Nat.le_add_right _ _))
  | 41, _ => exact lw_sw (n := 1422) rfl (by decide +kernel) (hF lv h c s hl S0 (Nat.le_refl _) (Nat.le_add_right _ _) (Nat.le_add_right _ _))
  | 42, _ => exact lw_sw (n := 1422) rfl (by decide +kernel) (hF lv h c s hl S0 (Nat.le_refl _) (Nat.le_add_right _ _) (Nat.le_add_right _ _))
  | 43, _ => exact lw_sw (n := 1422) rfl (by decide +kernel) (hF lv h c s hl S0 (Nat.le_refl _) (Nat.le_add_right _ _) (Nat.le_add_right _ _))
  | 44, _ => exact lw_sw (n := 1422) rfl (by decide +kernel) (hF lv h c s hl S0 (Nat.le_refl _) (Nat.le_add_right _ _) (Nat.le_add_right _ _))
  | 45, _ => exact lw_sw (n := 1422) rfl (by decide +kernel) (hF lv h c s hl S0 (Nat.le_refl _) (Nat.le_add_right _ _) (Nat.le_add_right _ _))
  | 46, _ => exact lw_sw (n := 1422) rfl (by decide +kernel) (hF lv h c s hl S0 (Nat.le_refl _) (Nat.le_add_right _ _) (Nat.le_add_right _ _))
  | 47, _ => exact lw_sw (n := 1422) rfl (by decide +kernel) (hF lv h c s hl S0 (Nat.le_refl _) (Nat.le_add_right _ _) (Nat.le_add_right _ _))
  | 48, _ => exact lw_sw (n := 1422) rfl (by decide +kernel) (hF lv h c s hl S0 (Nat.le_refl _) (Nat.le_add_right _ _) (Nat.le_add_right _ _))
  | 49, _ => exact lw_sw (n := 1422) rfl (by decide +kernel) (hF lv h c s hl S0 (Nat.le_refl _) (Nat.le_add_right _ _) (Nat.le_add_right _ _))
  | 50, _ => exact lw_sw (n := 1422) rfl (by decide +kernel) (hF lv h c s hl S0 (Nat.le_refl _) (Nat.le_add_right _ _) (Nat.le_add_right _ _))
  | 51, _ => exact lw_sw (n := 1422) rfl (by decide +kernel) (hF lv h c s hl S0 (Nat.le_refl _) (Nat.le_add_right _ _) (Nat.le_add_right _ _))
  | 52, _ => exact lw_sw (n := 1422) rfl (by decide +kernel) (hF lv h c s hl S0 (Nat.le_refl _) (Nat.le_add_right _ _) (Nat.le_add_right _ _))
  | 53, _ => exact lw_sw (n := 1422) rfl (by decide +kernel) (hF lv h c s hl S0 (Nat.le_refl _) (Nat.le_add_right _ _) (Nat.le_add_right _ _))
  | 54, _ => exact lw_sw (n := 1422) rfl (by decide +kernel) (hF lv h c s hl S0 (Nat.le_refl _) (Nat.le_add_right _ _) (Nat.le_add_right _ _))
  | 55, _ => exact lw_sw (n := 1422) rfl (by decide +kernel) (hF lv h c s hl S0 (Nat.le_refl _) (Nat.le_add_right _ _) (Nat.le_add_right _ _))
  | 56, _ => exact lw_sw (n := 1422) rfl (by decide +kernel) (hF lv h c s hl S0 (Nat.le_refl _) (Nat.le_add_right _ _) (Nat.le_add_right _ _))
  | 57, _ => exact lw_sw (n := 1422) rfl (by decide +kernel) (hF lv h c s hl S0 (Nat.le_refl _) (Nat.le_add_right _ _) (Nat.le_add_right _ _))
  | 58, _ => exact lw_sw (n := 1422) rfl (by decide +kernel) (hF lv h c s hl S0 (Nat.le_refl _) (Nat.le_add_right _ _) (Nat.le_add_right _ _))
  | 59, _ => exact lw_sw (n := 1422) rfl (by decide +kernel) (hF lv h c s hl S0 (Nat.le_refl _) (Nat.le_add_right _ _) (Nat.le_add_right _ _))
  | 60, _ => exact lw_sw (n := 1422) rfl (by decide +kernel) (hF lv h c s hl S0 (Nat.le_refl _) (Nat.le_add_right _ _) (Nat.le_add_right _ _))
  | 61, _ => exact lw_sw (n := 1422) rfl (by decide +kernel) (hF lv h c s hl S0 (Nat.le_refl _) (Nat.le_add_right _ _) (Nat.le_add_right _ _))
  | 62, _ => exact lw_sw (n := 1422) rfl (by decide +kernel) (hF lv h c s hl S0 (Nat.le_refl _) (Nat.le_add_right _ _) (Nat.le_add_right _ _))
  | 63, _ => exact lw_sw (n := 1422) rfl (by decide +kernel) (hF lv h c s hl S0 (Nat.le_refl _) (Nat.le_add_right _ _) (Nat.le_add_right _ _))
  | n + 64, hn => exact absurd hn (by omega)
theorem lw_no {L k : Nat} (hL : L ≤ 3072) (hq : 6 * k ≤ L ∧ L < 6 * k + 6) : ¬ sm_cd .gt (Int32.ofInt (6 * (k : Int))) (Int32.ofNat L - (Int8.ofInt 6).toInt32) = false := by
  have e : Int32.ofNat L - (Int8.ofInt 6).toInt32 = Int32.ofInt ((L : Int) - 6) := by
    rw [b6_w, Int32.ofInt_sub, Int32.ofInt_eq_ofNat]
  rw [e]
  intro q
  have q := of_decide_eq_false q
  rw [Int32.lt_iff_toInt_lt, z32_of ⟨by omega, by omega⟩, z32_of ⟨by omega, by omega⟩] at q
  omega
end LWL
theorem lw_in {L k : Nat} {j : Int} (hL : L ≤ 3072) (hk : 6 * k + 6 ≤ L) (h0 : 0 ≤ j) (h1 : j ≤ 5) : ¬ (Int32.ofInt (6 * (k : Int)) + Int32.ofInt j < 0 ∨ L ≤ (Int32.ofInt (6 * (k : Int)) + Int32.ofInt j).toNatClampNeg) := by
  rw [← Int32.ofInt_add]
  exact (zix (z := 6 * (k : Int) + j) ⟨by omega, by omega⟩ (by omega) (by omega)).1
theorem lw_loop {ro : Nat → List Int32} (hro : ro 2 = [0, 1, 2, 3, 4, 4, 4, 4, 4, 4, 5, 5, 6, 6]) (hL : (ro 1).length ≤ 3072) {x m o C D : Nat} : ∀ (f k : Nat), 6 * k ≤ (ro 1).length → (ro 1).length ≤ 6 * k + 6 * f → ∀ (lv : sm_L) (h : List sm_C) (c s : Nat), LV lv x m o (Int32.ofInt (6 * (k : Int))) → SL PB_w x m o h → c + f ≤ C → s + 6 * f ≤ D → EV ro 23 lv [] h c s (fun v _ c' s' => v = some (.int 1) ∧ c' ≤ C ∧ s' ≤ D) := by
  intro f
  induction f with
  | zero =>
    intro k h1 h2 lv h c s hl S hc hs
    refine lw_hd hl (fun _ => ⟨Nat.le_trans (Nat.le_add_right _ _) hc, Nat.le_trans (Nat.le_add_right _ _) hs⟩) (fun q => absurd q ?_)
    exact fun w => lw_no hL ⟨h1, by omega⟩ w
  | succ f ih =>
    intro k h1 h2 lv h c s hl S hc hs
    by_cases q : 6 * k + 6 ≤ (ro 1).length
    · refine lw_hd hl (fun _ => ⟨by omega, by omega⟩) (fun _ => ?_)
      have hx0 := lw_in (j := 0) hL q (Int.le_refl _) (by decide)
      rw [← Int32.ofInt_add, Int.add_zero] at hx0
      refine lw_di hro hl hx0 (fun j a b => lw_in hL q a b) S (fun lv' h' c' s' hl' S' g1 g2 g3 => ?_)
      refine lw_en hl' (ih (k + 1) (by omega) (by omega) _ h' c' s' ?_ S' (by omega) (by omega))
      have e : Int32.ofInt (6 * ((k + 1 : Nat) : Int)) = Int32.ofInt (6 * (k : Int)) + Int32.ofInt 6 := by
        rw [← Int32.ofInt_add]
        exact congrArg Int32.ofInt (by omega)
      rw [e]
      exact lv_i hl'
    · refine lw_hd hl (fun _ => ⟨by omega, by omega⟩) (fun q2 => absurd q2 ?_)
      exact fun w => lw_no hL ⟨h1, by omega⟩ w
