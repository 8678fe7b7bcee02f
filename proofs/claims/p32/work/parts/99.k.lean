/-! The law's cases. -/
def KF (ro : Nat → List Int32) (x m o : Nat) (i : Int32) (c s : Nat) (F : ev_F) : Prop := ∀ (lv : sm_L) (h : List sm_C) (c' s' : Nat), LV lv x m o i → SL PB_w x m o h → c ≤ c' → c' ≤ c + 1 → s' ≤ s + 6 → EV ro 1422 lv [] h c' s' F
theorem b1_w (a : Int32) : sB [(-2147483648, 2147483647)] [a.toInt] := ⟨z32i a, trivial⟩
theorem b2_w (a b : Int32) : sB [(-2147483648, 2147483647), (-2147483648, 2147483647)] [a.toInt, b.toInt] := ⟨z32i a, z32i b, trivial⟩
theorem b3_w (a b c : Int32) : sB [(-2147483648, 2147483647), (-2147483648, 2147483647), (-2147483648, 2147483647)] [a.toInt, b.toInt, c.toInt] := ⟨z32i a, z32i b, z32i c, trivial⟩
def bw_w (a : Int32) : Int := if a = 0 then 0 else 1
theorem bw_b {a : Int32} : bw_w a = 0 ∨ bw_w a = 1 := by
  unfold bw_w
  split
  · exact Or.inl rfl
  · exact Or.inr rfl
theorem lw_bo {ro : Nat → List Int32} {lv : sm_L} {st : List Value} {h : List sm_C} {c s : Nat} {F : ev_F} {pc n : Nat} {d d2 : Int} {a : Int32} (k1 : pr_K 0 pc = some (.ifCond .eq d, 3, [])) (hd : (0 : Int) ≤ pc + d) (h1 : ((pc : Int) + d).toNat = pc + 7) (k2 : pr_K 0 (pc + 3) = some (.iconst 1, 1, [])) (k3 : pr_K 0 (pc + 4) = some (.goto d2, 3, [])) (k4 : pr_K 0 (pc + 7) = some (.iconst 0, 1, [])) (h2 : pc + 7 + 1 = n) (hd2 : (0 : Int) ≤ (pc + 4 : Nat) + d2) (h3 : (((pc + 4 : Nat) : Int) + d2).toNat = n) (hF : EV ro n lv (.int (Int32.ofInt (bw_w a)) :: st) h c s F) : EV ro pc lv (.int a :: st) h c s F :=
  lw_nz k1 hd h1 rfl (fun q => lw_con k4 h2 (by rw [bw_w, if_pos q] at hF; exact hF)) (fun q => lw_con (n := pc + 4) k2 rfl (lw_go k3 hd2 h3 (by rw [bw_w, if_neg q] at hF; exact hF)))
theorem ck_0 {ro : Nat → List Int32} (hro : ro 2 = [0, 1, 2, 3, 4, 4, 4, 4, 4, 4, 5, 5, 6, 6]) {lv : sm_L} {x m o : Nat} {i : Int32} {h : List sm_C} {c s : Nat} {F : ev_F} (hl : LV lv x m o i) (hx : ∀ j : Int, 0 ≤ j → j ≤ 5 → ix_w ro i j) (S0 : SL PB_w x m o h) (hF : KF ro x m o i c s F) : EV ro 212 lv [] h c s F := by
  refine lw_ref (k := ab_f1) rfl hl.2.1 rfl ?_
  refine lw_arg (j := 1) hl rfl rfl rfl rfl rfl rfl (hx 1 (by decide) (by decide)) ?_
  refine lw_arg (j := 2) hl rfl rfl rfl rfl rfl rfl (hx 2 (by decide) (by decide)) ?_
  refine lw_arg (j := 3) hl rfl rfl rfl rfl rfl rfl (hx 3 (by decide) (by decide)) ?_
  refine lw_arg (j := 4) hl rfl rfl rfl rfl rfl rfl (hx 4 (by decide) (by decide)) ?_
  refine lw_arg (j := 5) hl rfl rfl rfl rfl rfl rfl (hx 5 (by decide) (by decide)) ?_
  obtain ⟨q1, q1a, q1b⟩ := sl_x S0
  refine lw_inv (vs := [.int (ar_w ro i 1), .int (ar_w ro i 2), .int (ar_w ro i 3), .int (ar_w ro i 4), .int (ar_w ro i 5)]) (r := []) (rk := 1) rfl rfl pgX7_feed rfl rfl rfl rfl q1a q1b ⟨Nat.le_of_ble_eq_true rfl, Nat.le_of_ble_eq_true rfl, by decide⟩ (cc_feed S0 (ar_w ro i 1) (ar_w ro i 2) (ar_w ro i 3) (ar_w ro i 4) (ar_w ro i 5)) (fun v1 h10 y1 S10 hv1 => ?_)
  refine lw_pop (rk := 1) rfl hv1 (Or.inl rfl) rfl ?_
  refine lw_ref (k := ab_f2) rfl hl.2.2.1 rfl ?_
  refine lw_arg (j := 1) hl rfl rfl rfl rfl rfl rfl (hx 1 (by decide) (by decide)) ?_
  refine lw_arg (j := 2) hl rfl rfl rfl rfl rfl rfl (hx 2 (by decide) (by decide)) ?_
  refine lw_arg (j := 3) hl rfl rfl rfl rfl rfl rfl (hx 3 (by decide) (by decide)) ?_
  refine lw_arg (j := 4) hl rfl rfl rfl rfl rfl rfl (hx 4 (by decide) (by decide)) ?_
  refine lw_arg (j := 5) hl rfl rfl rfl rfl rfl rfl (hx 5 (by decide) (by decide)) ?_
  obtain ⟨q2, q2a, q2b⟩ := sl_y S10
  refine lw_inv (vs := [.int (ar_w ro i 1), .int (ar_w ro i 2), .int (ar_w ro i 3), .int (ar_w ro i 4), .int (ar_w ro i 5)]) (r := []) (rk := 1) rfl rfl pgX8_feed rfl rfl rfl rfl q2a q2b ⟨Nat.le_of_ble_eq_true rfl, Nat.le_of_ble_eq_true rfl, by decide⟩ (cm_feed S10) (fun v2 h20 y2 S20 hv2 => ?_)
  obtain ⟨yy, S20⟩ := sl_a S20
  refine lw_pop (rk := 1) rfl hv2 (Or.inl rfl) rfl ?_
  exact lw_go rfl (by decide) rfl (hF _ _ _ _ hl S20 (Nat.le_refl _) (Nat.le_add_right _ _) (Nat.le_add_right _ _))
theorem ck_1 {ro : Nat → List Int32} (hro : ro 2 = [0, 1, 2, 3, 4, 4, 4, 4, 4, 4, 5, 5, 6, 6]) {lv : sm_L} {x m o : Nat} {i : Int32} {h : List sm_C} {c s : Nat} {F : ev_F} (hl : LV lv x m o i) (hx : ∀ j : Int, 0 ≤ j → j ≤ 5 → ix_w ro i j) (S0 : SL PB_w x m o h) (hF : KF ro x m o i c s F) : EV ro 285 lv [] h c s F := by
  refine lw_ref (k := ab_f1) rfl hl.2.1 rfl ?_
  refine lw_arg (j := 1) hl rfl rfl rfl rfl rfl rfl (hx 1 (by decide) (by decide)) ?_
  obtain ⟨q1, q1a, q1b⟩ := sl_x S0
  refine lw_inv (vs := [.int (ar_w ro i 1)]) (r := []) (rk := 1) rfl rfl pgX7_text rfl rfl rfl rfl q1a q1b ⟨Nat.le_of_ble_eq_true rfl, Nat.le_of_ble_eq_true rfl, by decide⟩ (cc_text hro S0 (ar_w ro i 1)) (fun v1 h10 y1 S10 hv1 => ?_)
  refine lw_pop (rk := 1) rfl hv1 (Or.inl rfl) rfl ?_
  refine lw_ref (k := ab_f2) rfl hl.2.2.1 rfl ?_
  refine lw_arg (j := 1) hl rfl rfl rfl rfl rfl rfl (hx 1 (by decide) (by decide)) ?_
  obtain ⟨q2, q2a, q2b⟩ := sl_y S10
  refine lw_inv (vs := [.int (ar_w ro i 1)]) (r := []) (rk := 1) rfl rfl pgX8_text rfl rfl rfl rfl q2a q2b ⟨Nat.le_of_ble_eq_true rfl, Nat.le_of_ble_eq_true rfl, by decide⟩ (cm_text S10) (fun v2 h20 y2 S20 hv2 => ?_)
  obtain ⟨yy, S20⟩ := sl_a S20
  refine lw_pop (rk := 1) rfl hv2 (Or.inl rfl) rfl ?_
  exact lw_go rfl (by decide) rfl (hF _ _ _ _ hl S20 (Nat.le_refl _) (Nat.le_add_right _ _) (Nat.le_add_right _ _))
theorem ck_2 {ro : Nat → List Int32} (hro : ro 2 = [0, 1, 2, 3, 4, 4, 4, 4, 4, 4, 5, 5, 6, 6]) {lv : sm_L} {x m o : Nat} {i : Int32} {h : List sm_C} {c s : Nat} {F : ev_F} (hl : LV lv x m o i) (hx : ∀ j : Int, 0 ≤ j → j ≤ 5 → ix_w ro i j) (S0 : SL PB_w x m o h) (hF : KF ro x m o i c s F) : EV ro 310 lv [] h c s F := by
  refine lw_ref (k := ab_f1) rfl hl.2.1 rfl ?_
  refine lw_arg (j := 1) hl rfl rfl rfl rfl rfl rfl (hx 1 (by decide) (by decide)) ?_
  obtain ⟨q1, q1a, q1b⟩ := sl_x S0
  refine lw_inv (vs := [.int (ar_w ro i 1)]) (r := []) (rk := 1) rfl rfl pgX7_fault rfl rfl rfl rfl q1a q1b ⟨Nat.le_of_ble_eq_true rfl, Nat.le_of_ble_eq_true rfl, by decide⟩ (cc_fault S0 (ar_w ro i 1)) (fun v1 h10 y1 S10 hv1 => ?_)
  refine lw_pop (rk := 1) rfl hv1 (Or.inl rfl) rfl ?_
  refine lw_ref (k := ab_f2) rfl hl.2.2.1 rfl ?_
  refine lw_arg (j := 1) hl rfl rfl rfl rfl rfl rfl (hx 1 (by decide) (by decide)) ?_
  obtain ⟨q2, q2a, q2b⟩ := sl_y S10
  refine lw_inv (vs := [.int (ar_w ro i 1)]) (r := []) (rk := 1) rfl rfl pgX8_fault rfl rfl rfl rfl q2a q2b ⟨Nat.le_of_ble_eq_true rfl, Nat.le_of_ble_eq_true rfl, by decide⟩ (cm_fault S10) (fun v2 h20 y2 S20 hv2 => ?_)
  obtain ⟨yy, S20⟩ := sl_a S20
  refine lw_pop (rk := 1) rfl hv2 (Or.inl rfl) rfl ?_
  exact lw_go rfl (by decide) rfl (hF _ _ _ _ hl S20 (Nat.le_refl _) (Nat.le_add_right _ _) (Nat.le_add_right _ _))
theorem ck_3 {ro : Nat → List Int32} (hro : ro 2 = [0, 1, 2, 3, 4, 4, 4, 4, 4, 4, 5, 5, 6, 6]) {lv : sm_L} {x m o : Nat} {i : Int32} {h : List sm_C} {c s : Nat} {F : ev_F} (hl : LV lv x m o i) (hx : ∀ j : Int, 0 ≤ j → j ≤ 5 → ix_w ro i j) (S0 : SL PB_w x m o h) (hF : KF ro x m o i c s F) : EV ro 335 lv [] h c s F := by
  refine lw_ref (k := ab_f1) rfl hl.2.1 rfl ?_
  refine lw_arg (j := 1) hl rfl rfl rfl rfl rfl rfl (hx 1 (by decide) (by decide)) ?_
  obtain ⟨q1, q1a, q1b⟩ := sl_x S0
  refine lw_inv (vs := [.int (ar_w ro i 1)]) (r := []) (rk := 1) rfl rfl pgX7_named rfl rfl rfl rfl q1a q1b ⟨Nat.le_of_ble_eq_true rfl, Nat.le_of_ble_eq_true rfl, by decide⟩ (cc_named S0 (ar_w ro i 1)) (fun v1 h10 y1 S10 hv1 => ?_)
  refine lw_pop (rk := 1) rfl hv1 (Or.inl rfl) rfl ?_
  refine lw_ref (k := ab_f2) rfl hl.2.2.1 rfl ?_
  refine lw_arg (j := 1) hl rfl rfl rfl rfl rfl rfl (hx 1 (by decide) (by decide)) ?_
  obtain ⟨q2, q2a, q2b⟩ := sl_y S10
  refine lw_inv (vs := [.int (ar_w ro i 1)]) (r := []) (rk := 1) rfl rfl pgX8_named rfl rfl rfl rfl q2a q2b ⟨Nat.le_of_ble_eq_true rfl, Nat.le_of_ble_eq_true rfl, by decide⟩ (cm_named S10) (fun v2 h20 y2 S20 hv2 => ?_)
  obtain ⟨yy, S20⟩ := sl_a S20
  refine lw_pop (rk := 1) rfl hv2 (Or.inl rfl) rfl ?_
  exact lw_go rfl (by decide) rfl (hF _ _ _ _ hl S20 (Nat.le_refl _) (Nat.le_add_right _ _) (Nat.le_add_right _ _))
theorem ck_4 {ro : Nat → List Int32} (hro : ro 2 = [0, 1, 2, 3, 4, 4, 4, 4, 4, 4, 5, 5, 6, 6]) {lv : sm_L} {x m o : Nat} {i : Int32} {h : List sm_C} {c s : Nat} {F : ev_F} (hl : LV lv x m o i) (hx : ∀ j : Int, 0 ≤ j → j ≤ 5 → ix_w ro i j) (S0 : SL PB_w x m o h) (hF : KF ro x m o i c s F) : EV ro 360 lv [] h c s F := by
  refine lw_ref (k := ab_f1) rfl hl.2.1 rfl ?_
  refine lw_arg (j := 1) hl rfl rfl rfl rfl rfl rfl (hx 1 (by decide) (by decide)) ?_
  refine lw_arg (j := 2) hl rfl rfl rfl rfl rfl rfl (hx 2 (by decide) (by decide)) ?_
  refine lw_ref (k := ab_f3) rfl hl.2.2.2.1 rfl ?_
  obtain ⟨z, h1, dc, ds, g1, S1, g3, g4⟩ := gr_w S0 (ar_w ro i 1) (ar_w ro i 2) 39
  refine ev_x lw_M rfl rfl g1 ?_
  refine lw_st (k := 5) rfl rfl rfl ?_
  have hl5 := lv_s1 (k := 5) (a := z) hl (by decide)
  refine lw_ref (k := ab_f2) rfl hl5.2.2.1 rfl ?_
  refine lw_arg (j := 1) hl5 rfl rfl rfl rfl rfl rfl (hx 1 (by decide) (by decide)) ?_
  refine lw_arg (j := 2) hl5 rfl rfl rfl rfl rfl rfl (hx 2 (by decide) (by decide)) ?_
  obtain ⟨q1, q1a, q1b⟩ := sl_y S1
  refine lw_inv (vs := [.int (ar_w ro i 1), .int (ar_w ro i 2)]) (r := []) (rk := 1) rfl rfl pgX8_groove rfl rfl rfl rfl q1a q1b ⟨Nat.le_of_ble_eq_true rfl, Nat.le_of_ble_eq_true rfl, by decide⟩ (cm_call (zm_f_groove (ro := ro)) (by decide +kernel) (by decide) S1 (z2_w (ar_w ro i 1) (ar_w ro i 2)) rfl (b2_w (ar_w ro i 1) (ar_w ro i 2)) rfl) (fun v1 h10 y1 S10 hv1 => ?_)
  rw [show v1 = some (.int (Int32.ofInt y1)) from hv1.1]
  refine lw_st (k := 6) rfl rfl rfl ?_
  have hl6 := lv_s1 (k := 6) (a := Int32.ofInt y1) hl5 (by decide)
  exact lw_go rfl (by decide) rfl (hF _ _ _ _ hl6 S10 (Nat.le_add_right _ _) (Nat.add_le_add_left g3 _) (Nat.add_le_add_left g4 _))
theorem ck_5 {ro : Nat → List Int32} (hro : ro 2 = [0, 1, 2, 3, 4, 4, 4, 4, 4, 4, 5, 5, 6, 6]) {lv : sm_L} {x m o : Nat} {i : Int32} {h : List sm_C} {c s : Nat} {F : ev_F} (hl : LV lv x m o i) (hx : ∀ j : Int, 0 ≤ j → j ≤ 5 → ix_w ro i j) (S0 : SL PB_w x m o h) (hF : KF ro x m o i c s F) : EV ro 400 lv [] h c s F := by
  refine lw_ref (k := ab_f1) rfl hl.2.1 rfl ?_
  refine lw_arg (j := 1) hl rfl rfl rfl rfl rfl rfl (hx 1 (by decide) (by decide)) ?_
  refine lw_arg (j := 2) hl rfl rfl rfl rfl rfl rfl (hx 2 (by decide) (by decide)) ?_
  obtain ⟨q1, q1a, q1b⟩ := sl_x S0
  refine lw_inv (vs := [.int (ar_w ro i 1), .int (ar_w ro i 2)]) (r := []) (rk := 1) rfl rfl pgX7_scratch rfl rfl rfl rfl q1a q1b ⟨Nat.le_of_ble_eq_true rfl, Nat.le_of_ble_eq_true rfl, by decide⟩ (cc_call (zc_f_scratch (ro := ro)) (by decide +kernel) (by decide) S0 (z2_w (ar_w ro i 1) (ar_w ro i 2)) rfl (b2_w (ar_w ro i 1) (ar_w ro i 2)) rfl) (fun v1 h10 y1 S10 hv1 => ?_)
  refine lw_pop (rk := 1) rfl hv1 (Or.inl rfl) rfl ?_
  refine lw_ref (k := ab_f2) rfl hl.2.2.1 rfl ?_
  refine lw_arg (j := 1) hl rfl rfl rfl rfl rfl rfl (hx 1 (by decide) (by decide)) ?_
  refine lw_arg (j := 2) hl rfl rfl rfl rfl rfl rfl (hx 2 (by decide) (by decide)) ?_
  obtain ⟨q2, q2a, q2b⟩ := sl_y S10
  refine lw_inv (vs := [.int (ar_w ro i 1), .int (ar_w ro i 2)]) (r := []) (rk := 1) rfl rfl pgX8_scratch rfl rfl rfl rfl q2a q2b ⟨Nat.le_of_ble_eq_true rfl, Nat.le_of_ble_eq_true rfl, by decide⟩ (cm_call (zm_f_scratch (ro := ro)) (by decide +kernel) (by decide) S10 (z2_w (ar_w ro i 1) (ar_w ro i 2)) rfl (b2_w (ar_w ro i 1) (ar_w ro i 2)) rfl) (fun v2 h20 y2 S20 hv2 => ?_)
  refine lw_pop (rk := 1) rfl hv2 (Or.inl rfl) rfl ?_
  exact lw_go rfl (by decide) rfl (hF _ _ _ _ hl S20 (Nat.le_refl _) (Nat.le_add_right _ _) (Nat.le_add_right _ _))
theorem ck_6 {ro : Nat → List Int32} (hro : ro 2 = [0, 1, 2, 3, 4, 4, 4, 4, 4, 4, 5, 5, 6, 6]) {lv : sm_L} {x m o : Nat} {i : Int32} {h : List sm_C} {c s : Nat} {F : ev_F} (hl : LV lv x m o i) (hx : ∀ j : Int, 0 ≤ j → j ≤ 5 → ix_w ro i j) (S0 : SL PB_w x m o h) (hF : KF ro x m o i c s F) : EV ro 437 lv [] h c s F := by
  refine lw_ref (k := ab_f1) rfl hl.2.1 rfl ?_
  refine lw_arg (j := 1) hl rfl rfl rfl rfl rfl rfl (hx 1 (by decide) (by decide)) ?_
  refine lw_arg (j := 2) hl rfl rfl rfl rfl rfl rfl (hx 2 (by decide) (by decide)) ?_
  obtain ⟨q1, q1a, q1b⟩ := sl_x S0
  refine lw_inv (vs := [.int (ar_w ro i 1), .int (ar_w ro i 2)]) (r := []) (rk := 1) rfl rfl pgX7_guest rfl rfl rfl rfl q1a q1b ⟨Nat.le_of_ble_eq_true rfl, Nat.le_of_ble_eq_true rfl, by decide⟩ (cc_call (zc_f_guest (ro := ro)) (by decide +kernel) (by decide) S0 (z2_w (ar_w ro i 1) (ar_w ro i 2)) rfl (b2_w (ar_w ro i 1) (ar_w ro i 2)) rfl) (fun v1 h10 y1 S10 hv1 => ?_)
  refine lw_pop (rk := 1) rfl hv1 (Or.inl rfl) rfl ?_
  refine lw_ref (k := ab_f2) rfl hl.2.2.1 rfl ?_
  refine lw_arg (j := 1) hl rfl rfl rfl rfl rfl rfl (hx 1 (by decide) (by decide)) ?_
  refine lw_arg (j := 2) hl rfl rfl rfl rfl rfl rfl (hx 2 (by decide) (by decide)) ?_
  obtain ⟨q2, q2a, q2b⟩ := sl_y S10
  refine lw_inv (vs := [.int (ar_w ro i 1), .int (ar_w ro i 2)]) (r := []) (rk := 1) rfl rfl pgX8_guest rfl rfl rfl rfl q2a q2b ⟨Nat.le_of_ble_eq_true rfl, Nat.le_of_ble_eq_true rfl, by decide⟩ (cm_call (zm_f_guest (ro := ro)) (by decide +kernel) (by decide) S10 (z2_w (ar_w ro i 1) (ar_w ro i 2)) rfl (b2_w (ar_w ro i 1) (ar_w ro i 2)) rfl) (fun v2 h20 y2 S20 hv2 => ?_)
  refine lw_pop (rk := 1) rfl hv2 (Or.inl rfl) rfl ?_
  exact lw_go rfl (by decide) rfl (hF _ _ _ _ hl S20 (Nat.le_refl _) (Nat.le_add_right _ _) (Nat.le_add_right _ _))
theorem ck_7 {ro : Nat → List Int32} (hro : ro 2 = [0, 1, 2, 3, 4, 4, 4, 4, 4, 4, 5, 5, 6, 6]) {lv : sm_L} {x m o : Nat} {i : Int32} {h : List sm_C} {c s : Nat} {F : ev_F} (hl : LV lv x m o i) (hx : ∀ j : Int, 0 ≤ j → j ≤ 5 → ix_w ro i j) (S0 : SL PB_w x m o h) (hF : KF ro x m o i c s F) : EV ro 474 lv [] h c s F := by
  refine lw_ref (k := ab_f1) rfl hl.2.1 rfl ?_
  refine lw_arg (j := 1) hl rfl rfl rfl rfl rfl rfl (hx 1 (by decide) (by decide)) ?_
  refine lw_arg (j := 2) hl rfl rfl rfl rfl rfl rfl (hx 2 (by decide) (by decide)) ?_
  obtain ⟨q1, q1a, q1b⟩ := sl_x S0
  refine lw_inv (vs := [.int (ar_w ro i 1), .int (ar_w ro i 2)]) (r := []) (rk := 3) rfl rfl pgX7_law rfl rfl rfl rfl q1a q1b ⟨Nat.le_of_ble_eq_true rfl, Nat.le_of_ble_eq_true rfl, by decide⟩ (cc_call (zc_f_law (ro := ro)) (by decide +kernel) (by decide) S0 (z2_w (ar_w ro i 1) (ar_w ro i 2)) rfl (b2_w (ar_w ro i 1) (ar_w ro i 2)) rfl) (fun v1 h10 y1 S10 hv1 => ?_)
  refine lw_pop2 rfl hv1 rfl ?_
  refine lw_ref (k := ab_f2) rfl hl.2.2.1 rfl ?_
  refine lw_arg (j := 1) hl rfl rfl rfl rfl rfl rfl (hx 1 (by decide) (by decide)) ?_
  refine lw_arg (j := 2) hl rfl rfl rfl rfl rfl rfl (hx 2 (by decide) (by decide)) ?_
  obtain ⟨q2, q2a, q2b⟩ := sl_y S10
  refine lw_inv (vs := [.int (ar_w ro i 1), .int (ar_w ro i 2)]) (r := []) (rk := 3) rfl rfl pgX8_law rfl rfl rfl rfl q2a q2b ⟨Nat.le_of_ble_eq_true rfl, Nat.le_of_ble_eq_true rfl, by decide⟩ (cm_call (zm_f_law (ro := ro)) (by decide +kernel) (by decide) S10 (z2_w (ar_w ro i 1) (ar_w ro i 2)) rfl (b2_w (ar_w ro i 1) (ar_w ro i 2)) rfl) (fun v2 h20 y2 S20 hv2 => ?_)
  refine lw_pop2 rfl hv2 rfl ?_
  exact lw_go rfl (by decide) rfl (hF _ _ _ _ hl S20 (Nat.le_refl _) (Nat.le_add_right _ _) (Nat.le_add_right _ _))
theorem ck_8 {ro : Nat → List Int32} (hro : ro 2 = [0, 1, 2, 3, 4, 4, 4, 4, 4, 4, 5, 5, 6, 6]) {lv : sm_L} {x m o : Nat} {i : Int32} {h : List sm_C} {c s : Nat} {F : ev_F} (hl : LV lv x m o i) (hx : ∀ j : Int, 0 ≤ j → j ≤ 5 → ix_w ro i j) (S0 : SL PB_w x m o h) (hF : KF ro x m o i c s F) : EV ro 511 lv [] h c s F := by
  refine lw_ref (k := ab_f1) rfl hl.2.1 rfl ?_
  refine lw_arg (j := 1) hl rfl rfl rfl rfl rfl rfl (hx 1 (by decide) (by decide)) ?_
  obtain ⟨q1, q1a, q1b⟩ := sl_x S0
  refine lw_inv (vs := [.int (ar_w ro i 1)]) (r := []) (rk := 2) rfl rfl pgX7_weigh rfl rfl rfl rfl q1a q1b ⟨Nat.le_of_ble_eq_true rfl, Nat.le_of_ble_eq_true rfl, by decide⟩ (cc_call (zc_f_weigh (ro := ro)) (by decide +kernel) (by decide) S0 (z1_w (ar_w ro i 1)) rfl (b1_w (ar_w ro i 1)) rfl) (fun v1 h10 y1 S10 hv1 => ?_)
  refine lw_pop (rk := 2) rfl hv1 (Or.inr rfl) rfl ?_
  refine lw_ref (k := ab_f2) rfl hl.2.2.1 rfl ?_
  refine lw_arg (j := 1) hl rfl rfl rfl rfl rfl rfl (hx 1 (by decide) (by decide)) ?_
  obtain ⟨q2, q2a, q2b⟩ := sl_y S10
  refine lw_inv (vs := [.int (ar_w ro i 1)]) (r := []) (rk := 2) rfl rfl pgX8_weigh rfl rfl rfl rfl q2a q2b ⟨Nat.le_of_ble_eq_true rfl, Nat.le_of_ble_eq_true rfl, by decide⟩ (cm_call (zm_f_weigh (ro := ro)) (by decide +kernel) (by decide) S10 (z1_w (ar_w ro i 1)) rfl (b1_w (ar_w ro i 1)) rfl) (fun v2 h20 y2 S20 hv2 => ?_)
  refine lw_pop (rk := 2) rfl hv2 (Or.inr rfl) rfl ?_
  exact lw_go rfl (by decide) rfl (hF _ _ _ _ hl S20 (Nat.le_refl _) (Nat.le_add_right _ _) (Nat.le_add_right _ _))
theorem ck_9 {ro : Nat → List Int32} (hro : ro 2 = [0, 1, 2, 3, 4, 4, 4, 4, 4, 4, 5, 5, 6, 6]) {lv : sm_L} {x m o : Nat} {i : Int32} {h : List sm_C} {c s : Nat} {F : ev_F} (hl : LV lv x m o i) (hx : ∀ j : Int, 0 ≤ j → j ≤ 5 → ix_w ro i j) (S0 : SL PB_w x m o h) (hF : KF ro x m o i c s F) : EV ro 536 lv [] h c s F := by
  refine lw_ref (k := ab_f1) rfl hl.2.1 rfl ?_
  refine lw_arg (j := 1) hl rfl rfl rfl rfl rfl rfl (hx 1 (by decide) (by decide)) ?_
  obtain ⟨q1, q1a, q1b⟩ := sl_x S0
  refine lw_inv (vs := [.int (ar_w ro i 1)]) (r := []) (rk := 1) rfl rfl pgX7_nudge rfl rfl rfl rfl q1a q1b ⟨Nat.le_of_ble_eq_true rfl, Nat.le_of_ble_eq_true rfl, by decide⟩ (cc_call (zc_f_nudge (ro := ro)) (by decide +kernel) (by decide) S0 (z1_w (ar_w ro i 1)) rfl (b1_w (ar_w ro i 1)) rfl) (fun v1 h10 y1 S10 hv1 => ?_)
  refine lw_pop (rk := 1) rfl hv1 (Or.inl rfl) rfl ?_
  refine lw_ref (k := ab_f2) rfl hl.2.2.1 rfl ?_
  refine lw_arg (j := 1) hl rfl rfl rfl rfl rfl rfl (hx 1 (by decide) (by decide)) ?_
  obtain ⟨q2, q2a, q2b⟩ := sl_y S10
  refine lw_inv (vs := [.int (ar_w ro i 1)]) (r := []) (rk := 1) rfl rfl pgX8_nudge rfl rfl rfl rfl q2a q2b ⟨Nat.le_of_ble_eq_true rfl, Nat.le_of_ble_eq_true rfl, by decide⟩ (cm_call (zm_f_nudge (ro := ro)) (by decide +kernel) (by decide) S10 (z1_w (ar_w ro i 1)) rfl (b1_w (ar_w ro i 1)) rfl) (fun v2 h20 y2 S20 hv2 => ?_)
  refine lw_pop (rk := 1) rfl hv2 (Or.inl rfl) rfl ?_
  exact lw_go rfl (by decide) rfl (hF _ _ _ _ hl S20 (Nat.le_refl _) (Nat.le_add_right _ _) (Nat.le_add_right _ _))
theorem ck_10 {ro : Nat → List Int32} (hro : ro 2 = [0, 1, 2, 3, 4, 4, 4, 4, 4, 4, 5, 5, 6, 6]) {lv : sm_L} {x m o : Nat} {i : Int32} {h : List sm_C} {c s : Nat} {F : ev_F} (hl : LV lv x m o i) (hx : ∀ j : Int, 0 ≤ j → j ≤ 5 → ix_w ro i j) (S0 : SL PB_w x m o h) (hF : KF ro x m o i c s F) : EV ro 561 lv [] h c s F := by
  refine lw_ref (k := ab_f1) rfl hl.2.1 rfl ?_
  obtain ⟨q1, q1a, q1b⟩ := sl_x S0
  refine lw_inv (vs := []) (r := []) (rk := 2) rfl rfl pgX7_anew rfl rfl rfl rfl q1a q1b ⟨Nat.le_of_ble_eq_true rfl, Nat.le_of_ble_eq_true rfl, by decide⟩ (cc_call (xs := []) (zc_f_anew (ro := ro)) (by decide +kernel) (by decide) S0 (fun _ => trivial) rfl trivial rfl) (fun v1 h10 y1 S10 hv1 => ?_)
  refine lw_pop (rk := 2) rfl hv1 (Or.inr rfl) rfl ?_
  refine lw_ref (k := ab_f2) rfl hl.2.2.1 rfl ?_
  obtain ⟨q2, q2a, q2b⟩ := sl_y S10
  refine lw_inv (vs := []) (r := []) (rk := 2) rfl rfl pgX8_anew rfl rfl rfl rfl q2a q2b ⟨Nat.le_of_ble_eq_true rfl, Nat.le_of_ble_eq_true rfl, by decide⟩ (cm_call (xs := []) (zm_f_anew (ro := ro)) (by decide +kernel) (by decide) S10 (fun _ => trivial) rfl trivial rfl) (fun v2 h20 y2 S20 hv2 => ?_)
  refine lw_pop (rk := 2) rfl hv2 (Or.inr rfl) rfl ?_
  exact lw_go rfl (by decide) rfl (hF _ _ _ _ hl S20 (Nat.le_refl _) (Nat.le_add_right _ _) (Nat.le_add_right _ _))
theorem ck_11 {ro : Nat → List Int32} (hro : ro 2 = [0, 1, 2, 3, 4, 4, 4, 4, 4, 4, 5, 5, 6, 6]) {lv : sm_L} {x m o : Nat} {i : Int32} {h : List sm_C} {c s : Nat} {F : ev_F} (hl : LV lv x m o i) (hx : ∀ j : Int, 0 ≤ j → j ≤ 5 → ix_w ro i j) (S0 : SL PB_w x m o h) (hF : KF ro x m o i c s F) : EV ro 574 lv [] h c s F := by
  refine lw_ref (k := ab_f1) rfl hl.2.1 rfl ?_
  refine lw_arg (j := 1) hl rfl rfl rfl rfl rfl rfl (hx 1 (by decide) (by decide)) ?_
  obtain ⟨q1, q1a, q1b⟩ := sl_x S0
  refine lw_inv (vs := [.int (ar_w ro i 1)]) (r := []) (rk := 1) rfl rfl pgX7_go rfl rfl rfl rfl q1a q1b ⟨Nat.le_of_ble_eq_true rfl, Nat.le_of_ble_eq_true rfl, by decide⟩ (cc_call (zc_f_go (ro := ro)) (by decide +kernel) (by decide) S0 (z1_w (ar_w ro i 1)) rfl (b1_w (ar_w ro i 1)) rfl) (fun v1 h10 y1 S10 hv1 => ?_)
  refine lw_pop (rk := 1) rfl hv1 (Or.inl rfl) rfl ?_
  refine lw_ref (k := ab_f2) rfl hl.2.2.1 rfl ?_
  refine lw_arg (j := 1) hl rfl rfl rfl rfl rfl rfl (hx 1 (by decide) (by decide)) ?_
  obtain ⟨q2, q2a, q2b⟩ := sl_y S10
  refine lw_inv (vs := [.int (ar_w ro i 1)]) (r := []) (rk := 1) rfl rfl pgX8_go rfl rfl rfl rfl q2a q2b ⟨Nat.le_of_ble_eq_true rfl, Nat.le_of_ble_eq_true rfl, by decide⟩ (cm_call (zm_f_go (ro := ro)) (by decide +kernel) (by decide) S10 (z1_w (ar_w ro i 1)) rfl (b1_w (ar_w ro i 1)) rfl) (fun v2 h20 y2 S20 hv2 => ?_)
  refine lw_pop (rk := 1) rfl hv2 (Or.inl rfl) rfl ?_
  exact lw_go rfl (by decide) rfl (hF _ _ _ _ hl S20 (Nat.le_refl _) (Nat.le_add_right _ _) (Nat.le_add_right _ _))
theorem ck_12 {ro : Nat → List Int32} (hro : ro 2 = [0, 1, 2, 3, 4, 4, 4, 4, 4, 4, 5, 5, 6, 6]) {lv : sm_L} {x m o : Nat} {i : Int32} {h : List sm_C} {c s : Nat} {F : ev_F} (hl : LV lv x m o i) (hx : ∀ j : Int, 0 ≤ j → j ≤ 5 → ix_w ro i j) (S0 : SL PB_w x m o h) (hF : KF ro x m o i c s F) : EV ro 599 lv [] h c s F := by
  refine lw_ref (k := ab_f1) rfl hl.2.1 rfl ?_
  refine lw_arg (j := 1) hl rfl rfl rfl rfl rfl rfl (hx 1 (by decide) (by decide)) ?_
  refine lw_arg (j := 2) hl rfl rfl rfl rfl rfl rfl (hx 2 (by decide) (by decide)) ?_
  obtain ⟨q1, q1a, q1b⟩ := sl_x S0
  refine lw_inv (vs := [.int (ar_w ro i 1), .int (ar_w ro i 2)]) (r := []) (rk := 1) rfl rfl pgX7_out rfl rfl rfl rfl q1a q1b ⟨Nat.le_of_ble_eq_true rfl, Nat.le_of_ble_eq_true rfl, by decide⟩ (cc_call (zc_f_out (ro := ro)) (by decide +kernel) (by decide) S0 (z2_w (ar_w ro i 1) (ar_w ro i 2)) rfl (b2_w (ar_w ro i 1) (ar_w ro i 2)) rfl) (fun v1 h10 y1 S10 hv1 => ?_)
  refine lw_pop (rk := 1) rfl hv1 (Or.inl rfl) rfl ?_
  refine lw_ref (k := ab_f2) rfl hl.2.2.1 rfl ?_
  refine lw_arg (j := 1) hl rfl rfl rfl rfl rfl rfl (hx 1 (by decide) (by decide)) ?_
  refine lw_arg (j := 2) hl rfl rfl rfl rfl rfl rfl (hx 2 (by decide) (by decide)) ?_
  obtain ⟨q2, q2a, q2b⟩ := sl_y S10
  refine lw_inv (vs := [.int (ar_w ro i 1), .int (ar_w ro i 2)]) (r := []) (rk := 1) rfl rfl pgX8_out rfl rfl rfl rfl q2a q2b ⟨Nat.le_of_ble_eq_true rfl, Nat.le_of_ble_eq_true rfl, by decide⟩ (cm_call (zm_f_out (ro := ro)) (by decide +kernel) (by decide) S10 (z2_w (ar_w ro i 1) (ar_w ro i 2)) rfl (b2_w (ar_w ro i 1) (ar_w ro i 2)) rfl) (fun v2 h20 y2 S20 hv2 => ?_)
  refine lw_pop (rk := 1) rfl hv2 (Or.inl rfl) rfl ?_
  exact lw_go rfl (by decide) rfl (hF _ _ _ _ hl S20 (Nat.le_refl _) (Nat.le_add_right _ _) (Nat.le_add_right _ _))
theorem ck_13 {ro : Nat → List Int32} (hro : ro 2 = [0, 1, 2, 3, 4, 4, 4, 4, 4, 4, 5, 5, 6, 6]) {lv : sm_L} {x m o : Nat} {i : Int32} {h : List sm_C} {c s : Nat} {F : ev_F} (hl : LV lv x m o i) (hx : ∀ j : Int, 0 ≤ j → j ≤ 5 → ix_w ro i j) (S0 : SL PB_w x m o h) (hF : KF ro x m o i c s F) : EV ro 636 lv [] h c s F := by
  refine lw_ref (k := ab_f1) rfl hl.2.1 rfl ?_
  obtain ⟨q1, q1a, q1b⟩ := sl_x S0
  refine lw_inv (vs := []) (r := []) (rk := 1) rfl rfl pgX7_loop rfl rfl rfl rfl q1a q1b ⟨Nat.le_of_ble_eq_true rfl, Nat.le_of_ble_eq_true rfl, by decide⟩ (cc_call (xs := []) (zc_f_loop (ro := ro)) (by decide +kernel) (by decide) S0 (fun _ => trivial) rfl trivial rfl) (fun v1 h10 y1 S10 hv1 => ?_)
  refine lw_pop (rk := 1) rfl hv1 (Or.inl rfl) rfl ?_
  refine lw_ref (k := ab_f2) rfl hl.2.2.1 rfl ?_
  obtain ⟨q2, q2a, q2b⟩ := sl_y S10
  refine lw_inv (vs := []) (r := []) (rk := 1) rfl rfl pgX8_loop rfl rfl rfl rfl q2a q2b ⟨Nat.le_of_ble_eq_true rfl, Nat.le_of_ble_eq_true rfl, by decide⟩ (cm_call (xs := []) (zm_f_loop (ro := ro)) (by decide +kernel) (by decide) S10 (fun _ => trivial) rfl trivial rfl) (fun v2 h20 y2 S20 hv2 => ?_)
  refine lw_pop (rk := 1) rfl hv2 (Or.inl rfl) rfl ?_
  exact lw_go rfl (by decide) rfl (hF _ _ _ _ hl S20 (Nat.le_refl _) (Nat.le_add_right _ _) (Nat.le_add_right _ _))
theorem ck_14 {ro : Nat → List Int32} (hro : ro 2 = [0, 1, 2, 3, 4, 4, 4, 4, 4, 4, 5, 5, 6, 6]) {lv : sm_L} {x m o : Nat} {i : Int32} {h : List sm_C} {c s : Nat} {F : ev_F} (hl : LV lv x m o i) (hx : ∀ j : Int, 0 ≤ j → j ≤ 5 → ix_w ro i j) (S0 : SL PB_w x m o h) (hF : KF ro x m o i c s F) : EV ro 649 lv [] h c s F := by
  refine lw_ref (k := ab_f1) rfl hl.2.1 rfl ?_
  refine lw_arg (j := 1) hl rfl rfl rfl rfl rfl rfl (hx 1 (by decide) (by decide)) ?_
  refine lw_arg (j := 2) hl rfl rfl rfl rfl rfl rfl (hx 2 (by decide) (by decide)) ?_
  refine lw_arg (j := 3) hl rfl rfl rfl rfl rfl rfl (hx 3 (by decide) (by decide)) ?_
  obtain ⟨q1, q1a, q1b⟩ := sl_x S0
  refine lw_inv (vs := [.int (ar_w ro i 1), .int (ar_w ro i 2), .int (ar_w ro i 3)]) (r := []) (rk := 3) rfl rfl pgX7_likely rfl rfl rfl rfl q1a q1b ⟨Nat.le_of_ble_eq_true rfl, Nat.le_of_ble_eq_true rfl, by decide⟩ (cc_call (zc_f_likely (ro := ro)) (by decide +kernel) (by decide) S0 (z3_w (ar_w ro i 1) (ar_w ro i 2) (ar_w ro i 3)) rfl (b3_w (ar_w ro i 1) (ar_w ro i 2) (ar_w ro i 3)) rfl) (fun v1 h10 y1 S10 hv1 => ?_)
  refine lw_pop2 rfl hv1 rfl ?_
  refine lw_ref (k := ab_f2) rfl hl.2.2.1 rfl ?_
  refine lw_arg (j := 1) hl rfl rfl rfl rfl rfl rfl (hx 1 (by decide) (by decide)) ?_
  refine lw_arg (j := 2) hl rfl rfl rfl rfl rfl rfl (hx 2 (by decide) (by decide)) ?_
  refine lw_arg (j := 3) hl rfl rfl rfl rfl rfl rfl (hx 3 (by decide) (by decide)) ?_
  obtain ⟨q2, q2a, q2b⟩ := sl_y S10
  refine lw_inv (vs := [.int (ar_w ro i 1), .int (ar_w ro i 2), .int (ar_w ro i 3)]) (r := []) (rk := 3) rfl rfl pgX8_likely rfl rfl rfl rfl q2a q2b ⟨Nat.le_of_ble_eq_true rfl, Nat.le_of_ble_eq_true rfl, by decide⟩ (cm_call (zm_f_likely (ro := ro)) (by decide +kernel) (by decide) S10 (z3_w (ar_w ro i 1) (ar_w ro i 2) (ar_w ro i 3)) rfl (b3_w (ar_w ro i 1) (ar_w ro i 2) (ar_w ro i 3)) rfl) (fun v2 h20 y2 S20 hv2 => ?_)
  refine lw_pop2 rfl hv2 rfl ?_
  exact lw_go rfl (by decide) rfl (hF _ _ _ _ hl S20 (Nat.le_refl _) (Nat.le_add_right _ _) (Nat.le_add_right _ _))
theorem ck_15 {ro : Nat → List Int32} (hro : ro 2 = [0, 1, 2, 3, 4, 4, 4, 4, 4, 4, 5, 5, 6, 6]) {lv : sm_L} {x m o : Nat} {i : Int32} {h : List sm_C} {c s : Nat} {F : ev_F} (hl : LV lv x m o i) (hx : ∀ j : Int, 0 ≤ j → j ≤ 5 → ix_w ro i j) (S0 : SL PB_w x m o h) (hF : KF ro x m o i c s F) : EV ro 698 lv [] h c s F := by
  refine lw_ref (k := ab_f1) rfl hl.2.1 rfl ?_
  refine lw_arg (j := 1) hl rfl rfl rfl rfl rfl rfl (hx 1 (by decide) (by decide)) ?_
  obtain ⟨q1, q1a, q1b⟩ := sl_x S0
  refine lw_inv (vs := [.int (ar_w ro i 1)]) (r := []) (rk := 1) rfl rfl pgX7_light rfl rfl rfl rfl q1a q1b ⟨Nat.le_of_ble_eq_true rfl, Nat.le_of_ble_eq_true rfl, by decide⟩ (cc_call (zc_f_light (ro := ro)) (by decide +kernel) (by decide) S0 (z1_w (ar_w ro i 1)) rfl (b1_w (ar_w ro i 1)) rfl) (fun v1 h10 y1 S10 hv1 => ?_)
  refine lw_pop (rk := 1) rfl hv1 (Or.inl rfl) rfl ?_
  refine lw_ref (k := ab_f2) rfl hl.2.2.1 rfl ?_
  refine lw_arg (j := 1) hl rfl rfl rfl rfl rfl rfl (hx 1 (by decide) (by decide)) ?_
  obtain ⟨q2, q2a, q2b⟩ := sl_y S10
  refine lw_inv (vs := [.int (ar_w ro i 1)]) (r := []) (rk := 1) rfl rfl pgX8_light rfl rfl rfl rfl q2a q2b ⟨Nat.le_of_ble_eq_true rfl, Nat.le_of_ble_eq_true rfl, by decide⟩ (cm_call (zm_f_light (ro := ro)) (by decide +kernel) (by decide) S10 (z1_w (ar_w ro i 1)) rfl (b1_w (ar_w ro i 1)) rfl) (fun v2 h20 y2 S20 hv2 => ?_)
  refine lw_pop (rk := 1) rfl hv2 (Or.inl rfl) rfl ?_
  exact lw_go rfl (by decide) rfl (hF _ _ _ _ hl S20 (Nat.le_refl _) (Nat.le_add_right _ _) (Nat.le_add_right _ _))
theorem ck_16 {ro : Nat → List Int32} (hro : ro 2 = [0, 1, 2, 3, 4, 4, 4, 4, 4, 4, 5, 5, 6, 6]) {lv : sm_L} {x m o : Nat} {i : Int32} {h : List sm_C} {c s : Nat} {F : ev_F} (hl : LV lv x m o i) (hx : ∀ j : Int, 0 ≤ j → j ≤ 5 → ix_w ro i j) (S0 : SL PB_w x m o h) (hF : KF ro x m o i c s F) : EV ro 723 lv [] h c s F := by
  refine lw_ref (k := ab_f1) rfl hl.2.1 rfl ?_
  refine lw_arg (j := 1) hl rfl rfl rfl rfl rfl rfl (hx 1 (by decide) (by decide)) ?_
  refine lw_arg (j := 2) hl rfl rfl rfl rfl rfl rfl (hx 2 (by decide) (by decide)) ?_
  obtain ⟨q1, q1a, q1b⟩ := sl_x S0
  refine lw_inv (vs := [.int (ar_w ro i 1), .int (ar_w ro i 2)]) (r := []) (rk := 1) rfl rfl pgX7_when rfl rfl rfl rfl q1a q1b ⟨Nat.le_of_ble_eq_true rfl, Nat.le_of_ble_eq_true rfl, by decide⟩ (cc_call (zc_f_when (ro := ro)) (by decide +kernel) (by decide) S0 (z2_w (ar_w ro i 1) (ar_w ro i 2)) rfl (b2_w (ar_w ro i 1) (ar_w ro i 2)) rfl) (fun v1 h10 y1 S10 hv1 => ?_)
  refine lw_pop (rk := 1) rfl hv1 (Or.inl rfl) rfl ?_
  refine lw_ref (k := ab_f2) rfl hl.2.2.1 rfl ?_
  refine lw_arg (j := 1) hl rfl rfl rfl rfl rfl rfl (hx 1 (by decide) (by decide)) ?_
  refine lw_arg (j := 2) hl rfl rfl rfl rfl rfl rfl (hx 2 (by decide) (by decide)) ?_
  obtain ⟨q2, q2a, q2b⟩ := sl_y S10
  refine lw_inv (vs := [.int (ar_w ro i 1), .int (ar_w ro i 2)]) (r := []) (rk := 1) rfl rfl pgX8_when rfl rfl rfl rfl q2a q2b ⟨Nat.le_of_ble_eq_true rfl, Nat.le_of_ble_eq_true rfl, by decide⟩ (cm_call (zm_f_when (ro := ro)) (by decide +kernel) (by decide) S10 (z2_w (ar_w ro i 1) (ar_w ro i 2)) rfl (b2_w (ar_w ro i 1) (ar_w ro i 2)) rfl) (fun v2 h20 y2 S20 hv2 => ?_)
  refine lw_pop (rk := 1) rfl hv2 (Or.inl rfl) rfl ?_
  exact lw_go rfl (by decide) rfl (hF _ _ _ _ hl S20 (Nat.le_refl _) (Nat.le_add_right _ _) (Nat.le_add_right _ _))
theorem ck_17 {ro : Nat → List Int32} (hro : ro 2 = [0, 1, 2, 3, 4, 4, 4, 4, 4, 4, 5, 5, 6, 6]) {lv : sm_L} {x m o : Nat} {i : Int32} {h : List sm_C} {c s : Nat} {F : ev_F} (hl : LV lv x m o i) (hx : ∀ j : Int, 0 ≤ j → j ≤ 5 → ix_w ro i j) (S0 : SL PB_w x m o h) (hF : KF ro x m o i c s F) : EV ro 760 lv [] h c s F := by
  refine lw_ref (k := ab_f1) rfl hl.2.1 rfl ?_
  obtain ⟨q1, q1a, q1b⟩ := sl_x S0
  refine lw_inv (vs := []) (r := []) (rk := 1) rfl rfl pgX7_plays rfl rfl rfl rfl q1a q1b ⟨Nat.le_of_ble_eq_true rfl, Nat.le_of_ble_eq_true rfl, by decide⟩ (cc_call (xs := []) (zc_f_plays (ro := ro)) (by decide +kernel) (by decide) S0 (fun _ => trivial) rfl trivial rfl) (fun v1 h10 y1 S10 hv1 => ?_)
  refine lw_pop (rk := 1) rfl hv1 (Or.inl rfl) rfl ?_
  refine lw_ref (k := ab_f2) rfl hl.2.2.1 rfl ?_
  obtain ⟨q2, q2a, q2b⟩ := sl_y S10
  refine lw_inv (vs := []) (r := []) (rk := 1) rfl rfl pgX8_plays rfl rfl rfl rfl q2a q2b ⟨Nat.le_of_ble_eq_true rfl, Nat.le_of_ble_eq_true rfl, by decide⟩ (cm_call (xs := []) (zm_f_plays (ro := ro)) (by decide +kernel) (by decide) S10 (fun _ => trivial) rfl trivial rfl) (fun v2 h20 y2 S20 hv2 => ?_)
  refine lw_pop (rk := 1) rfl hv2 (Or.inl rfl) rfl ?_
  exact lw_go rfl (by decide) rfl (hF _ _ _ _ hl S20 (Nat.le_refl _) (Nat.le_add_right _ _) (Nat.le_add_right _ _))
theorem ck_18 {ro : Nat → List Int32} (hro : ro 2 = [0, 1, 2, 3, 4, 4, 4, 4, 4, 4, 5, 5, 6, 6]) {lv : sm_L} {x m o : Nat} {i : Int32} {h : List sm_C} {c s : Nat} {F : ev_F} (hl : LV lv x m o i) (hx : ∀ j : Int, 0 ≤ j → j ≤ 5 → ix_w ro i j) (S0 : SL PB_w x m o h) (hF : KF ro x m o i c s F) : EV ro 773 lv [] h c s F := by
  refine lw_ref (k := ab_f1) rfl hl.2.1 rfl ?_
  refine lw_arg (j := 1) hl rfl rfl rfl rfl rfl rfl (hx 1 (by decide) (by decide)) ?_
  obtain ⟨q1, q1a, q1b⟩ := sl_x S0
  refine lw_inv (vs := [.int (ar_w ro i 1)]) (r := []) (rk := 1) rfl rfl pgX7_missed rfl rfl rfl rfl q1a q1b ⟨Nat.le_of_ble_eq_true rfl, Nat.le_of_ble_eq_true rfl, by decide⟩ (cc_call (zc_f_missed (ro := ro)) (by decide +kernel) (by decide) S0 (z1_w (ar_w ro i 1)) rfl (b1_w (ar_w ro i 1)) rfl) (fun v1 h10 y1 S10 hv1 => ?_)
  refine lw_pop (rk := 1) rfl hv1 (Or.inl rfl) rfl ?_
  refine lw_ref (k := ab_f2) rfl hl.2.2.1 rfl ?_
  refine lw_arg (j := 1) hl rfl rfl rfl rfl rfl rfl (hx 1 (by decide) (by decide)) ?_
  obtain ⟨q2, q2a, q2b⟩ := sl_y S10
  refine lw_inv (vs := [.int (ar_w ro i 1)]) (r := []) (rk := 1) rfl rfl pgX8_missed rfl rfl rfl rfl q2a q2b ⟨Nat.le_of_ble_eq_true rfl, Nat.le_of_ble_eq_true rfl, by decide⟩ (cm_call (zm_f_missed (ro := ro)) (by decide +kernel) (by decide) S10 (z1_w (ar_w ro i 1)) rfl (b1_w (ar_w ro i 1)) rfl) (fun v2 h20 y2 S20 hv2 => ?_)
  refine lw_pop (rk := 1) rfl hv2 (Or.inl rfl) rfl ?_
  exact lw_go rfl (by decide) rfl (hF _ _ _ _ hl S20 (Nat.le_refl _) (Nat.le_add_right _ _) (Nat.le_add_right _ _))
theorem ck_19 {ro : Nat → List Int32} (hro : ro 2 = [0, 1, 2, 3, 4, 4, 4, 4, 4, 4, 5, 5, 6, 6]) {lv : sm_L} {x m o : Nat} {i : Int32} {h : List sm_C} {c s : Nat} {F : ev_F} (hl : LV lv x m o i) (hx : ∀ j : Int, 0 ≤ j → j ≤ 5 → ix_w ro i j) (S0 : SL PB_w x m o h) (hF : KF ro x m o i c s F) : EV ro 798 lv [] h c s F := by
  refine lw_ref (k := ab_f1) rfl hl.2.1 rfl ?_
  refine lw_arg (j := 1) hl rfl rfl rfl rfl rfl rfl (hx 1 (by decide) (by decide)) ?_
  refine lw_arg (j := 2) hl rfl rfl rfl rfl rfl rfl (hx 2 (by decide) (by decide)) ?_
  obtain ⟨q1, q1a, q1b⟩ := sl_x S0
  refine lw_inv (vs := [.int (ar_w ro i 1), .int (ar_w ro i 2)]) (r := []) (rk := 1) rfl rfl pgX7_rests rfl rfl rfl rfl q1a q1b ⟨Nat.le_of_ble_eq_true rfl, Nat.le_of_ble_eq_true rfl, by decide⟩ (cc_call (zc_f_rests (ro := ro)) (by decide +kernel) (by decide) S0 (z2_w (ar_w ro i 1) (ar_w ro i 2)) rfl (b2_w (ar_w ro i 1) (ar_w ro i 2)) rfl) (fun v1 h10 y1 S10 hv1 => ?_)
  refine lw_pop (rk := 1) rfl hv1 (Or.inl rfl) rfl ?_
  refine lw_ref (k := ab_f2) rfl hl.2.2.1 rfl ?_
  refine lw_arg (j := 1) hl rfl rfl rfl rfl rfl rfl (hx 1 (by decide) (by decide)) ?_
  refine lw_arg (j := 2) hl rfl rfl rfl rfl rfl rfl (hx 2 (by decide) (by decide)) ?_
  obtain ⟨q2, q2a, q2b⟩ := sl_y S10
  refine lw_inv (vs := [.int (ar_w ro i 1), .int (ar_w ro i 2)]) (r := []) (rk := 1) rfl rfl pgX8_rests rfl rfl rfl rfl q2a q2b ⟨Nat.le_of_ble_eq_true rfl, Nat.le_of_ble_eq_true rfl, by decide⟩ (cm_call (zm_f_rests (ro := ro)) (by decide +kernel) (by decide) S10 (z2_w (ar_w ro i 1) (ar_w ro i 2)) rfl (b2_w (ar_w ro i 1) (ar_w ro i 2)) rfl) (fun v2 h20 y2 S20 hv2 => ?_)
  refine lw_pop (rk := 1) rfl hv2 (Or.inl rfl) rfl ?_
  exact lw_go rfl (by decide) rfl (hF _ _ _ _ hl S20 (Nat.le_refl _) (Nat.le_add_right _ _) (Nat.le_add_right _ _))
theorem ck_20 {ro : Nat → List Int32} (hro : ro 2 = [0, 1, 2, 3, 4, 4, 4, 4, 4, 4, 5, 5, 6, 6]) {lv : sm_L} {x m o : Nat} {i : Int32} {h : List sm_C} {c s : Nat} {F : ev_F} (hl : LV lv x m o i) (hx : ∀ j : Int, 0 ≤ j → j ≤ 5 → ix_w ro i j) (S0 : SL PB_w x m o h) (hF : KF ro x m o i c s F) : EV ro 835 lv [] h c s F := by
  refine lw_ref (k := ab_f1) rfl hl.2.1 rfl ?_
  refine lw_arg (j := 1) hl rfl rfl rfl rfl rfl rfl (hx 1 (by decide) (by decide)) ?_
  refine lw_arg (j := 2) hl rfl rfl rfl rfl rfl rfl (hx 2 (by decide) (by decide)) ?_
  refine lw_arg (j := 3) hl rfl rfl rfl rfl rfl rfl (hx 3 (by decide) (by decide)) ?_
  obtain ⟨q1, q1a, q1b⟩ := sl_x S0
  refine lw_inv (vs := [.int (ar_w ro i 1), .int (ar_w ro i 2), .int (ar_w ro i 3)]) (r := []) (rk := 1) rfl rfl pgX7_rest rfl rfl rfl rfl q1a q1b ⟨Nat.le_of_ble_eq_true rfl, Nat.le_of_ble_eq_true rfl, by decide⟩ (cc_call (zc_f_rest (ro := ro)) (by decide +kernel) (by decide) S0 (z3_w (ar_w ro i 1) (ar_w ro i 2) (ar_w ro i 3)) rfl (b3_w (ar_w ro i 1) (ar_w ro i 2) (ar_w ro i 3)) rfl) (fun v1 h10 y1 S10 hv1 => ?_)
  refine lw_pop (rk := 1) rfl hv1 (Or.inl rfl) rfl ?_
  refine lw_ref (k := ab_f2) rfl hl.2.2.1 rfl ?_
  refine lw_arg (j := 1) hl rfl rfl rfl rfl rfl rfl (hx 1 (by decide) (by decide)) ?_
  refine lw_arg (j := 2) hl rfl rfl rfl rfl rfl rfl (hx 2 (by decide) (by decide)) ?_
  refine lw_arg (j := 3) hl rfl rfl rfl rfl rfl rfl (hx 3 (by decide) (by decide)) ?_
  obtain ⟨q2, q2a, q2b⟩ := sl_y S10
  refine lw_inv (vs := [.int (ar_w ro i 1), .int (ar_w ro i 2), .int (ar_w ro i 3)]) (r := []) (rk := 1) rfl rfl pgX8_rest rfl rfl rfl rfl q2a q2b ⟨Nat.le_of_ble_eq_true rfl, Nat.le_of_ble_eq_true rfl, by decide⟩ (cm_call (zm_f_rest (ro := ro)) (by decide +kernel) (by decide) S10 (z3_w (ar_w ro i 1) (ar_w ro i 2) (ar_w ro i 3)) rfl (b3_w (ar_w ro i 1) (ar_w ro i 2) (ar_w ro i 3)) rfl) (fun v2 h20 y2 S20 hv2 => ?_)
  refine lw_pop (rk := 1) rfl hv2 (Or.inl rfl) rfl ?_
  exact lw_go rfl (by decide) rfl (hF _ _ _ _ hl S20 (Nat.le_refl _) (Nat.le_add_right _ _) (Nat.le_add_right _ _))
theorem ck_21 {ro : Nat → List Int32} (hro : ro 2 = [0, 1, 2, 3, 4, 4, 4, 4, 4, 4, 5, 5, 6, 6]) {lv : sm_L} {x m o : Nat} {i : Int32} {h : List sm_C} {c s : Nat} {F : ev_F} (hl : LV lv x m o i) (hx : ∀ j : Int, 0 ≤ j → j ≤ 5 → ix_w ro i j) (S0 : SL PB_w x m o h) (hF : KF ro x m o i c s F) : EV ro 884 lv [] h c s F := by
  refine lw_ref (k := ab_f1) rfl hl.2.1 rfl ?_
  refine lw_arg (j := 1) hl rfl rfl rfl rfl rfl rfl (hx 1 (by decide) (by decide)) ?_
  obtain ⟨q1, q1a, q1b⟩ := sl_x S0
  refine lw_inv (vs := [.int (ar_w ro i 1)]) (r := []) (rk := 1) rfl rfl pgX7_needle rfl rfl rfl rfl q1a q1b ⟨Nat.le_of_ble_eq_true rfl, Nat.le_of_ble_eq_true rfl, by decide⟩ (cc_needle S0 (ar_w ro i 1)) (fun v1 h10 y1 S10 hv1 => ?_)
  refine lw_pop (rk := 1) rfl hv1 (Or.inl rfl) rfl ?_
  refine lw_ref (k := ab_f2) rfl hl.2.2.1 rfl ?_
  refine lw_arg (j := 1) hl rfl rfl rfl rfl rfl rfl (hx 1 (by decide) (by decide)) ?_
  obtain ⟨q2, q2a, q2b⟩ := sl_y S10
  refine lw_inv (vs := [.int (ar_w ro i 1)]) (r := []) (rk := 1) rfl rfl pgX8_needle rfl rfl rfl rfl q2a q2b ⟨Nat.le_of_ble_eq_true rfl, Nat.le_of_ble_eq_true rfl, by decide⟩ (cm_needle S10) (fun v2 h20 y2 S20 hv2 => ?_)
  obtain ⟨yy, S20⟩ := sl_a S20
  refine lw_pop (rk := 1) rfl hv2 (Or.inl rfl) rfl ?_
  exact lw_go rfl (by decide) rfl (hF _ _ _ _ hl S20 (Nat.le_refl _) (Nat.le_add_right _ _) (Nat.le_add_right _ _))
theorem ck_22 {ro : Nat → List Int32} (hro : ro 2 = [0, 1, 2, 3, 4, 4, 4, 4, 4, 4, 5, 5, 6, 6]) {lv : sm_L} {x m o : Nat} {i : Int32} {h : List sm_C} {c s : Nat} {F : ev_F} (hl : LV lv x m o i) (hx : ∀ j : Int, 0 ≤ j → j ≤ 5 → ix_w ro i j) (S0 : SL PB_w x m o h) (hF : KF ro x m o i c s F) : EV ro 909 lv [] h c s F := by
  refine lw_ref (k := ab_f1) rfl hl.2.1 rfl ?_
  obtain ⟨q1, q1a, q1b⟩ := sl_x S0
  refine lw_inv (vs := []) (r := []) (rk := 1) rfl rfl pgX7_most rfl rfl rfl rfl q1a q1b ⟨Nat.le_of_ble_eq_true rfl, Nat.le_of_ble_eq_true rfl, by decide⟩ (cc_call (xs := []) (zc_f_most (ro := ro)) (by decide +kernel) (by decide) S0 (fun _ => trivial) rfl trivial rfl) (fun v1 h10 y1 S10 hv1 => ?_)
  refine lw_pop (rk := 1) rfl hv1 (Or.inl rfl) rfl ?_
  refine lw_ref (k := ab_f2) rfl hl.2.2.1 rfl ?_
  obtain ⟨q2, q2a, q2b⟩ := sl_y S10
  refine lw_inv (vs := []) (r := []) (rk := 1) rfl rfl pgX8_most rfl rfl rfl rfl q2a q2b ⟨Nat.le_of_ble_eq_true rfl, Nat.le_of_ble_eq_true rfl, by decide⟩ (cm_call (xs := []) (zm_f_most (ro := ro)) (by decide +kernel) (by decide) S10 (fun _ => trivial) rfl trivial rfl) (fun v2 h20 y2 S20 hv2 => ?_)
  refine lw_pop (rk := 1) rfl hv2 (Or.inl rfl) rfl ?_
  exact lw_go rfl (by decide) rfl (hF _ _ _ _ hl S20 (Nat.le_refl _) (Nat.le_add_right _ _) (Nat.le_add_right _ _))
theorem ck_23 {ro : Nat → List Int32} (hro : ro 2 = [0, 1, 2, 3, 4, 4, 4, 4, 4, 4, 5, 5, 6, 6]) {lv : sm_L} {x m o : Nat} {i : Int32} {h : List sm_C} {c s : Nat} {F : ev_F} (hl : LV lv x m o i) (hx : ∀ j : Int, 0 ≤ j → j ≤ 5 → ix_w ro i j) (S0 : SL PB_w x m o h) (hF : KF ro x m o i c s F) : EV ro 922 lv [] h c s F := by
  refine lw_ref (k := ab_f1) rfl hl.2.1 rfl ?_
  refine lw_arg (j := 1) hl rfl rfl rfl rfl rfl rfl (hx 1 (by decide) (by decide)) ?_
  refine lw_arg (j := 2) hl rfl rfl rfl rfl rfl rfl (hx 2 (by decide) (by decide)) ?_
  obtain ⟨q1, q1a, q1b⟩ := sl_x S0
  refine lw_inv (vs := [.int (ar_w ro i 1), .int (ar_w ro i 2)]) (r := []) (rk := 1) rfl rfl pgX7_reaches rfl rfl rfl rfl q1a q1b ⟨Nat.le_of_ble_eq_true rfl, Nat.le_of_ble_eq_true rfl, by decide⟩ (cc_call (zc_f_reaches (ro := ro)) (by decide +kernel) (by decide) S0 (z2_w (ar_w ro i 1) (ar_w ro i 2)) rfl (b2_w (ar_w ro i 1) (ar_w ro i 2)) rfl) (fun v1 h10 y1 S10 hv1 => ?_)
  refine lw_pop (rk := 1) rfl hv1 (Or.inl rfl) rfl ?_
  refine lw_ref (k := ab_f2) rfl hl.2.2.1 rfl ?_
  refine lw_arg (j := 1) hl rfl rfl rfl rfl rfl rfl (hx 1 (by decide) (by decide)) ?_
  refine lw_arg (j := 2) hl rfl rfl rfl rfl rfl rfl (hx 2 (by decide) (by decide)) ?_
  obtain ⟨q2, q2a, q2b⟩ := sl_y S10
  refine lw_inv (vs := [.int (ar_w ro i 1), .int (ar_w ro i 2)]) (r := []) (rk := 1) rfl rfl pgX8_reaches rfl rfl rfl rfl q2a q2b ⟨Nat.le_of_ble_eq_true rfl, Nat.le_of_ble_eq_true rfl, by decide⟩ (cm_call (zm_f_reaches (ro := ro)) (by decide +kernel) (by decide) S10 (z2_w (ar_w ro i 1) (ar_w ro i 2)) rfl (b2_w (ar_w ro i 1) (ar_w ro i 2)) rfl) (fun v2 h20 y2 S20 hv2 => ?_)
  refine lw_pop (rk := 1) rfl hv2 (Or.inl rfl) rfl ?_
  exact lw_go rfl (by decide) rfl (hF _ _ _ _ hl S20 (Nat.le_refl _) (Nat.le_add_right _ _) (Nat.le_add_right _ _))
theorem ck_24 {ro : Nat → List Int32} (hro : ro 2 = [0, 1, 2, 3, 4, 4, 4, 4, 4, 4, 5, 5, 6, 6]) {lv : sm_L} {x m o : Nat} {i : Int32} {h : List sm_C} {c s : Nat} {F : ev_F} (hl : LV lv x m o i) (hx : ∀ j : Int, 0 ≤ j → j ≤ 5 → ix_w ro i j) (S0 : SL PB_w x m o h) (hF : KF ro x m o i c s F) : EV ro 959 lv [] h c s F := by
  refine lw_ref (k := ab_f1) rfl hl.2.1 rfl ?_
  refine lw_arg (j := 1) hl rfl rfl rfl rfl rfl rfl (hx 1 (by decide) (by decide)) ?_
  obtain ⟨q1, q1a, q1b⟩ := sl_x S0
  refine lw_inv (vs := [.int (ar_w ro i 1)]) (r := []) (rk := 1) rfl rfl pgX7_bestBit rfl rfl rfl rfl q1a q1b ⟨Nat.le_of_ble_eq_true rfl, Nat.le_of_ble_eq_true rfl, by decide⟩ (cc_bestBit S0 (ar_w ro i 1)) (fun v1 h10 y1 S10 hv1 => ?_)
  refine lw_pop (rk := 1) rfl hv1 (Or.inl rfl) rfl ?_
  refine lw_ref (k := ab_f2) rfl hl.2.2.1 rfl ?_
  refine lw_arg (j := 1) hl rfl rfl rfl rfl rfl rfl (hx 1 (by decide) (by decide)) ?_
  obtain ⟨q2, q2a, q2b⟩ := sl_y S10
  refine lw_inv (vs := [.int (ar_w ro i 1)]) (r := []) (rk := 1) rfl rfl pgX8_bestBit rfl rfl rfl rfl q2a q2b ⟨Nat.le_of_ble_eq_true rfl, Nat.le_of_ble_eq_true rfl, by decide⟩ (cm_bestBit S10) (fun v2 h20 y2 S20 hv2 => ?_)
  obtain ⟨yy, S20⟩ := sl_a S20
  refine lw_pop (rk := 1) rfl hv2 (Or.inl rfl) rfl ?_
  exact lw_go rfl (by decide) rfl (hF _ _ _ _ hl S20 (Nat.le_refl _) (Nat.le_add_right _ _) (Nat.le_add_right _ _))
theorem ck_25 {ro : Nat → List Int32} (hro : ro 2 = [0, 1, 2, 3, 4, 4, 4, 4, 4, 4, 5, 5, 6, 6]) {lv : sm_L} {x m o : Nat} {i : Int32} {h : List sm_C} {c s : Nat} {F : ev_F} (hl : LV lv x m o i) (hx : ∀ j : Int, 0 ≤ j → j ≤ 5 → ix_w ro i j) (S0 : SL PB_w x m o h) (hF : KF ro x m o i c s F) : EV ro 984 lv [] h c s F := by
  refine lw_ref (k := ab_f1) rfl hl.2.1 rfl ?_
  refine lw_arg (j := 1) hl rfl rfl rfl rfl rfl rfl (hx 1 (by decide) (by decide)) ?_
  refine lw_arg (j := 2) hl rfl rfl rfl rfl rfl rfl (hx 2 (by decide) (by decide)) ?_
  refine lw_arg (j := 3) hl rfl rfl rfl rfl rfl rfl (hx 3 (by decide) (by decide)) ?_
  obtain ⟨q1, q1a, q1b⟩ := sl_x S0
  refine lw_inv (vs := [.int (ar_w ro i 1), .int (ar_w ro i 2), .int (ar_w ro i 3)]) (r := []) (rk := 1) rfl rfl pgX7_rule rfl rfl rfl rfl q1a q1b ⟨Nat.le_of_ble_eq_true rfl, Nat.le_of_ble_eq_true rfl, by decide⟩ (cc_call (zc_f_rule (ro := ro)) (by decide +kernel) (by decide) S0 (z3_w (ar_w ro i 1) (ar_w ro i 2) (ar_w ro i 3)) rfl (b3_w (ar_w ro i 1) (ar_w ro i 2) (ar_w ro i 3)) rfl) (fun v1 h10 y1 S10 hv1 => ?_)
  refine lw_pop (rk := 1) rfl hv1 (Or.inl rfl) rfl ?_
  refine lw_ref (k := ab_f2) rfl hl.2.2.1 rfl ?_
  refine lw_arg (j := 1) hl rfl rfl rfl rfl rfl rfl (hx 1 (by decide) (by decide)) ?_
  refine lw_arg (j := 2) hl rfl rfl rfl rfl rfl rfl (hx 2 (by decide) (by decide)) ?_
  refine lw_arg (j := 3) hl rfl rfl rfl rfl rfl rfl (hx 3 (by decide) (by decide)) ?_
  obtain ⟨q2, q2a, q2b⟩ := sl_y S10
  refine lw_inv (vs := [.int (ar_w ro i 1), .int (ar_w ro i 2), .int (ar_w ro i 3)]) (r := []) (rk := 1) rfl rfl pgX8_rule rfl rfl rfl rfl q2a q2b ⟨Nat.le_of_ble_eq_true rfl, Nat.le_of_ble_eq_true rfl, by decide⟩ (cm_call (zm_f_rule (ro := ro)) (by decide +kernel) (by decide) S10 (z3_w (ar_w ro i 1) (ar_w ro i 2) (ar_w ro i 3)) rfl (b3_w (ar_w ro i 1) (ar_w ro i 2) (ar_w ro i 3)) rfl) (fun v2 h20 y2 S20 hv2 => ?_)
  refine lw_pop (rk := 1) rfl hv2 (Or.inl rfl) rfl ?_
  exact lw_go rfl (by decide) rfl (hF _ _ _ _ hl S20 (Nat.le_refl _) (Nat.le_add_right _ _) (Nat.le_add_right _ _))
theorem ck_26 {ro : Nat → List Int32} (hro : ro 2 = [0, 1, 2, 3, 4, 4, 4, 4, 4, 4, 5, 5, 6, 6]) {lv : sm_L} {x m o : Nat} {i : Int32} {h : List sm_C} {c s : Nat} {F : ev_F} (hl : LV lv x m o i) (hx : ∀ j : Int, 0 ≤ j → j ≤ 5 → ix_w ro i j) (S0 : SL PB_w x m o h) (hF : KF ro x m o i c s F) : EV ro 1033 lv [] h c s F := by
  refine lw_ref (k := ab_f1) rfl hl.2.1 rfl ?_
  refine lw_arg (j := 1) hl rfl rfl rfl rfl rfl rfl (hx 1 (by decide) (by decide)) ?_
  refine lw_arg (j := 2) hl rfl rfl rfl rfl rfl rfl (hx 2 (by decide) (by decide)) ?_
  obtain ⟨q1, q1a, q1b⟩ := sl_x S0
  refine lw_inv (vs := [.int (ar_w ro i 1), .int (ar_w ro i 2)]) (r := []) (rk := 1) rfl rfl pgX7_bestRule rfl rfl rfl rfl q1a q1b ⟨Nat.le_of_ble_eq_true rfl, Nat.le_of_ble_eq_true rfl, by decide⟩ (cc_call (zc_f_bestRule (ro := ro)) (by decide +kernel) (by decide) S0 (z2_w (ar_w ro i 1) (ar_w ro i 2)) rfl (b2_w (ar_w ro i 1) (ar_w ro i 2)) rfl) (fun v1 h10 y1 S10 hv1 => ?_)
  refine lw_pop (rk := 1) rfl hv1 (Or.inl rfl) rfl ?_
  refine lw_ref (k := ab_f2) rfl hl.2.2.1 rfl ?_
  refine lw_arg (j := 1) hl rfl rfl rfl rfl rfl rfl (hx 1 (by decide) (by decide)) ?_
  refine lw_arg (j := 2) hl rfl rfl rfl rfl rfl rfl (hx 2 (by decide) (by decide)) ?_
  obtain ⟨q2, q2a, q2b⟩ := sl_y S10
  refine lw_inv (vs := [.int (ar_w ro i 1), .int (ar_w ro i 2)]) (r := []) (rk := 1) rfl rfl pgX8_bestRule rfl rfl rfl rfl q2a q2b ⟨Nat.le_of_ble_eq_true rfl, Nat.le_of_ble_eq_true rfl, by decide⟩ (cm_call (zm_f_bestRule (ro := ro)) (by decide +kernel) (by decide) S10 (z2_w (ar_w ro i 1) (ar_w ro i 2)) rfl (b2_w (ar_w ro i 1) (ar_w ro i 2)) rfl) (fun v2 h20 y2 S20 hv2 => ?_)
  refine lw_pop (rk := 1) rfl hv2 (Or.inl rfl) rfl ?_
  exact lw_go rfl (by decide) rfl (hF _ _ _ _ hl S20 (Nat.le_refl _) (Nat.le_add_right _ _) (Nat.le_add_right _ _))
theorem ck_27 {ro : Nat → List Int32} (hro : ro 2 = [0, 1, 2, 3, 4, 4, 4, 4, 4, 4, 5, 5, 6, 6]) {lv : sm_L} {x m o : Nat} {i : Int32} {h : List sm_C} {c s : Nat} {F : ev_F} (hl : LV lv x m o i) (hx : ∀ j : Int, 0 ≤ j → j ≤ 5 → ix_w ro i j) (S0 : SL PB_w x m o h) (hF : KF ro x m o i c s F) : EV ro 1070 lv [] h c s F := by
  refine lw_ref (k := ab_f1) rfl hl.2.1 rfl ?_
  refine lw_arg (j := 1) hl rfl rfl rfl rfl rfl rfl (hx 1 (by decide) (by decide)) ?_
  refine lw_arg (j := 2) hl rfl rfl rfl rfl rfl rfl (hx 2 (by decide) (by decide)) ?_
  obtain ⟨q1, q1a, q1b⟩ := sl_x S0
  refine lw_inv (vs := [.int (ar_w ro i 1), .int (ar_w ro i 2)]) (r := []) (rk := 1) rfl rfl pgX7_gets rfl rfl rfl rfl q1a q1b ⟨Nat.le_of_ble_eq_true rfl, Nat.le_of_ble_eq_true rfl, by decide⟩ (cc_call (zc_f_gets (ro := ro)) (by decide +kernel) (by decide) S0 (z2_w (ar_w ro i 1) (ar_w ro i 2)) rfl (b2_w (ar_w ro i 1) (ar_w ro i 2)) rfl) (fun v1 h10 y1 S10 hv1 => ?_)
  refine lw_pop (rk := 1) rfl hv1 (Or.inl rfl) rfl ?_
  refine lw_ref (k := ab_f2) rfl hl.2.2.1 rfl ?_
  refine lw_arg (j := 1) hl rfl rfl rfl rfl rfl rfl (hx 1 (by decide) (by decide)) ?_
  refine lw_arg (j := 2) hl rfl rfl rfl rfl rfl rfl (hx 2 (by decide) (by decide)) ?_
  obtain ⟨q2, q2a, q2b⟩ := sl_y S10
  refine lw_inv (vs := [.int (ar_w ro i 1), .int (ar_w ro i 2)]) (r := []) (rk := 1) rfl rfl pgX8_gets rfl rfl rfl rfl q2a q2b ⟨Nat.le_of_ble_eq_true rfl, Nat.le_of_ble_eq_true rfl, by decide⟩ (cm_call (zm_f_gets (ro := ro)) (by decide +kernel) (by decide) S10 (z2_w (ar_w ro i 1) (ar_w ro i 2)) rfl (b2_w (ar_w ro i 1) (ar_w ro i 2)) rfl) (fun v2 h20 y2 S20 hv2 => ?_)
  refine lw_pop (rk := 1) rfl hv2 (Or.inl rfl) rfl ?_
  exact lw_go rfl (by decide) rfl (hF _ _ _ _ hl S20 (Nat.le_refl _) (Nat.le_add_right _ _) (Nat.le_add_right _ _))
theorem ck_28 {ro : Nat → List Int32} (hro : ro 2 = [0, 1, 2, 3, 4, 4, 4, 4, 4, 4, 5, 5, 6, 6]) {lv : sm_L} {x m o : Nat} {i : Int32} {h : List sm_C} {c s : Nat} {F : ev_F} (hl : LV lv x m o i) (hx : ∀ j : Int, 0 ≤ j → j ≤ 5 → ix_w ro i j) (S0 : SL PB_w x m o h) (hF : KF ro x m o i c s F) : EV ro 1107 lv [] h c s F := by
  refine lw_ref (k := ab_f1) rfl hl.2.1 rfl ?_
  refine lw_arg (j := 1) hl rfl rfl rfl rfl rfl rfl (hx 1 (by decide) (by decide)) ?_
  obtain ⟨q1, q1a, q1b⟩ := sl_x S0
  refine lw_inv (vs := [.int (ar_w ro i 1)]) (r := []) (rk := 1) rfl rfl pgX7_tames rfl rfl rfl rfl q1a q1b ⟨Nat.le_of_ble_eq_true rfl, Nat.le_of_ble_eq_true rfl, by decide⟩ (cc_call (zc_f_tames (ro := ro)) (by decide +kernel) (by decide) S0 (z1_w (ar_w ro i 1)) rfl (b1_w (ar_w ro i 1)) rfl) (fun v1 h10 y1 S10 hv1 => ?_)
  refine lw_pop (rk := 1) rfl hv1 (Or.inl rfl) rfl ?_
  refine lw_ref (k := ab_f2) rfl hl.2.2.1 rfl ?_
  refine lw_arg (j := 1) hl rfl rfl rfl rfl rfl rfl (hx 1 (by decide) (by decide)) ?_
  obtain ⟨q2, q2a, q2b⟩ := sl_y S10
  refine lw_inv (vs := [.int (ar_w ro i 1)]) (r := []) (rk := 1) rfl rfl pgX8_tames rfl rfl rfl rfl q2a q2b ⟨Nat.le_of_ble_eq_true rfl, Nat.le_of_ble_eq_true rfl, by decide⟩ (cm_call (zm_f_tames (ro := ro)) (by decide +kernel) (by decide) S10 (z1_w (ar_w ro i 1)) rfl (b1_w (ar_w ro i 1)) rfl) (fun v2 h20 y2 S20 hv2 => ?_)
  refine lw_pop (rk := 1) rfl hv2 (Or.inl rfl) rfl ?_
  exact lw_go rfl (by decide) rfl (hF _ _ _ _ hl S20 (Nat.le_refl _) (Nat.le_add_right _ _) (Nat.le_add_right _ _))
theorem ck_29 {ro : Nat → List Int32} (hro : ro 2 = [0, 1, 2, 3, 4, 4, 4, 4, 4, 4, 5, 5, 6, 6]) {lv : sm_L} {x m o : Nat} {i : Int32} {h : List sm_C} {c s : Nat} {F : ev_F} (hl : LV lv x m o i) (hx : ∀ j : Int, 0 ≤ j → j ≤ 5 → ix_w ro i j) (S0 : SL PB_w x m o h) (hF : KF ro x m o i c s F) : EV ro 1132 lv [] h c s F := by
  refine lw_ref (k := ab_f1) rfl hl.2.1 rfl ?_
  refine lw_arg (j := 1) hl rfl rfl rfl rfl rfl rfl (hx 1 (by decide) (by decide)) ?_
  refine lw_arg (j := 2) hl rfl rfl rfl rfl rfl rfl (hx 2 (by decide) (by decide)) ?_
  refine lw_arg (j := 3) hl rfl rfl rfl rfl rfl rfl (hx 3 (by decide) (by decide)) ?_
  refine lw_bo rfl (by decide) rfl rfl rfl rfl rfl (by decide) rfl ?_
  obtain ⟨q1, q1a, q1b⟩ := sl_x S0
  refine lw_inv (vs := [.int (ar_w ro i 1), .int (ar_w ro i 2), .int (Int32.ofInt (bw_w (ar_w ro i 3)))]) (r := []) (rk := 1) rfl rfl pgX7_tape rfl rfl rfl rfl q1a q1b ⟨Nat.le_of_ble_eq_true rfl, Nat.le_of_ble_eq_true rfl, by decide⟩ (cc_tape S0 (ar_w ro i 1) (ar_w ro i 2) bw_b) (fun v1 h10 y1 S10 hv1 => ?_)
  refine lw_pop (rk := 1) rfl hv1 (Or.inl rfl) rfl ?_
  refine lw_ref (k := ab_f2) rfl hl.2.2.1 rfl ?_
  refine lw_arg (j := 1) hl rfl rfl rfl rfl rfl rfl (hx 1 (by decide) (by decide)) ?_
  refine lw_arg (j := 2) hl rfl rfl rfl rfl rfl rfl (hx 2 (by decide) (by decide)) ?_
  refine lw_arg (j := 3) hl rfl rfl rfl rfl rfl rfl (hx 3 (by decide) (by decide)) ?_
  refine lw_bo rfl (by decide) rfl rfl rfl rfl rfl (by decide) rfl ?_
  obtain ⟨q2, q2a, q2b⟩ := sl_y S10
  refine lw_inv (vs := [.int (ar_w ro i 1), .int (ar_w ro i 2), .int (Int32.ofInt (bw_w (ar_w ro i 3)))]) (r := []) (rk := 1) rfl rfl pgX8_tape rfl rfl rfl rfl q2a q2b ⟨Nat.le_of_ble_eq_true rfl, Nat.le_of_ble_eq_true rfl, by decide⟩ (cm_tape bw_b S10) (fun v2 h20 y2 S20 hv2 => ?_)
  obtain ⟨yy, S20⟩ := sl_a S20
  refine lw_pop (rk := 1) rfl hv2 (Or.inl rfl) rfl ?_
  exact lw_go rfl (by decide) rfl (hF _ _ _ _ hl S20 (Nat.le_refl _) (Nat.le_add_right _ _) (Nat.le_add_right _ _))
theorem ck_30 {ro : Nat → List Int32} (hro : ro 2 = [0, 1, 2, 3, 4, 4, 4, 4, 4, 4, 5, 5, 6, 6]) {lv : sm_L} {x m o : Nat} {i : Int32} {h : List sm_C} {c s : Nat} {F : ev_F} (hl : LV lv x m o i) (hx : ∀ j : Int, 0 ≤ j → j ≤ 5 → ix_w ro i j) (S0 : SL PB_w x m o h) (hF : KF ro x m o i c s F) : EV ro 1197 lv [] h c s F := by
  refine lw_ref (k := ab_f1) rfl hl.2.1 rfl ?_
  refine lw_arg (j := 1) hl rfl rfl rfl rfl rfl rfl (hx 1 (by decide) (by decide)) ?_
  obtain ⟨q1, q1a, q1b⟩ := sl_x S0
  refine lw_inv (vs := [.int (ar_w ro i 1)]) (r := []) (rk := 1) rfl rfl pgX7_strike rfl rfl rfl rfl q1a q1b ⟨Nat.le_of_ble_eq_true rfl, Nat.le_of_ble_eq_true rfl, by decide⟩ (cc_strike S0 (ar_w ro i 1)) (fun v1 h10 y1 S10 hv1 => ?_)
  rw [hv1.1]
  refine lw_ref (k := ab_f2) rfl hl.2.2.1 rfl ?_
  refine lw_arg (j := 1) hl rfl rfl rfl rfl rfl rfl (hx 1 (by decide) (by decide)) ?_
  obtain ⟨q2, q2a, q2b⟩ := sl_y S10
  refine lw_inv (vs := [.int (ar_w ro i 1)]) (r := [.int (Int32.ofInt y1)]) (rk := 1) rfl rfl pgX8_strike rfl rfl rfl rfl q2a q2b ⟨Nat.le_of_ble_eq_true rfl, Nat.le_of_ble_eq_true rfl, by decide⟩ (cm_strike S10) (fun v2 h20 y2 S20 hv2 => ?_)
  obtain ⟨yy, S20⟩ := sl_a S20
  rw [show v2 = some (.int (Int32.ofInt y1)) by rw [← yy]; exact hv2.1]
  exact lw_same rfl (by decide) rfl (hF _ _ _ _ hl S20 (Nat.le_refl _) (Nat.le_add_right _ _) (Nat.le_add_right _ _))
theorem ck_31 {ro : Nat → List Int32} (hro : ro 2 = [0, 1, 2, 3, 4, 4, 4, 4, 4, 4, 5, 5, 6, 6]) {lv : sm_L} {x m o : Nat} {i : Int32} {h : List sm_C} {c s : Nat} {F : ev_F} (hl : LV lv x m o i) (hx : ∀ j : Int, 0 ≤ j → j ≤ 5 → ix_w ro i j) (S0 : SL PB_w x m o h) (hF : KF ro x m o i c s F) : EV ro 1222 lv [] h c s F := by
  refine lw_ref (k := ab_f1) rfl hl.2.1 rfl ?_
  refine lw_arg (j := 1) hl rfl rfl rfl rfl rfl rfl (hx 1 (by decide) (by decide)) ?_
  obtain ⟨q1, q1a, q1b⟩ := sl_x S0
  refine lw_inv (vs := [.int (ar_w ro i 1)]) (r := []) (rk := 2) rfl rfl pgX7_known rfl rfl rfl rfl q1a q1b ⟨Nat.le_of_ble_eq_true rfl, Nat.le_of_ble_eq_true rfl, by decide⟩ (cc_known S0 (ar_w ro i 1)) (fun v1 h10 y1 S10 hv1 => ?_)
  refine lw_pop (rk := 2) rfl hv1 (Or.inr rfl) rfl ?_
  refine lw_ref (k := ab_f2) rfl hl.2.2.1 rfl ?_
  refine lw_arg (j := 1) hl rfl rfl rfl rfl rfl rfl (hx 1 (by decide) (by decide)) ?_
  obtain ⟨q2, q2a, q2b⟩ := sl_y S10
  refine lw_inv (vs := [.int (ar_w ro i 1)]) (r := []) (rk := 2) rfl rfl pgX8_known rfl rfl rfl rfl q2a q2b ⟨Nat.le_of_ble_eq_true rfl, Nat.le_of_ble_eq_true rfl, by decide⟩ (cm_known S10) (fun v2 h20 y2 S20 hv2 => ?_)
  obtain ⟨yy, S20⟩ := sl_a S20
  refine lw_pop (rk := 2) rfl hv2 (Or.inr rfl) rfl ?_
  exact lw_go rfl (by decide) rfl (hF _ _ _ _ hl S20 (Nat.le_refl _) (Nat.le_add_right _ _) (Nat.le_add_right _ _))
theorem ck_32 {ro : Nat → List Int32} (hro : ro 2 = [0, 1, 2, 3, 4, 4, 4, 4, 4, 4, 5, 5, 6, 6]) {lv : sm_L} {x m o : Nat} {i : Int32} {h : List sm_C} {c s : Nat} {F : ev_F} (hl : LV lv x m o i) (hx : ∀ j : Int, 0 ≤ j → j ≤ 5 → ix_w ro i j) (S0 : SL PB_w x m o h) (hF : KF ro x m o i c s F) : EV ro 1247 lv [] h c s F := by
  refine lw_ref (k := ab_f1) rfl hl.2.1 rfl ?_
  refine lw_arg (j := 1) hl rfl rfl rfl rfl rfl rfl (hx 1 (by decide) (by decide)) ?_
  obtain ⟨q1, q1a, q1b⟩ := sl_x S0
  refine lw_inv (vs := [.int (ar_w ro i 1)]) (r := []) (rk := 1) rfl rfl pgX7_threw rfl rfl rfl rfl q1a q1b ⟨Nat.le_of_ble_eq_true rfl, Nat.le_of_ble_eq_true rfl, by decide⟩ (cc_call (zc_f_threw (ro := ro)) (by decide +kernel) (by decide) S0 (z1_w (ar_w ro i 1)) rfl (b1_w (ar_w ro i 1)) rfl) (fun v1 h10 y1 S10 hv1 => ?_)
  refine lw_pop (rk := 1) rfl hv1 (Or.inl rfl) rfl ?_
  refine lw_ref (k := ab_f2) rfl hl.2.2.1 rfl ?_
  refine lw_arg (j := 1) hl rfl rfl rfl rfl rfl rfl (hx 1 (by decide) (by decide)) ?_
  obtain ⟨q2, q2a, q2b⟩ := sl_y S10
  refine lw_inv (vs := [.int (ar_w ro i 1)]) (r := []) (rk := 1) rfl rfl pgX8_threw rfl rfl rfl rfl q2a q2b ⟨Nat.le_of_ble_eq_true rfl, Nat.le_of_ble_eq_true rfl, by decide⟩ (cm_call (zm_f_threw (ro := ro)) (by decide +kernel) (by decide) S10 (z1_w (ar_w ro i 1)) rfl (b1_w (ar_w ro i 1)) rfl) (fun v2 h20 y2 S20 hv2 => ?_)
  refine lw_pop (rk := 1) rfl hv2 (Or.inl rfl) rfl ?_
  exact lw_go rfl (by decide) rfl (hF _ _ _ _ hl S20 (Nat.le_refl _) (Nat.le_add_right _ _) (Nat.le_add_right _ _))
theorem ck_33 {ro : Nat → List Int32} (hro : ro 2 = [0, 1, 2, 3, 4, 4, 4, 4, 4, 4, 5, 5, 6, 6]) {lv : sm_L} {x m o : Nat} {i : Int32} {h : List sm_C} {c s : Nat} {F : ev_F} (hl : LV lv x m o i) (hx : ∀ j : Int, 0 ≤ j → j ≤ 5 → ix_w ro i j) (S0 : SL PB_w x m o h) (hF : KF ro x m o i c s F) : EV ro 1272 lv [] h c s F := by
  refine lw_ref (k := ab_f1) rfl hl.2.1 rfl ?_
  refine lw_arg (j := 1) hl rfl rfl rfl rfl rfl rfl (hx 1 (by decide) (by decide)) ?_
  refine lw_arg (j := 2) hl rfl rfl rfl rfl rfl rfl (hx 2 (by decide) (by decide)) ?_
  obtain ⟨q1, q1a, q1b⟩ := sl_x S0
  refine lw_inv (vs := [.int (ar_w ro i 1), .int (ar_w ro i 2)]) (r := []) (rk := 1) rfl rfl pgX7_chance rfl rfl rfl rfl q1a q1b ⟨Nat.le_of_ble_eq_true rfl, Nat.le_of_ble_eq_true rfl, by decide⟩ (cc_call (zc_f_chance (ro := ro)) (by decide +kernel) (by decide) S0 (z2_w (ar_w ro i 1) (ar_w ro i 2)) rfl (b2_w (ar_w ro i 1) (ar_w ro i 2)) rfl) (fun v1 h10 y1 S10 hv1 => ?_)
  refine lw_pop (rk := 1) rfl hv1 (Or.inl rfl) rfl ?_
  refine lw_ref (k := ab_f2) rfl hl.2.2.1 rfl ?_
  refine lw_arg (j := 1) hl rfl rfl rfl rfl rfl rfl (hx 1 (by decide) (by decide)) ?_
  refine lw_arg (j := 2) hl rfl rfl rfl rfl rfl rfl (hx 2 (by decide) (by decide)) ?_
  obtain ⟨q2, q2a, q2b⟩ := sl_y S10
  refine lw_inv (vs := [.int (ar_w ro i 1), .int (ar_w ro i 2)]) (r := []) (rk := 1) rfl rfl pgX8_chance rfl rfl rfl rfl q2a q2b ⟨Nat.le_of_ble_eq_true rfl, Nat.le_of_ble_eq_true rfl, by decide⟩ (cm_call (zm_f_chance (ro := ro)) (by decide +kernel) (by decide) S10 (z2_w (ar_w ro i 1) (ar_w ro i 2)) rfl (b2_w (ar_w ro i 1) (ar_w ro i 2)) rfl) (fun v2 h20 y2 S20 hv2 => ?_)
  refine lw_pop (rk := 1) rfl hv2 (Or.inl rfl) rfl ?_
  exact lw_go rfl (by decide) rfl (hF _ _ _ _ hl S20 (Nat.le_refl _) (Nat.le_add_right _ _) (Nat.le_add_right _ _))
theorem ck_34 {ro : Nat → List Int32} (hro : ro 2 = [0, 1, 2, 3, 4, 4, 4, 4, 4, 4, 5, 5, 6, 6]) {lv : sm_L} {x m o : Nat} {i : Int32} {h : List sm_C} {c s : Nat} {F : ev_F} (hl : LV lv x m o i) (hx : ∀ j : Int, 0 ≤ j → j ≤ 5 → ix_w ro i j) (S0 : SL PB_w x m o h) (hF : KF ro x m o i c s F) : EV ro 1309 lv [] h c s F := by
  refine lw_ref (k := ab_f1) rfl hl.2.1 rfl ?_
  refine lw_arg (j := 1) hl rfl rfl rfl rfl rfl rfl (hx 1 (by decide) (by decide)) ?_
  refine lw_arg (j := 2) hl rfl rfl rfl rfl rfl rfl (hx 2 (by decide) (by decide)) ?_
  refine lw_arg (j := 3) hl rfl rfl rfl rfl rfl rfl (hx 3 (by decide) (by decide)) ?_
  obtain ⟨q1, q1a, q1b⟩ := sl_x S0
  refine lw_inv (vs := [.int (ar_w ro i 1), .int (ar_w ro i 2), .int (ar_w ro i 3)]) (r := []) (rk := 1) rfl rfl pgX7_tried rfl rfl rfl rfl q1a q1b ⟨Nat.le_of_ble_eq_true rfl, Nat.le_of_ble_eq_true rfl, by decide⟩ (cc_call (zc_f_tried (ro := ro)) (by decide +kernel) (by decide) S0 (z3_w (ar_w ro i 1) (ar_w ro i 2) (ar_w ro i 3)) rfl (b3_w (ar_w ro i 1) (ar_w ro i 2) (ar_w ro i 3)) rfl) (fun v1 h10 y1 S10 hv1 => ?_)
  refine lw_pop (rk := 1) rfl hv1 (Or.inl rfl) rfl ?_
  refine lw_ref (k := ab_f2) rfl hl.2.2.1 rfl ?_
  refine lw_arg (j := 1) hl rfl rfl rfl rfl rfl rfl (hx 1 (by decide) (by decide)) ?_
  refine lw_arg (j := 2) hl rfl rfl rfl rfl rfl rfl (hx 2 (by decide) (by decide)) ?_
  refine lw_arg (j := 3) hl rfl rfl rfl rfl rfl rfl (hx 3 (by decide) (by decide)) ?_
  obtain ⟨q2, q2a, q2b⟩ := sl_y S10
  refine lw_inv (vs := [.int (ar_w ro i 1), .int (ar_w ro i 2), .int (ar_w ro i 3)]) (r := []) (rk := 1) rfl rfl pgX8_tried rfl rfl rfl rfl q2a q2b ⟨Nat.le_of_ble_eq_true rfl, Nat.le_of_ble_eq_true rfl, by decide⟩ (cm_call (zm_f_tried (ro := ro)) (by decide +kernel) (by decide) S10 (z3_w (ar_w ro i 1) (ar_w ro i 2) (ar_w ro i 3)) rfl (b3_w (ar_w ro i 1) (ar_w ro i 2) (ar_w ro i 3)) rfl) (fun v2 h20 y2 S20 hv2 => ?_)
  refine lw_pop (rk := 1) rfl hv2 (Or.inl rfl) rfl ?_
  exact lw_go rfl (by decide) rfl (hF _ _ _ _ hl S20 (Nat.le_refl _) (Nat.le_add_right _ _) (Nat.le_add_right _ _))
theorem ck_35 {ro : Nat → List Int32} (hro : ro 2 = [0, 1, 2, 3, 4, 4, 4, 4, 4, 4, 5, 5, 6, 6]) {lv : sm_L} {x m o : Nat} {i : Int32} {h : List sm_C} {c s : Nat} {F : ev_F} (hl : LV lv x m o i) (hx : ∀ j : Int, 0 ≤ j → j ≤ 5 → ix_w ro i j) (S0 : SL PB_w x m o h) (hF : KF ro x m o i c s F) : EV ro 1358 lv [] h c s F := by
  refine lw_ref (k := ab_f1) rfl hl.2.1 rfl ?_
  obtain ⟨q1, q1a, q1b⟩ := sl_x S0
  refine lw_inv (vs := []) (r := []) (rk := 1) rfl rfl pgX7_undo rfl rfl rfl rfl q1a q1b ⟨Nat.le_of_ble_eq_true rfl, Nat.le_of_ble_eq_true rfl, by decide⟩ (cc_call (xs := []) (zc_f_undo (ro := ro)) (by decide +kernel) (by decide) S0 (fun _ => trivial) rfl trivial rfl) (fun v1 h10 y1 S10 hv1 => ?_)
  refine lw_pop (rk := 1) rfl hv1 (Or.inl rfl) rfl ?_
  refine lw_ref (k := ab_f2) rfl hl.2.2.1 rfl ?_
  obtain ⟨q2, q2a, q2b⟩ := sl_y S10
  refine lw_inv (vs := []) (r := []) (rk := 1) rfl rfl pgX8_undo rfl rfl rfl rfl q2a q2b ⟨Nat.le_of_ble_eq_true rfl, Nat.le_of_ble_eq_true rfl, by decide⟩ (cm_call (xs := []) (zm_f_undo (ro := ro)) (by decide +kernel) (by decide) S10 (fun _ => trivial) rfl trivial rfl) (fun v2 h20 y2 S20 hv2 => ?_)
  refine lw_pop (rk := 1) rfl hv2 (Or.inl rfl) rfl ?_
  exact lw_go rfl (by decide) rfl (hF _ _ _ _ hl S20 (Nat.le_refl _) (Nat.le_add_right _ _) (Nat.le_add_right _ _))
theorem ck_36 {ro : Nat → List Int32} (hro : ro 2 = [0, 1, 2, 3, 4, 4, 4, 4, 4, 4, 5, 5, 6, 6]) {lv : sm_L} {x m o : Nat} {i : Int32} {h : List sm_C} {c s : Nat} {F : ev_F} (hl : LV lv x m o i) (hx : ∀ j : Int, 0 ≤ j → j ≤ 5 → ix_w ro i j) (S0 : SL PB_w x m o h) (hF : KF ro x m o i c s F) : EV ro 1371 lv [] h c s F := by
  refine lw_ref (k := ab_f1) rfl hl.2.1 rfl ?_
  obtain ⟨q1, q1a, q1b⟩ := sl_x S0
  refine lw_inv (vs := []) (r := []) (rk := 1) rfl rfl pgX7_keep rfl rfl rfl rfl q1a q1b ⟨Nat.le_of_ble_eq_true rfl, Nat.le_of_ble_eq_true rfl, by decide⟩ (cc_call (xs := []) (zc_f_keep (ro := ro)) (by decide +kernel) (by decide) S0 (fun _ => trivial) rfl trivial rfl) (fun v1 h10 y1 S10 hv1 => ?_)
  refine lw_pop (rk := 1) rfl hv1 (Or.inl rfl) rfl ?_
  refine lw_ref (k := ab_f2) rfl hl.2.2.1 rfl ?_
  obtain ⟨q2, q2a, q2b⟩ := sl_y S10
  refine lw_inv (vs := []) (r := []) (rk := 1) rfl rfl pgX8_keep rfl rfl rfl rfl q2a q2b ⟨Nat.le_of_ble_eq_true rfl, Nat.le_of_ble_eq_true rfl, by decide⟩ (cm_call (xs := []) (zm_f_keep (ro := ro)) (by decide +kernel) (by decide) S10 (fun _ => trivial) rfl trivial rfl) (fun v2 h20 y2 S20 hv2 => ?_)
  refine lw_pop (rk := 1) rfl hv2 (Or.inl rfl) rfl ?_
  exact lw_go rfl (by decide) rfl (hF _ _ _ _ hl S20 (Nat.le_refl _) (Nat.le_add_right _ _) (Nat.le_add_right _ _))
theorem ck_37 {ro : Nat → List Int32} (hro : ro 2 = [0, 1, 2, 3, 4, 4, 4, 4, 4, 4, 5, 5, 6, 6]) {lv : sm_L} {x m o : Nat} {i : Int32} {h : List sm_C} {c s : Nat} {F : ev_F} (hl : LV lv x m o i) (hx : ∀ j : Int, 0 ≤ j → j ≤ 5 → ix_w ro i j) (S0 : SL PB_w x m o h) (hF : KF ro x m o i c s F) : EV ro 1384 lv [] h c s F := by
  refine lw_ref (k := ab_f1) rfl hl.2.1 rfl ?_
  obtain ⟨q1, q1a, q1b⟩ := sl_x S0
  refine lw_inv (vs := []) (r := []) (rk := 1) rfl rfl pgX7_back rfl rfl rfl rfl q1a q1b ⟨Nat.le_of_ble_eq_true rfl, Nat.le_of_ble_eq_true rfl, by decide⟩ (cc_call (xs := []) (zc_f_back (ro := ro)) (by decide +kernel) (by decide) S0 (fun _ => trivial) rfl trivial rfl) (fun v1 h10 y1 S10 hv1 => ?_)
  refine lw_pop (rk := 1) rfl hv1 (Or.inl rfl) rfl ?_
  refine lw_ref (k := ab_f2) rfl hl.2.2.1 rfl ?_
  obtain ⟨q2, q2a, q2b⟩ := sl_y S10
  refine lw_inv (vs := []) (r := []) (rk := 1) rfl rfl pgX8_back rfl rfl rfl rfl q2a q2b ⟨Nat.le_of_ble_eq_true rfl, Nat.le_of_ble_eq_true rfl, by decide⟩ (cm_call (xs := []) (zm_f_back (ro := ro)) (by decide +kernel) (by decide) S10 (fun _ => trivial) rfl trivial rfl) (fun v2 h20 y2 S20 hv2 => ?_)
  refine lw_pop (rk := 1) rfl hv2 (Or.inl rfl) rfl ?_
  exact lw_go rfl (by decide) rfl (hF _ _ _ _ hl S20 (Nat.le_refl _) (Nat.le_add_right _ _) (Nat.le_add_right _ _))
theorem ck_38 {ro : Nat → List Int32} (hro : ro 2 = [0, 1, 2, 3, 4, 4, 4, 4, 4, 4, 5, 5, 6, 6]) {lv : sm_L} {x m o : Nat} {i : Int32} {h : List sm_C} {c s : Nat} {F : ev_F} (hl : LV lv x m o i) (hx : ∀ j : Int, 0 ≤ j → j ≤ 5 → ix_w ro i j) (S0 : SL PB_w x m o h) (hF : KF ro x m o i c s F) : EV ro 1397 lv [] h c s F := by
  refine lw_ref (k := ab_f1) rfl hl.2.1 rfl ?_
  refine lw_arg (j := 1) hl rfl rfl rfl rfl rfl rfl (hx 1 (by decide) (by decide)) ?_
  obtain ⟨q1, q1a, q1b⟩ := sl_x S0
  refine lw_inv (vs := [.int (ar_w ro i 1)]) (r := []) (rk := 1) rfl rfl pgX7_count rfl rfl rfl rfl q1a q1b ⟨Nat.le_of_ble_eq_true rfl, Nat.le_of_ble_eq_true rfl, by decide⟩ (cc_call (zc_f_count (ro := ro)) (by decide +kernel) (by decide) S0 (z1_w (ar_w ro i 1)) rfl (b1_w (ar_w ro i 1)) rfl) (fun v1 h10 y1 S10 hv1 => ?_)
  refine lw_pop (rk := 1) rfl hv1 (Or.inl rfl) rfl ?_
  refine lw_ref (k := ab_f2) rfl hl.2.2.1 rfl ?_
  refine lw_arg (j := 1) hl rfl rfl rfl rfl rfl rfl (hx 1 (by decide) (by decide)) ?_
  obtain ⟨q2, q2a, q2b⟩ := sl_y S10
  refine lw_inv (vs := [.int (ar_w ro i 1)]) (r := []) (rk := 1) rfl rfl pgX8_count rfl rfl rfl rfl q2a q2b ⟨Nat.le_of_ble_eq_true rfl, Nat.le_of_ble_eq_true rfl, by decide⟩ (cm_call (zm_f_count (ro := ro)) (by decide +kernel) (by decide) S10 (z1_w (ar_w ro i 1)) rfl (b1_w (ar_w ro i 1)) rfl) (fun v2 h20 y2 S20 hv2 => ?_)
  refine lw_pop (rk := 1) rfl hv2 (Or.inl rfl) rfl ?_
  exact lw_go rfl (by decide) rfl (hF _ _ _ _ hl S20 (Nat.le_refl _) (Nat.le_add_right _ _) (Nat.le_add_right _ _))
