def neB : List Cond := [.declares (Bundle.initS "java/lang/RuntimeException"), .declares (Bundle.initS "java/lang/Exception"), .declares (Bundle.initS Bundle.tN), .castable neI neI]
theorem ex_bad : ∀ w ∈ (vx_atS RX7 133 exI ["java/lang/RuntimeException", "java/lang/Exception"]).filter (fun w => !goodWord w), w ∈ exB := by decide +kernel
theorem ex_in : ∀ w ∈ (vx_atS RX7 133 exI ["java/lang/RuntimeException", "java/lang/Exception"]).filter goodWord, w ∈ lw_tbl := by decide +kernel
theorem ex_own : ∀ w ∈ (vx_atS RX7 133 exI ["java/lang/RuntimeException", "java/lang/Exception"]).filter goodWord, w ∈ sm_all := fun w h => List.mem_filter.mpr ⟨ex_in w h, (List.mem_filter.mp h).2⟩
theorem ex_ot : ∀ w ∈ Cond.classLink RX7 129 exI :: Cond.initialized exI :: vx_atS RX7 133 exI ["java/lang/RuntimeException", "java/lang/Exception"], vx_ot w = true := by decide +kernel
theorem ne_bad : ∀ w ∈ (cx_atS RX7 152 neI 13 nine_rx ["java/lang/RuntimeException", "java/lang/Exception"]).filter (fun w => !goodWord w), w ∈ neB := by decide +kernel
theorem ne_in : ∀ w ∈ (cx_atS RX7 152 neI 13 nine_rx ["java/lang/RuntimeException", "java/lang/Exception"]).filter goodWord, w ∈ lw_tbl := by decide +kernel
theorem ne_own : ∀ w ∈ (cx_atS RX7 152 neI 13 nine_rx ["java/lang/RuntimeException", "java/lang/Exception"]).filter goodWord, w ∈ sm_all := fun w h => List.mem_filter.mpr ⟨ne_in w h, (List.mem_filter.mp h).2⟩
theorem ne_ot : ∀ w ∈ Cond.classLink RX7 148 neI :: Cond.initialized neI :: cx_atS RX7 152 neI 13 nine_rx ["java/lang/RuntimeException", "java/lang/Exception"], vx_ot w = true := by decide +kernel
def gr_w7 : List Cond := Cond.code yX7_groove cX7_groove 3 (some .int) :: sm_all
def gr_wL : List Cond := Cond.codeWith yL_groove cL_groove 5 (some .int) [(0, 10, 13, 13), (0, 10, 17, 15)] :: sm_all
theorem gr_good {Ts ws : List Cond} {w0 : Cond} (hTs : ∀ w ∈ sm_all, w ∈ Ts) (h0 : w0 ∈ sm_all) (hw : ws = w0 :: sm_all) : GoodIn Ts ws := by
  subst hw
  intro w hw
  rcases List.mem_cons.mp hw with rfl | hw
  · exact ⟨hTs _ h0, sm_all_good h0⟩
  · exact ⟨hTs _ hw, sm_all_good hw⟩
section GRV
variable {l : Launch} {D : va_G} {G : Nat → ClassId} {E : Nat → Nat} {ro : Nat → List Int32}
def gr_B (D : va_G) (G : Nat → ClassId) (E : Nat → Nat) (ad : List Nat) (h : List sm_C) (A : Nat → Prop) (t : State) : Prop := va_P D vwCl (sm_w G E ad h) t.heap ∧ va_D A (sm_w G E ad h)
set_option maxHeartbeats 4000000 in
theorem gr_X7 (hl0 : l.stackTraces = false) {x y : Nat} {n p0 p1 : Int32} {h : List sm_C} (hfx : sm_fd h x 7 4 = some (.ref y)) (hfn : sm_fd h y 4 1 = some (.int n)) (hno : p0 < 0 ∨ n ≤ p0) (ad : List Nat) (sz : Nat) (hn : ad.length = h.length) :
    vx_Met l yX7_groove gr_w7 ({ frames := 8, cells := 1, slots := 6, locals := 100 }) (va_Pc [.ref (ad.getD x 0), .int p0, .int p1] (sm_pre D G E ro ad h sz)) (va_Qi (fun (_ : Int32) (_ : Unit) => False) (fun _ _ => True) (va_A (sm_w G E ad h) sz)) (vx_X (fun (_ : Unit) => True) (fun E9 _ t => E9 = exI ∧ gr_B D G E ad h (va_A (sm_w G E ad h) sz) t) (va_A (sm_w G E ad h) sz)) 1 6 (va_A (sm_w G E ad h) sz) := by
  refine vx_ofW (cc := cX7_groove) (maxL := 3) (ret := some .int) (by decide) rfl ?_
  intro p e s m args below meth c s₁ B hml hnt hv
  obtain ⟨rfl, hsz, hP, hK, hD0, hN, hX⟩ := hv
  have hx := B.exec
  have hb := B.bytes
  have hts := atoms_spec (ws := gr_w7) B.pre
  have hTs : ∀ w ∈ sm_all, w ∈ gr_w7 := fun w hw => List.mem_cons_of_mem _ hw
  have hown : s.vm.findClass RX7 = some m.cls := findClass_of_methodNamed B.named
  have hlocks := B.notSynchronized
  subst hsz
  have hD := hD0.self (sz := s.heap.size)
  have hA : ∀ q : Nat, s.heap.size ≤ q → va_A (sm_w G E ad h) s.heap.size q := fun q h => Or.inr h
  have hl := lv_entry ([.ref (ad.getD x 0), .int p0, .int p1]) (n := 3) (Nat.le_of_ble_eq_true rfl)
  rw [lg_entry_eq]
  generalize (lg_sl ([.ref (ad.getD x 0), .int p0, .int p1]) ++ List.replicate (3 - (lg_sl ([.ref (ad.getD x 0), .int p0, .int p1])).length) Slot.unset).toArray = ls at hl ⊢
  have hl : lv_has ls 3 [(0, .ref (ad.getD x 0)), (1, .int p0), (2, .int p1)] := hl
  refine lv_aload_n hx hb dX7_groove_0 rfl (lv_at hl 0 rfl) ?_
  refine lv_iload_n hx hb dX7_groove_1 rfl (lv_at hl 1 rfl) ?_
  obtain ⟨nk, hrun⟩ := gr_is (ro := ro) (p0 := p0) hfx hfn
  rw [if_pos hno] at hrun
  obtain ⟨qx, h1, h2, -⟩ := fd_inv hfx
  have cx : sm_cx D G E ro p s m [.ref (ad.getD x 0), .int p0, .int p1].toArray meth c (va_A (sm_w G E ad h) s.heap.size) gr_w7 RX7 false cX7_groove 3 := ⟨hx, hb, hml, hts, hTs, hown, (fun q => by cases q), hK, hN, hX, hA⟩
  have hcl : sm_cl pr_P (.invokevirtual 125) [72] [.int p0, .ref x] h = some (72, (yX7_isGroove, cX7_isGroove, 2, some .boolean, 1, 1, 7), [.ref x, .int p0], []) := by
    unfold sm_cl
    dsimp only
    rw [pgX7_isGroove]
    show (match h[x]? with
      | some q => if (1 : Nat) = 1 ∧ q.1 = 7 ∧ q.1 < 100 then _ else _
      | none => _) = _
    rw [h1]
    dsimp only
    rw [if_pos ⟨rfl, h2, by omega⟩]
    rfl
  refine sm_call (P := pr_P) (K := pr_K) (df := pr_df) (X := xn) (n := nk) (d := 0) (v := some (.int 0)) (h1 := h) (dc := 0) (ds := 0) (sm_snd pr_clok pr_cnew pr_pok xn_ok nk) hcl (pr_cl RX7 ⟨7, List.mem_cons_self, lkX7_125⟩).1 cx hl.1 dX7_groove_2 (Nat.zero_le _) (Nat.zero_le _) (by decide) (by decide) hn hP hD va_S.rf ⟨by decide, Nat.le_of_ble_eq_true rfl, by decide⟩ hrun (fun x9 H locs hnx hP hD hS => ?_)
  have hx9 : x9 = [] := by
    apply List.eq_nil_of_length_eq_zero
    rw [List.length_append] at hnx
    omega
  subst hx9
  rw [List.append_nil] at hP hD
  refine lv_if_ne hx hb dX7_groove_5 (tgt := 18) rfl (fun q => absurd rfl q) (fun _ => ?_)
  have hat := vx_hat (args := [.ref (ad.getD x 0), .int p0, .int p1].toArray) (s := s) (L := vx_atS RX7 133 exI ["java/lang/RuntimeException", "java/lang/Exception"]) (fun w h => hts w (hTs _ (ex_own w h))) ex_bad (vx_c (va_Nw.use rfl hX.2.2.1.1.1.1) (vx_c (va_Nw.use rfl hX.2.2.1.1.1.2.1) (vx_c (va_Nw.use rfl hX.2.2.1.1.1.2.2.1) (vx_c (va_Nw.use rfl hX.2.2.1.1.1.2.2.2) vx_n))))
  exact vx_throwS hx hb hl0 hown (by decide) (by decide) (hts _ (hTs _ xw_g7_e)) (hts _ (hTs _ xw_ex_i)) hX.2.2.1.1.2.1 hat ex_ot hX.2.2.1.1.2.2.1 hX.2.2.1.1.2.2.2 hS (hl.1.trans hml.symm) dX7_groove_8 dX7_groove_11 dX7_groove_12 dX7_groove_14 dX7_groove_17 (fun z hz => absurd (hnt z hz) id) (Nat.le_of_ble_eq_true rfl) (Nat.le_of_ble_eq_true rfl) (Nat.le_of_ble_eq_true rfl) (Nat.le_of_ble_eq_true rfl) hlocks (fun t hal hle hold => ⟨(), trivial, ⟨rfl, hP.kept (fun k9 x hx => hold x.1 ((hP k9 x hx).lt)), hD⟩, Nat.le_trans hS.1 hle, fun q h1 h2 => (hold q (Nat.lt_of_lt_of_le h1 hS.1)).trans (hS.2.1 q h1 h2)⟩) hS.2.2 (Nat.le_of_ble_eq_true rfl) (Nat.le_of_ble_eq_true rfl)
set_option maxHeartbeats 4000000 in
theorem gr_X8 (hl0 : l.stackTraces = false) {x y : Nat} {n p0 p1 : Int32} {h : List sm_C} (hfx : sm_fd h x 7 4 = some (.ref y)) (hfn : sm_fd h y 4 1 = some (.int n)) (hyes : ¬ (p0 < 0 ∨ n ≤ p0)) (hwh : p1 < 0 ∨ 3 < p1) (ad : List Nat) (sz : Nat) (hn : ad.length = h.length) :
    vx_Met l yX7_groove gr_w7 ({ frames := 8, cells := 1, slots := 6, locals := 100 }) (va_Pc [.ref (ad.getD x 0), .int p0, .int p1] (sm_pre D G E ro ad h sz)) (va_Qi (fun (_ : Int32) (_ : Unit) => False) (fun _ _ => True) (va_A (sm_w G E ad h) sz)) (vx_X (fun (_ : Unit) => True) (fun E9 _ t => E9 = neI ∧ gr_B D G E ad h (va_A (sm_w G E ad h) sz) t) (va_A (sm_w G E ad h) sz)) 1 6 (va_A (sm_w G E ad h) sz) := by
  refine vx_ofW (cc := cX7_groove) (maxL := 3) (ret := some .int) (by decide) rfl ?_
  intro p e s m args below meth c s₁ B hml hnt hv
  obtain ⟨rfl, hsz, hP, hK, hD0, hN, hX⟩ := hv
  have hx := B.exec
  have hb := B.bytes
  have hts := atoms_spec (ws := gr_w7) B.pre
  have hTs : ∀ w ∈ sm_all, w ∈ gr_w7 := fun w hw => List.mem_cons_of_mem _ hw
  have hown : s.vm.findClass RX7 = some m.cls := findClass_of_methodNamed B.named
  have hlocks := B.notSynchronized
  subst hsz
  have hD := hD0.self (sz := s.heap.size)
  have hA : ∀ q : Nat, s.heap.size ≤ q → va_A (sm_w G E ad h) s.heap.size q := fun q h => Or.inr h
  have hl := lv_entry ([.ref (ad.getD x 0), .int p0, .int p1]) (n := 3) (Nat.le_of_ble_eq_true rfl)
  rw [lg_entry_eq]
  generalize (lg_sl ([.ref (ad.getD x 0), .int p0, .int p1]) ++ List.replicate (3 - (lg_sl ([.ref (ad.getD x 0), .int p0, .int p1])).length) Slot.unset).toArray = ls at hl ⊢
  have hl : lv_has ls 3 [(0, .ref (ad.getD x 0)), (1, .int p0), (2, .int p1)] := hl
  refine lv_aload_n hx hb dX7_groove_0 rfl (lv_at hl 0 rfl) ?_
  refine lv_iload_n hx hb dX7_groove_1 rfl (lv_at hl 1 rfl) ?_
  obtain ⟨nk, hrun⟩ := gr_is (ro := ro) (p0 := p0) hfx hfn
  rw [if_neg hyes] at hrun
  obtain ⟨qx, h1, h2, -⟩ := fd_inv hfx
  have cx : sm_cx D G E ro p s m [.ref (ad.getD x 0), .int p0, .int p1].toArray meth c (va_A (sm_w G E ad h) s.heap.size) gr_w7 RX7 false cX7_groove 3 := ⟨hx, hb, hml, hts, hTs, hown, (fun q => by cases q), hK, hN, hX, hA⟩
  have hcl : sm_cl pr_P (.invokevirtual 125) [72] [.int p0, .ref x] h = some (72, (yX7_isGroove, cX7_isGroove, 2, some .boolean, 1, 1, 7), [.ref x, .int p0], []) := by
    unfold sm_cl
    dsimp only
    rw [pgX7_isGroove]
    show (match h[x]? with
      | some q => if (1 : Nat) = 1 ∧ q.1 = 7 ∧ q.1 < 100 then _ else _
      | none => _) = _
    rw [h1]
    dsimp only
    rw [if_pos ⟨rfl, h2, by omega⟩]
    rfl
  refine sm_call (P := pr_P) (K := pr_K) (df := pr_df) (X := xn) (n := nk) (d := 0) (v := some (.int 1)) (h1 := h) (dc := 0) (ds := 0) (sm_snd pr_clok pr_cnew pr_pok xn_ok nk) hcl (pr_cl RX7 ⟨7, List.mem_cons_self, lkX7_125⟩).1 cx hl.1 dX7_groove_2 (Nat.zero_le _) (Nat.zero_le _) (by decide) (by decide) hn hP hD va_S.rf ⟨by decide, Nat.le_of_ble_eq_true rfl, by decide⟩ hrun (fun x9 H locs hnx hP hD hS => ?_)
  have hx9 : x9 = [] := by
    apply List.eq_nil_of_length_eq_zero
    rw [List.length_append] at hnx
    omega
  subst hx9
  rw [List.append_nil] at hP hD
  refine lv_if_ne hx hb dX7_groove_5 (tgt := 18) rfl (fun _ => ?_) (fun q => absurd q (by decide))
  refine lv_iload_n hx hb dX7_groove_18 rfl (lv_at hl 2 rfl) ?_
  refine lv_tableOut hx hb (tgt := 88) dX7_groove_19 ?_ rfl ?_
  · rcases hwh with w | w
    · exact Or.inl (by rw [Int32.lt_iff_toInt_lt] at w; exact w)
    · exact Or.inr (by rw [Int32.lt_iff_toInt_lt] at w; exact w)
  have hat := vx_hat (args := [.ref (ad.getD x 0), .int p0, .int p1].toArray) (s := s) (L := cx_atS RX7 152 neI 13 nine_rx ["java/lang/RuntimeException", "java/lang/Exception"]) (fun w h => hts w (hTs _ (ne_own w h))) ne_bad (vx_c (va_Nw.use rfl hX.2.2.1.1.1.1) (vx_c (va_Nw.use rfl hX.2.2.1.1.1.2.1) (vx_c (va_Nw.use rfl hX.2.2.1.1.1.2.2.1) (vx_c (va_Nw.use rfl hX.2.2.1.2.1) vx_n))))
  exact cx_throwS hx hb hl0 nine_0 nine_1 nine_2 nine_5 hown (by decide) (by decide) (hts _ (hTs _ xw_g7_n)) (hts _ (hTs _ xw_ex_j)) hX.2.2.1.2.2.2 hat ne_ot hX.2.2.1.1.2.2.1 hX.2.2.1.1.2.2.2 hS (hl.1.trans hml.symm) dX7_groove_88 dX7_groove_91 dX7_groove_92 dX7_groove_94 dX7_groove_97 (fun z hz => absurd (hnt z hz) id) (Nat.le_of_ble_eq_true rfl) (Nat.le_of_ble_eq_true rfl) (Nat.le_of_ble_eq_true rfl) (Nat.le_of_ble_eq_true rfl) hlocks (fun t hal hle hold => ⟨(), trivial, ⟨rfl, hP.kept (fun k9 x hx => hold x.1 ((hP k9 x hx).lt)), hD⟩, Nat.le_trans hS.1 hle, fun q h1 h2 => (hold q (Nat.lt_of_lt_of_le h1 hS.1)).trans (hS.2.1 q h1 h2)⟩) hS.2.2 (Nat.le_of_ble_eq_true rfl) (Nat.le_of_ble_eq_true rfl)
set_option maxHeartbeats 4000000 in
theorem gr_L (hl0 : l.stackTraces = false) {x y o : Nat} {n p0 p1 : Int32} {h : List sm_C} (hfx : sm_fd h x 7 4 = some (.ref y)) (hfn : sm_fd h y 4 1 = some (.int n)) (hno : p0 < 0 ∨ n ≤ p0) (ad : List Nat) (sz : Nat) (hn : ad.length = h.length) :
    Met l yL_groove gr_wL ({ frames := 9, cells := 1, slots := 6, locals := 122 }) (va_Pc [.ref (ad.getD x 0), .int p0, .int p1, .ref (ad.getD o 0)] (sm_pre D G E ro ad h sz)) (va_Qi (fun (r : Int32) (_ : Unit) => r = 1) (fun _ t => gr_B D G E ad h (va_A (sm_w G E ad h) sz) t) (va_A (sm_w G E ad h) sz)) 1 6 (va_A (sm_w G E ad h) sz) := by
  refine va_MetW (cc := cL_groove) (maxL := 5) (ret := (some .int)) (hh := [(0, 10, 13, 13), (0, 10, 17, 15)]) (by decide) rfl ?_
  intro p e s m args below meth c s₁ B hml hv
  obtain ⟨rfl, hsz, hP, hK, hD0, hN, hX⟩ := hv
  have hx := B.exec
  have hb := B.bytes
  have hr := B.returns
  have hts := atoms_spec (ws := gr_wL) B.pre
  have hTs : ∀ w ∈ sm_all, w ∈ gr_wL := fun w hw => List.mem_cons_of_mem _ hw
  have htab := vx_table (x := yL_groove) B (hts _ List.mem_cons_self)
  have hown : s.vm.findClass RL = some m.cls := findClass_of_methodNamed B.named
  have hlocks := B.notSynchronized
  subst hsz
  have hD := hD0.self (sz := s.heap.size)
  have hA : ∀ q : Nat, s.heap.size ≤ q → va_A (sm_w G E ad h) s.heap.size q := fun q h => Or.inr h
  have hS : va_S (va_A (sm_w G E ad h) s.heap.size) s.heap s.heap [] := va_S.rf
  have hl := lv_entry ([.ref (ad.getD x 0), .int p0, .int p1, .ref (ad.getD o 0)]) (n := 5) (Nat.le_of_ble_eq_true rfl)
  rw [lg_entry_eq]
  generalize (lg_sl ([.ref (ad.getD x 0), .int p0, .int p1, .ref (ad.getD o 0)]) ++ List.replicate (5 - (lg_sl ([.ref (ad.getD x 0), .int p0, .int p1, .ref (ad.getD o 0)])).length) Slot.unset).toArray = ls at hl ⊢
  have hl : lv_has ls 5 [(0, .ref (ad.getD x 0)), (1, .int p0), (2, .int p1), (3, .ref (ad.getD o 0))] := hl
  refine lv_aload_n hx hb dL_groove_0 rfl (lv_at hl 3 rfl) ?_
  refine lv_iconst (v := 0) hx hb dL_groove_1 (by decide) ?_
  refine lv_aload_n hx hb dL_groove_2 rfl (lv_at hl 0 rfl) ?_
  refine lv_iload_n hx hb dL_groove_3 rfl (lv_at hl 1 rfl) ?_
  refine lv_iload_n hx hb dL_groove_4 rfl (lv_at hl 2 rfl) ?_
  obtain ⟨qx, h1, h2, -⟩ := fd_inv hfx
  have h1w : h[x]? = some (7, qx.2) := h1.trans (congrArg some (Prod.ext h2 rfl))
  have he := sm_w_at (G := G) (E := E) hn h1w
  rw [sm_e_o (by decide)] at he
  have hrec := va_recv hK hP (ci := 7) rfl he
  have hF := sm_free hD hS hA
  refine vx_calli (vx_runV (As := [.int p0, .int p1]) (rest := [.int 0, .ref (ad.getD o 0)]) ⟨hx, hb, hml, hown, hts⟩ (gr_X7 (D := D) (G := G) (E := E) (ro := ro) hl0 (p0 := p0) (p1 := p1) hfx hfn hno ad s.heap.size hn) ⟨callB_of 2 hts (gr_good hTs xw_g7_c rfl) rfl rfl rfl (hts _ (hTs _ xw_g7_i)) (hts _ (hTs _ xw_gl_l)) (by decide +kernel) ⟨Nat.le_of_ble_eq_true rfl, Nat.le_of_ble_eq_true rfl⟩, hts _ (hTs _ xw_g7_m), hts _ (hTs _ xw_g7_s)⟩ ⟨sm_blind, hrec, fun U hU hW => ⟨rfl, by rw [hU], by rw [hU]; exact hP, va_K.moved hW.alike hK, hD.weaken (fun _ _ _ _ => trivial), nw_warm hW hN, sm_ex_next hX hS hF hU hW⟩⟩ rfl rfl hl.1 rfl (lv_room (Nat.le_of_ble_eq_true rfl)) dL_groove_5 ⟨Nat.le_of_ble_eq_true rfl, Nat.le_of_ble_eq_true rfl⟩) hS (fun q _ h => hF q h) hF (fun q _ h => hF q h) (fun E9 ce q9 u t H1 locs ht hvm hpx hBX hz1 hk1 hS hce hcv hcl => ?_) (fun r u t H1 locs ht hvm hw hB hz1 hk1 hS => absurd hw id)
  obtain ⟨rfl, hP1, hD1⟩ := hBX
  rw [ht] at hP1
  refine vx_catch (name := exI) hown [] ⟨0, 10, 13, 13⟩ [⟨0, 10, 17, 15⟩] (htab.trans (by decide +kernel)) (fun z hz => nomatch hz) (by decide +kernel) (by decide +kernel) (hts _ (hTs _ xw_gl_e)) (va_Nw.use rfl hX.2.2.1.1.1.2.2.2) hce hcv hcl ?_
  refine lv_astore (lv' := [(4, .ref q9), (0, .ref (ad.getD x 0)), (1, .int p0), (2, .int p1), (3, .ref (ad.getD o 0))]) hx hb dL_groove_13 hl (by decide) rfl (fun ls hl => ?_)
  refine lv_iconst (v := 1) hx hb dL_groove_15 (by decide) ?_
  refine W.widen (k := 1) (n := 6) (by omega) (by omega) ?_
  exact W.iret (v := 1) hx hb hr (fun t ht hW => ⟨⟨1, (), rfl, rfl, by rw [ht]; exact hP1, hD1⟩, hS.F ht⟩) hS.2.2 dL_groove_16
set_option maxHeartbeats 4000000 in
theorem gr_L2 (hl0 : l.stackTraces = false) {x y o : Nat} {n p0 p1 : Int32} {h : List sm_C} (hfx : sm_fd h x 7 4 = some (.ref y)) (hfn : sm_fd h y 4 1 = some (.int n)) (hyes : ¬ (p0 < 0 ∨ n ≤ p0)) (hwh : p1 < 0 ∨ 3 < p1) (ad : List Nat) (sz : Nat) (hn : ad.length = h.length) :
    Met l yL_groove gr_wL ({ frames := 9, cells := 1, slots := 6, locals := 122 }) (va_Pc [.ref (ad.getD x 0), .int p0, .int p1, .ref (ad.getD o 0)] (sm_pre D G E ro ad h sz)) (va_Qi (fun (r : Int32) (_ : Unit) => r = 2) (fun _ t => gr_B D G E ad h (va_A (sm_w G E ad h) sz) t) (va_A (sm_w G E ad h) sz)) 1 6 (va_A (sm_w G E ad h) sz) := by
  refine va_MetW (cc := cL_groove) (maxL := 5) (ret := (some .int)) (hh := [(0, 10, 13, 13), (0, 10, 17, 15)]) (by decide) rfl ?_
  intro p e s m args below meth c s₁ B hml hv
  obtain ⟨rfl, hsz, hP, hK, hD0, hN, hX⟩ := hv
  have hx := B.exec
  have hb := B.bytes
  have hr := B.returns
  have hts := atoms_spec (ws := gr_wL) B.pre
  have hTs : ∀ w ∈ sm_all, w ∈ gr_wL := fun w hw => List.mem_cons_of_mem _ hw
  have htab := vx_table (x := yL_groove) B (hts _ List.mem_cons_self)
  have hown : s.vm.findClass RL = some m.cls := findClass_of_methodNamed B.named
  have hlocks := B.notSynchronized
  subst hsz
  have hD := hD0.self (sz := s.heap.size)
  have hA : ∀ q : Nat, s.heap.size ≤ q → va_A (sm_w G E ad h) s.heap.size q := fun q h => Or.inr h
  have hS : va_S (va_A (sm_w G E ad h) s.heap.size) s.heap s.heap [] := va_S.rf
  have hl := lv_entry ([.ref (ad.getD x 0), .int p0, .int p1, .ref (ad.getD o 0)]) (n := 5) (Nat.le_of_ble_eq_true rfl)
  rw [lg_entry_eq]
  generalize (lg_sl ([.ref (ad.getD x 0), .int p0, .int p1, .ref (ad.getD o 0)]) ++ List.replicate (5 - (lg_sl ([.ref (ad.getD x 0), .int p0, .int p1, .ref (ad.getD o 0)])).length) Slot.unset).toArray = ls at hl ⊢
  have hl : lv_has ls 5 [(0, .ref (ad.getD x 0)), (1, .int p0), (2, .int p1), (3, .ref (ad.getD o 0))] := hl
  refine lv_aload_n hx hb dL_groove_0 rfl (lv_at hl 3 rfl) ?_
  refine lv_iconst (v := 0) hx hb dL_groove_1 (by decide) ?_
  refine lv_aload_n hx hb dL_groove_2 rfl (lv_at hl 0 rfl) ?_
  refine lv_iload_n hx hb dL_groove_3 rfl (lv_at hl 1 rfl) ?_
  refine lv_iload_n hx hb dL_groove_4 rfl (lv_at hl 2 rfl) ?_
  obtain ⟨qx, h1, h2, -⟩ := fd_inv hfx
  have h1w : h[x]? = some (7, qx.2) := h1.trans (congrArg some (Prod.ext h2 rfl))
  have he := sm_w_at (G := G) (E := E) hn h1w
  rw [sm_e_o (by decide)] at he
  have hrec := va_recv hK hP (ci := 7) rfl he
  have hF := sm_free hD hS hA
  refine vx_calli (vx_runV (As := [.int p0, .int p1]) (rest := [.int 0, .ref (ad.getD o 0)]) ⟨hx, hb, hml, hown, hts⟩ (gr_X8 (D := D) (G := G) (E := E) (ro := ro) hl0 (p0 := p0) (p1 := p1) hfx hfn hyes hwh ad s.heap.size hn) ⟨callB_of 2 hts (gr_good hTs xw_g7_c rfl) rfl rfl rfl (hts _ (hTs _ xw_g7_i)) (hts _ (hTs _ xw_gl_l)) (by decide +kernel) ⟨Nat.le_of_ble_eq_true rfl, Nat.le_of_ble_eq_true rfl⟩, hts _ (hTs _ xw_g7_m), hts _ (hTs _ xw_g7_s)⟩ ⟨sm_blind, hrec, fun U hU hW => ⟨rfl, by rw [hU], by rw [hU]; exact hP, va_K.moved hW.alike hK, hD.weaken (fun _ _ _ _ => trivial), nw_warm hW hN, sm_ex_next hX hS hF hU hW⟩⟩ rfl rfl hl.1 rfl (lv_room (Nat.le_of_ble_eq_true rfl)) dL_groove_5 ⟨Nat.le_of_ble_eq_true rfl, Nat.le_of_ble_eq_true rfl⟩) hS (fun q _ h => hF q h) hF (fun q _ h => hF q h) (fun E9 ce q9 u t H1 locs ht hvm hpx hBX hz1 hk1 hS hce hcv hcl => ?_) (fun r u t H1 locs ht hvm hw hB hz1 hk1 hS => absurd hw id)
  obtain ⟨rfl, hP1, hD1⟩ := hBX
  rw [ht] at hP1
  refine vx_catch (name := neI) hown [⟨0, 10, 13, 13⟩] ⟨0, 10, 17, 15⟩ [] (htab.trans (by decide +kernel)) (fun z hz => ?_) (by decide +kernel) (by decide +kernel) (hts _ (hTs _ xw_gl_n)) (va_Nw.use rfl hX.2.2.1.2.1) hce hcv hcl ?_
  · have hz : z = ⟨0, 10, 13, 13⟩ := by simpa using hz
    subst hz
    exact Or.inr ⟨by decide, exI, hts _ (hTs _ xw_gl_e), hX.2.2.1.2.2.1⟩
  refine lv_astore (lv' := [(4, .ref q9), (0, .ref (ad.getD x 0)), (1, .int p0), (2, .int p1), (3, .ref (ad.getD o 0))]) hx hb dL_groove_17 hl (by decide) rfl (fun ls hl => ?_)
  refine lv_iconst (v := 2) hx hb dL_groove_19 (by decide) ?_
  refine W.widen (k := 1) (n := 6) (by omega) (by omega) ?_
  exact W.iret (v := 2) hx hb hr (fun t ht hW => ⟨⟨2, (), rfl, rfl, by rw [ht]; exact hP1, hD1⟩, hS.F ht⟩) hS.2.2 dL_groove_20
set_option maxHeartbeats 4000000 in
theorem gr_L3 (hl0 : l.stackTraces = false) {x y z q o : Nat} {n p0 p1 : Int32} {vs us : List Value} {h : List sm_C} (hfx : sm_fd h x 7 4 = some (.ref y)) (hfz : sm_fd h x 7 7 = some (.ref z)) (hfn : sm_fd h y 4 1 = some (.int n)) (hyes : ¬ (p0 < 0 ∨ n ≤ p0)) (hwh : ¬ (p1 < 0 ∨ 3 < p1)) (hgw : sm_gw h y z p1 = some (.ref q)) (hq : h[q]? = some (100, vs)) (hlt : p0.toNatClampNeg < vs.length) (ho : h[o]? = some (103, us)) (hu : 0 < us.length) (ad : List Nat) (sz : Nat) (hn : ad.length = h.length) :
    Met l yL_groove gr_wL ({ frames := 9, cells := 0, slots := 0, locals := 192 }) (va_Pc [.ref (ad.getD x 0), .int p0, .int p1, .ref (ad.getD o 0)] (sm_pre D G E ro ad h sz)) (va_Qi (fun (r : Int32) (_ : Unit) => r = 0) (fun _ t => gr_B D G E ad (h.set o (103, us.set 0 (.long (sm_ival (vs.getD p0.toNatClampNeg .null)).toInt64))) (va_A (sm_w G E ad h) sz) t) (va_A (sm_w G E ad h) sz)) 0 0 (va_A (sm_w G E ad h) sz) := by
  refine va_MetW (cc := cL_groove) (maxL := 5) (ret := (some .int)) (hh := [(0, 10, 13, 13), (0, 10, 17, 15)]) (by decide) rfl ?_
  intro p e s m args below meth c s₁ B hml hv
  obtain ⟨rfl, hsz, hP, hK, hD0, hN, hX⟩ := hv
  have hx := B.exec
  have hb := B.bytes
  have hr := B.returns
  have hts := atoms_spec (ws := gr_wL) B.pre
  have hTs : ∀ w ∈ sm_all, w ∈ gr_wL := fun w hw => List.mem_cons_of_mem _ hw
  have htab := vx_table (x := yL_groove) B (hts _ List.mem_cons_self)
  have hown : s.vm.findClass RL = some m.cls := findClass_of_methodNamed B.named
  have hlocks := B.notSynchronized
  subst hsz
  have hD := hD0.self (sz := s.heap.size)
  have hA : ∀ q : Nat, s.heap.size ≤ q → va_A (sm_w G E ad h) s.heap.size q := fun q h => Or.inr h
  have hS : va_S (va_A (sm_w G E ad h) s.heap.size) s.heap s.heap [] := va_S.rf
  have hl := lv_entry ([.ref (ad.getD x 0), .int p0, .int p1, .ref (ad.getD o 0)]) (n := 5) (Nat.le_of_ble_eq_true rfl)
  rw [lg_entry_eq]
  generalize (lg_sl ([.ref (ad.getD x 0), .int p0, .int p1, .ref (ad.getD o 0)]) ++ List.replicate (5 - (lg_sl ([.ref (ad.getD x 0), .int p0, .int p1, .ref (ad.getD o 0)])).length) Slot.unset).toArray = ls at hl ⊢
  have hl : lv_has ls 5 [(0, .ref (ad.getD x 0)), (1, .int p0), (2, .int p1), (3, .ref (ad.getD o 0))] := hl
  refine lv_aload_n hx hb dL_groove_0 rfl (lv_at hl 3 rfl) ?_
  refine lv_iconst (v := 0) hx hb dL_groove_1 (by decide) ?_
  refine lv_aload_n hx hb dL_groove_2 rfl (lv_at hl 0 rfl) ?_
  refine lv_iload_n hx hb dL_groove_3 rfl (lv_at hl 1 rfl) ?_
  refine lv_iload_n hx hb dL_groove_4 rfl (lv_at hl 2 rfl) ?_
  obtain ⟨nk, hrun⟩ := gr_an (ro := ro) hfx hfz hfn hyes hwh hgw hq hlt
  obtain ⟨qx, h1, h2, -⟩ := fd_inv hfx
  have cx : sm_cx D G E ro p s m [.ref (ad.getD x 0), .int p0, .int p1, .ref (ad.getD o 0)].toArray meth c (va_A (sm_w G E ad h) s.heap.size) gr_wL RL false cL_groove 5 := ⟨hx, hb, hml, hts, hTs, hown, (fun q => by cases q), hK, hN, hX, hA⟩
  have hcl : sm_cl pr_P (.invokevirtual 7) [222] [.int p1, .int p0, .ref x, .int 0, .ref o] h = some (222, (yX7_groove, cX7_groove, 3, some .int, 2, 1, 7), [.ref x, .int p0, .int p1], [.int 0, .ref o]) := by
    unfold sm_cl
    dsimp only
    rw [pgX7_groove]
    show (match h[x]? with
      | some q => if (1 : Nat) = 1 ∧ q.1 = 7 ∧ q.1 < 100 then _ else _
      | none => _) = _
    rw [h1]
    dsimp only
    rw [if_pos ⟨rfl, h2, by omega⟩]
    rfl
  have hln : sm_lc pr_P RL (.invokevirtual 7) [222] := fun mid M e hM => by
    cases e
    rw [pgX7_groove] at hM
    cases hM
    exact ⟨Or.inl xw_gl_l, moX7_groove⟩
  refine sm_call (P := pr_P) (K := pr_K) (df := pr_df) (X := xn) (n := nk) (d := 1) (st := [.int p1, .int p0, .ref x, .int 0, .ref o]) (v := some (.int (sm_ival (vs.getD p0.toNatClampNeg .null)))) (h1 := h) (dc := 0) (ds := 0) (sm_snd pr_clok pr_cnew pr_pok xn_ok nk) hcl hln cx hl.1 dL_groove_5 (Nat.zero_le _) (Nat.zero_le _) (Nat.le_of_ble_eq_true rfl) (Nat.le_of_ble_eq_true rfl) hn hP hD hS ⟨Nat.le_of_ble_eq_true rfl, Nat.le_of_ble_eq_true rfl, by decide⟩ hrun (fun x9 H locs hnx hP hD hS => ?_)
  have hx9 : x9 = [] := by
    apply List.eq_nil_of_length_eq_zero
    rw [List.length_append] at hnx
    omega
  subst hx9
  rw [List.append_nil] at hP hD ⊢
  refine lv_i2l hx hb dL_groove_8 rfl ?_
  refine sm_hp_ok (pc' := 10) (st := [.long (sm_ival (vs.getD p0.toNatClampNeg .null)).toInt64, .int 0, .ref o]) (st' := []) (dt := []) (h' := h.set o (103, us.set 0 (.long (sm_ival (vs.getD p0.toNatClampNeg .null)).toInt64))) pr_clok hx hb hts hTs hown (fun q => by cases q) hK hN hX.1 (fun _ => sm_ex_text hX) hX.2.2.2 hP hD hS hn (ini := false) dL_groove_9 (Or.inr rfl) trivial ?_ (fun H locs hP hD hS hn => ?_)
  · show sm_js 9 [.long (sm_ival (vs.getD p0.toNatClampNeg .null)).toInt64, .int 0, .ref o] h = _
    unfold sm_js
    dsimp only
    rw [ho]
    dsimp only
    rw [if_pos ⟨rfl, fun w => w.elim (by decide) (fun w => by rw [sm_nat0] at w; omega)⟩, sm_nat0]
  refine lv_goto hx hb dL_groove_10 (tgt := 21) rfl ?_
  refine lv_iconst (v := 0) hx hb dL_groove_21 (by decide) ?_
  exact W.iret (v := 0) hx hb hr (fun t ht hW => ⟨⟨0, (), rfl, rfl, by rw [ht]; exact hP, hD⟩, hS.F ht⟩) hS.2.2 dL_groove_22
end GRV
