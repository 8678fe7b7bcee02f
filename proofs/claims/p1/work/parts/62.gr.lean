theorem dX7_groove_0 : decode cX7_groove 0 = .ok (.aload_n 0, 1) := by decide +kernel
theorem dX7_groove_1 : decode cX7_groove 1 = .ok (.iload_n 1, 1) := by decide +kernel
theorem dX7_groove_2 : decode cX7_groove 2 = .ok (.invokevirtual 125, 3) := by decide +kernel
theorem dX7_groove_5 : decode cX7_groove 5 = .ok (.ifCond .ne 13, 3) := by decide +kernel
theorem dX7_groove_8 : decode cX7_groove 8 = .ok (.new 129, 3) := by decide +kernel
theorem dX7_groove_11 : decode cX7_groove 11 = .ok (.dup, 1) := by decide +kernel
theorem dX7_groove_12 : decode cX7_groove 12 = .ok (.ldc 131, 2) := by decide +kernel
theorem dX7_groove_14 : decode cX7_groove 14 = .ok (.invokespecial 133, 3) := by decide +kernel
theorem dX7_groove_17 : decode cX7_groove 17 = .ok (.athrow, 1) := by decide +kernel
theorem dL_groove_0 : decode cL_groove 0 = .ok (.aload_n 3, 1) := by decide +kernel
theorem dL_groove_1 : decode cL_groove 1 = .ok (.iconst 0, 1) := by decide +kernel
theorem dL_groove_2 : decode cL_groove 2 = .ok (.aload_n 0, 1) := by decide +kernel
theorem dL_groove_3 : decode cL_groove 3 = .ok (.iload_n 1, 1) := by decide +kernel
theorem dL_groove_4 : decode cL_groove 4 = .ok (.iload_n 2, 1) := by decide +kernel
theorem dL_groove_5 : decode cL_groove 5 = .ok (.invokevirtual 7, 3) := by decide +kernel
theorem dL_groove_13 : decode cL_groove 13 = .ok (.astore 4, 2) := by decide +kernel
theorem dL_groove_15 : decode cL_groove 15 = .ok (.iconst 1, 1) := by decide +kernel
theorem dL_groove_16 : decode cL_groove 16 = .ok (.ireturn, 1) := by decide +kernel
/-! The class's groove where there are no grooves: it throws; the law's groove catches. -/
def xn : sm_X := fun _ _ _ _ _ => none
theorem xn_ok {l : Launch} {D : va_G} {G : Nat → ClassId} {E : Nat → Nat} {ro : Nat → List Int32} : sm_XOK l D G E ro xn pr_L := by
  intro p e R s m args below meth c Q A Ts own ini cc ml d i dt pc ls ad st st' h h' dc ds H locs cells slots len hX
  cases hX
theorem sm_g0_inv {x : Nat} {h : List sm_C} (hg : sm_g0 x h = true) : ∃ (fs gs : List Value) (y : Nat), h[x]? = some (7, fs) ∧ fs[4]? = some (.ref y) ∧ h[y]? = some (4, gs) ∧ gs[1]? = some (.int 0) := by
  unfold sm_g0 at hg
  split at hg
  · next q hq =>
    split at hg
    · next y h4 =>
      split at hg
      · next p hp =>
        have h0 := of_decide_eq_true hg
        obtain ⟨k, fs⟩ := q
        obtain ⟨k2, gs⟩ := p
        obtain ⟨a, b, c⟩ := h0
        dsimp only at a b c h4
        subst a; subst b
        exact ⟨fs, gs, y, hq, h4, hp, c⟩
      · cases hg
    · cases hg
  · cases hg
theorem gr_is {ro : Nat → List Int32} {x : Nat} {h : List sm_C} (hg : sm_g0 x h = true) (p0 : Int32) : ∃ n, sx pr_P pr_K pr_df ro xn n 0 72 0 (lv_args 0 [.ref x, .int p0]) [] h 0 0 = some (some (.int 0), h, 0, 0) := by
  obtain ⟨fs, gs, y, h1, h2, h3, h4⟩ := sm_g0_inv hg
  have hM := pgX7_isGroove
  have last : ev pr_P pr_K pr_df ro xn 0 72 19 [(0, .ref x), (1, .int p0)] [] h 0 0 (fun v h' c s => v = some (.int 0) ∧ h' = h ∧ c = 0 ∧ s = 0) := by
    refine ev_lo (pc' := 20) (lv' := [(0, .ref x), (1, .int p0)]) (st' := [.int 0]) hM (i := .iconst 0) (len := 1) (dt := []) rfl rfl ?_
    exact ev_ret hM (i := .ireturn) (len := 1) (dt := []) rfl (v := some (.int 0)) (show sm_ret (some .boolean) .ireturn [.int 0] = some (some (.int 0)) by unfold sm_ret; dsimp only; rw [if_pos (Or.inr ⟨rfl, Or.inl rfl⟩)]) ⟨rfl, rfl, rfl, rfl⟩
  have whole : ev pr_P pr_K pr_df ro xn 0 72 0 [(0, .ref x), (1, .int p0)] [] h 0 0 (fun v h' c s => v = some (.int 0) ∧ h' = h ∧ c = 0 ∧ s = 0) := by
    refine ev_lo (pc' := 1) (lv' := [(0, .ref x), (1, .int p0)]) (st' := [.int p0]) hM (i := .iload_n ab_f1) (len := 1) (dt := []) rfl rfl ?_
    cases hlt : sm_cd .lt p0 0 with
    | true =>
      refine ev_lo (pc' := 19) (lv' := [(0, .ref x), (1, .int p0)]) (st' := []) hM (i := .ifCond .lt 18) (len := 3) (dt := []) rfl ?_ last
      show sm_if .lt 1 18 [(0, .ref x), (1, .int p0)] [.int p0] = _
      unfold sm_if
      dsimp only
      rw [if_pos (by decide), if_pos hlt]
      rfl
    | false =>
      refine ev_lo (pc' := 4) (lv' := [(0, .ref x), (1, .int p0)]) (st' := []) hM (i := .ifCond .lt 18) (len := 3) (dt := []) rfl ?_ ?_
      · show sm_if .lt 1 18 [(0, .ref x), (1, .int p0)] [.int p0] = _
        unfold sm_if
        dsimp only
        rw [if_pos (by decide), hlt]
        rfl
      refine ev_lo (pc' := 5) (lv' := [(0, .ref x), (1, .int p0)]) (st' := [.int p0]) hM (i := .iload_n ab_f1) (len := 1) (dt := []) rfl rfl ?_
      refine ev_lo (pc' := 6) (lv' := [(0, .ref x), (1, .int p0)]) (st' := [.ref x, .int p0]) hM (i := .aload_n ab_f0) (len := 1) (dt := []) rfl rfl ?_
      refine ev_hp (pc' := 9) (st' := [.ref y, .int p0]) (h1 := h) hM (i := .getfield 28) (len := 3) (dt := [7, 4, 3]) rfl ?_ ?_
      · show sm_gf [7, 4, 3] 6 [.ref x, .int p0] h = _
        unfold sm_gf
        dsimp only
        rw [h1]
        dsimp only
        rw [if_pos ⟨rfl, by decide⟩, h2]
      refine ev_hp (pc' := 12) (st' := [.int 0, .int p0]) (h1 := h) hM (i := .getfield 196) (len := 3) (dt := [4, 1, 0]) rfl ?_ ?_
      · show sm_gf [4, 1, 0] 9 [.ref y, .int p0] h = _
        unfold sm_gf
        dsimp only
        rw [h3]
        dsimp only
        rw [if_pos ⟨rfl, by decide⟩, h4]
      have hge : sm_cd .ge p0 0 = true := decide_eq_true (Int32.not_lt.mp (of_decide_eq_false hlt))
      refine ev_lo (pc' := 19) (lv' := [(0, .ref x), (1, .int p0)]) (st' := []) hM (i := .if_icmp .ge 7) (len := 3) (dt := []) rfl ?_ last
      show sm_ic .ge 12 7 [(0, .ref x), (1, .int p0)] [.int 0, .int p0] = _
      unfold sm_ic
      dsimp only
      rw [if_pos (by decide), if_pos hge]
      rfl
  obtain ⟨n, v, h', c', s', a, b, c, d, e⟩ := whole
  subst b; subst c; subst d; subst e
  exact ⟨n, a⟩
theorem ex_bad : ∀ w ∈ (vx_atS RX7 133 exI ["java/lang/RuntimeException", "java/lang/Exception"]).filter (fun w => !goodWord w), w ∈ exB := by decide +kernel
theorem ex_in : ∀ w ∈ (vx_atS RX7 133 exI ["java/lang/RuntimeException", "java/lang/Exception"]).filter goodWord, w ∈ lw_tbl := by decide +kernel
theorem ex_own : ∀ w ∈ (vx_atS RX7 133 exI ["java/lang/RuntimeException", "java/lang/Exception"]).filter goodWord, w ∈ sm_all := fun w h => List.mem_filter.mpr ⟨ex_in w h, (List.mem_filter.mp h).2⟩
theorem ex_ot : ∀ w ∈ Cond.classLink RX7 129 exI :: Cond.initialized exI :: vx_atS RX7 133 exI ["java/lang/RuntimeException", "java/lang/Exception"], vx_ot w = true := by decide +kernel
def gr_w7 : List Cond := Cond.code yX7_groove cX7_groove 3 (some .int) :: sm_all
def gr_wL : List Cond := Cond.codeWith yL_groove cL_groove 5 (some .int) [(0, 10, 13, 13), (0, 10, 17, 15)] :: sm_all
theorem gr_good {Ts ws : List Cond} {w0 : Cond} (hTs : ∀ w ∈ sm_all, w ∈ Ts) (h0 : w0 ∈ sm_all) (hw : ws = w0 :: sm_all) : GoodIn Ts ws := by
  subst hw
  intro w hw
  rcases List.mem_cons.mp hw with rfl | hw
  · exact ⟨hTs _ h0, sm_all_good h0⟩
  · exact ⟨hTs _ hw, sm_all_good hw⟩
section GRV
variable {l : Launch} {D : va_G} {G : Nat → ClassId} {E : Nat → Nat} {ro : Nat → List Int32}
def gr_B (D : va_G) (G : Nat → ClassId) (E : Nat → Nat) (ad : List Nat) (h : List sm_C) (A : Nat → Prop) (t : State) : Prop := va_P D vwCl (sm_w G E ad h) t.heap ∧ va_D A (sm_w G E ad h)
set_option maxHeartbeats 4000000 in
theorem gr_X7 (hl0 : l.stackTraces = false) {x : Nat} {p0 p1 : Int32} {h : List sm_C} (hg : sm_g0 x h = true) (ad : List Nat) (sz : Nat) (hn : ad.length = h.length) :
    vx_Met l yX7_groove gr_w7 ({ frames := 8, cells := 1, slots := 6, locals := 100 }) (va_Pc [.ref (ad.getD x 0), .int p0, .int p1] (sm_pre D G E ro ad h sz)) (va_Qi (fun (_ : Int32) (_ : Unit) => False) (fun _ _ => True) (va_A (sm_w G E ad h) sz)) (vx_X (fun (_ : Unit) => True) (fun E9 _ t => E9 = exI ∧ gr_B D G E ad h (va_A (sm_w G E ad h) sz) t) (va_A (sm_w G E ad h) sz)) 1 6 (va_A (sm_w G E ad h) sz) := by
  refine vx_ofW (cc := cX7_groove) (maxL := 3) (ret := some .int) (by decide) rfl ?_
  intro p e s m args below meth c s₁ B hml hnt hv
  obtain ⟨rfl, hsz, hP, hK, hD0, hN, hX⟩ := hv
  have hx := B.exec
  have hb := B.bytes
  have hts := atoms_spec (ws := gr_w7) B.pre
  have hTs : ∀ w ∈ sm_all, w ∈ gr_w7 := fun w hw => List.mem_cons_of_mem _ hw
  have hown : s.vm.findClass RX7 = some m.cls := findClass_of_methodNamed B.named
  have hlocks := B.notSynchronized
  subst hsz
  have hD := hD0.self (sz := s.heap.size)
  have hA : ∀ q : Nat, s.heap.size ≤ q → va_A (sm_w G E ad h) s.heap.size q := fun q h => Or.inr h
  have hl := lv_entry ([.ref (ad.getD x 0), .int p0, .int p1]) (n := 3) (Nat.le_of_ble_eq_true rfl)
  rw [lg_entry_eq]
  generalize (lg_sl ([.ref (ad.getD x 0), .int p0, .int p1]) ++ List.replicate (3 - (lg_sl ([.ref (ad.getD x 0), .int p0, .int p1])).length) Slot.unset).toArray = ls at hl ⊢
  have hl : lv_has ls 3 [(0, .ref (ad.getD x 0)), (1, .int p0), (2, .int p1)] := hl
  refine lv_aload_n hx hb dX7_groove_0 rfl (lv_at hl 0 rfl) ?_
  refine lv_iload_n hx hb dX7_groove_1 rfl (lv_at hl 1 rfl) ?_
  obtain ⟨n, hrun⟩ := gr_is (ro := ro) hg p0
  obtain ⟨fs, gs, y, h1, h2, h3, h4⟩ := sm_g0_inv hg
  have cx : sm_cx D G E ro p s m [.ref (ad.getD x 0), .int p0, .int p1].toArray meth c (va_A (sm_w G E ad h) s.heap.size) gr_w7 RX7 false cX7_groove 3 := ⟨hx, hb, hml, hts, hTs, hown, (fun q => by cases q), hK, hN, hX, hA⟩
  have hcl : sm_cl pr_P (.invokevirtual 125) [72] [.int p0, .ref x] h = some (72, (yX7_isGroove, cX7_isGroove, 2, some .boolean, 1, 1, 7), [.ref x, .int p0], []) := by
    unfold sm_cl
    dsimp only
    rw [pgX7_isGroove]
    show (match h[x]? with
      | some q => if (1 : Nat) = 1 ∧ q.1 = 7 ∧ q.1 < 100 then _ else _
      | none => _) = _
    rw [h1]
    dsimp only
    rw [if_pos ⟨rfl, rfl, by decide⟩]
    rfl
  refine sm_call (P := pr_P) (K := pr_K) (df := pr_df) (X := xn) (n := n) (d := 0) (v := some (.int 0)) (h1 := h) (dc := 0) (ds := 0) (sm_snd pr_clok pr_cnew pr_pok xn_ok n) hcl (pr_cl RX7 ⟨7, List.mem_cons_self, lkX7_125⟩).1 cx hl.1 dX7_groove_2 (Nat.zero_le _) (Nat.zero_le _) (by decide) (by decide) hn hP hD va_S.rf ⟨by decide, Nat.le_of_ble_eq_true rfl, by decide⟩ hrun (fun x9 H locs hnx hP hD hS => ?_)
  have hx9 : x9 = [] := by
    apply List.eq_nil_of_length_eq_zero
    rw [List.length_append] at hnx
    omega
  subst hx9
  rw [List.append_nil] at hP hD
  refine lv_if_ne hx hb dX7_groove_5 (tgt := 18) rfl (fun q => absurd rfl q) (fun _ => ?_)
  have hat := vx_hat (args := [.ref (ad.getD x 0), .int p0, .int p1].toArray) (s := s) (L := vx_atS RX7 133 exI ["java/lang/RuntimeException", "java/lang/Exception"]) (fun w h => hts w (hTs _ (ex_own w h))) ex_bad (vx_c (va_Nw.use rfl hX.2.2.1.1) (vx_c (va_Nw.use rfl hX.2.2.1.2.1) (vx_c (va_Nw.use rfl hX.2.2.1.2.2.1) (vx_c (va_Nw.use rfl hX.2.2.1.2.2.2) vx_n))))
  exact vx_throwS hx hb hl0 hown (by decide) (by decide) (hts _ (hTs _ xw_g7_e)) (hts _ (hTs _ xw_ex_i)) hX.2.2.2.1 hat ex_ot hX.2.2.2.2.1 hX.2.2.2.2.2 hS (hl.1.trans hml.symm) dX7_groove_8 dX7_groove_11 dX7_groove_12 dX7_groove_14 dX7_groove_17 (fun z hz => absurd (hnt z hz) id) (Nat.le_of_ble_eq_true rfl) (Nat.le_of_ble_eq_true rfl) (Nat.le_of_ble_eq_true rfl) (Nat.le_of_ble_eq_true rfl) hlocks (fun t hal hle hold => ⟨(), trivial, ⟨rfl, hP.kept (fun k9 x hx => hold x.1 ((hP k9 x hx).lt)), hD⟩, Nat.le_trans hS.1 hle, fun q h1 h2 => (hold q (Nat.lt_of_lt_of_le h1 hS.1)).trans (hS.2.1 q h1 h2)⟩) hS.2.2 (Nat.le_of_ble_eq_true rfl) (Nat.le_of_ble_eq_true rfl)
set_option maxHeartbeats 4000000 in
theorem gr_L (hl0 : l.stackTraces = false) {x o : Nat} {p0 p1 : Int32} {h : List sm_C} (hg : sm_g0 x h = true) (ad : List Nat) (sz : Nat) (hn : ad.length = h.length) :
    Met l yL_groove gr_wL ({ frames := 9, cells := 1, slots := 6, locals := 122 }) (va_Pc [.ref (ad.getD x 0), .int p0, .int p1, .ref (ad.getD o 0)] (sm_pre D G E ro ad h sz)) (va_Qi (fun (r : Int32) (_ : Unit) => r = 1) (fun _ t => gr_B D G E ad h (va_A (sm_w G E ad h) sz) t) (va_A (sm_w G E ad h) sz)) 1 6 (va_A (sm_w G E ad h) sz) := by
  refine va_MetW (cc := cL_groove) (maxL := 5) (ret := (some .int)) (hh := [(0, 10, 13, 13), (0, 10, 17, 15)]) (by decide) rfl ?_
  intro p e s m args below meth c s₁ B hml hv
  obtain ⟨rfl, hsz, hP, hK, hD0, hN, hX⟩ := hv
  have hx := B.exec
  have hb := B.bytes
  have hr := B.returns
  have hts := atoms_spec (ws := gr_wL) B.pre
  have hTs : ∀ w ∈ sm_all, w ∈ gr_wL := fun w hw => List.mem_cons_of_mem _ hw
  have htab := vx_table (x := yL_groove) B (hts _ List.mem_cons_self)
  have hown : s.vm.findClass RL = some m.cls := findClass_of_methodNamed B.named
  have hlocks := B.notSynchronized
  subst hsz
  have hD := hD0.self (sz := s.heap.size)
  have hA : ∀ q : Nat, s.heap.size ≤ q → va_A (sm_w G E ad h) s.heap.size q := fun q h => Or.inr h
  have hS : va_S (va_A (sm_w G E ad h) s.heap.size) s.heap s.heap [] := va_S.rf
  have hl := lv_entry ([.ref (ad.getD x 0), .int p0, .int p1, .ref (ad.getD o 0)]) (n := 5) (Nat.le_of_ble_eq_true rfl)
  rw [lg_entry_eq]
  generalize (lg_sl ([.ref (ad.getD x 0), .int p0, .int p1, .ref (ad.getD o 0)]) ++ List.replicate (5 - (lg_sl ([.ref (ad.getD x 0), .int p0, .int p1, .ref (ad.getD o 0)])).length) Slot.unset).toArray = ls at hl ⊢
  have hl : lv_has ls 5 [(0, .ref (ad.getD x 0)), (1, .int p0), (2, .int p1), (3, .ref (ad.getD o 0))] := hl
  refine lv_aload_n hx hb dL_groove_0 rfl (lv_at hl 3 rfl) ?_
  refine lv_iconst (v := 0) hx hb dL_groove_1 (by decide) ?_
  refine lv_aload_n hx hb dL_groove_2 rfl (lv_at hl 0 rfl) ?_
  refine lv_iload_n hx hb dL_groove_3 rfl (lv_at hl 1 rfl) ?_
  refine lv_iload_n hx hb dL_groove_4 rfl (lv_at hl 2 rfl) ?_
  obtain ⟨fs, gs, y, h1, h2, h3, h4⟩ := sm_g0_inv hg
  have he := sm_w_at (G := G) (E := E) hn h1
  rw [sm_e_o (by decide)] at he
  have hrec := va_recv hK hP (ci := 7) rfl he
  have hF := sm_free hD hS hA
  refine vx_calli (vx_runV (As := [.int p0, .int p1]) (rest := [.int 0, .ref (ad.getD o 0)]) ⟨hx, hb, hml, hown, hts⟩ (gr_X7 (D := D) (G := G) (E := E) (ro := ro) hl0 (p0 := p0) (p1 := p1) hg ad s.heap.size hn) ⟨callB_of 2 hts (gr_good hTs xw_g7_c rfl) rfl rfl rfl (hts _ (hTs _ xw_g7_i)) (hts _ (hTs _ xw_gl_l)) (by decide +kernel) ⟨Nat.le_of_ble_eq_true rfl, Nat.le_of_ble_eq_true rfl⟩, hts _ (hTs _ xw_g7_m), hts _ (hTs _ xw_g7_s)⟩ ⟨sm_blind, hrec, fun U hU hW => ⟨rfl, by rw [hU], by rw [hU]; exact hP, va_K.moved hW.alike hK, hD.weaken (fun _ _ _ _ => trivial), nw_warm hW hN, sm_ex_next hX hS hF hU hW⟩⟩ rfl rfl hl.1 rfl (lv_room (Nat.le_of_ble_eq_true rfl)) dL_groove_5 ⟨Nat.le_of_ble_eq_true rfl, Nat.le_of_ble_eq_true rfl⟩) hS (fun q _ h => hF q h) hF (fun q _ h => hF q h) (fun E9 ce q9 u t H1 locs ht hvm hpx hBX hz1 hk1 hS hce hcv hcl => ?_) (fun r u t H1 locs ht hvm hw hB hz1 hk1 hS => absurd hw id)
  obtain ⟨rfl, hP1, hD1⟩ := hBX
  rw [ht] at hP1
  refine vx_catch (name := exI) hown [] ⟨0, 10, 13, 13⟩ [⟨0, 10, 17, 15⟩] (htab.trans (by decide +kernel)) (fun z hz => nomatch hz) (by decide +kernel) (by decide +kernel) (hts _ (hTs _ xw_gl_e)) (va_Nw.use rfl hX.2.2.1.2.2.2) hce hcv hcl ?_
  refine lv_astore (lv' := [(4, .ref q9), (0, .ref (ad.getD x 0)), (1, .int p0), (2, .int p1), (3, .ref (ad.getD o 0))]) hx hb dL_groove_13 hl (by decide) rfl (fun ls hl => ?_)
  refine lv_iconst (v := 1) hx hb dL_groove_15 (by decide) ?_
  refine W.widen (k := 1) (n := 6) (by omega) (by omega) ?_
  exact W.iret (v := 1) hx hb hr (fun t ht hW => ⟨⟨1, (), rfl, rfl, by rw [ht]; exact hP1, hD1⟩, hS.F ht⟩) hS.2.2 dL_groove_16
end GRV
