/-! The calls that are taken as one step are the machine's. -/
theorem va_cpy_all {f g : Nat → Int32} {n : Nat} (h : ∀ k, n ≤ k → f k = g k) : va_cpy f g 0 0 n = f := by
  funext k
  unfold va_cpy
  by_cases hk : k < n
  · rw [if_pos ⟨Nat.zero_le _, by omega⟩]
    congr 1
    omega
  · rw [if_neg (by omega)]
    exact (h k (by omega)).symm
theorem sm_ival_out {fs : List Value} {k : Nat} (h : fs.length ≤ k) : sm_ival (fs.getD k .null) = 0 := by
  rw [List.getD_eq_getElem?_getD, List.getElem?_eq_none h]
  rfl
theorem sm_len3 {i : Instr} {len : Nat} (h : sm_len i = 0 ∨ len = sm_len i) (h3 : sm_len i = 3) : len = 3 := by omega
theorem sp_all : ∀ j : Nat, j < 120 → sp_J0_charAt_5068e (Int32.ofNat j) sm_tx = sm_tx j := by decide +kernel
theorem sp_one {j : Int32} (h : ¬ (j < 0 ∨ 120 ≤ j.toNatClampNeg)) : sp_J0_charAt_5068e j sm_tx = sm_tx j.toNatClampNeg := by
  have h1 : ¬ j < 0 := fun q => h (Or.inl q)
  have h2 : j.toNatClampNeg < 120 := by
    have : ¬ 120 ≤ j.toNatClampNeg := fun q => h (Or.inr q)
    omega
  have h3 := sp_all _ h2
  have h4 : Int32.ofNat j.toNatClampNeg = j := by
    have h5 : (0 : Int) ≤ j.toInt := by
      have := Int32.not_lt.mp h1
      rw [Int32.le_iff_toInt_le] at this
      exact this
    apply Int32.toInt_inj.mp
    have h6 : j.toInt.toNat = j.toNatClampNeg := rfl
    rw [Int32.toInt_ofNat_of_lt (by omega)]
    omega
  rw [h4] at h3
  exact h3
theorem sm_nat1 : (1 : Int32).toNatClampNeg = 1 := by decide
theorem sm_sh_len {vs : List Value} : (sm_sh vs).length = vs.length := by
  unfold sm_sh
  rw [List.length_append, List.length_drop, List.length_drop]
  omega
theorem sm_sh_xt {vs : List Value} {k : Nat} (h : k < vs.length) : (sm_sh vs).getD k .null = vs.getD (if k + 1 < vs.length then k + 1 else k) .null := by
  unfold sm_sh
  rw [List.getD_eq_getElem?_getD, List.getD_eq_getElem?_getD]
  congr 1
  by_cases hk : k + 1 < vs.length
  · rw [if_pos hk, List.getElem?_append_left (by rw [List.length_drop]; omega), List.getElem?_drop, Nat.add_comm]
  · rw [if_neg hk, List.getElem?_append_right (by rw [List.length_drop]; omega), List.getElem?_drop, List.length_drop]
    congr 1
    omega
theorem va_cpy_sh {vs : List Value} {n : Nat} (h : n + 1 = vs.length) : va_cpy (fun j => sm_ival (vs.getD j .null)) (fun j => sm_ival (vs.getD j .null)) 1 0 n = fun j => sm_ival ((sm_sh vs).getD j .null) := by
  funext k
  unfold va_cpy
  by_cases hk : k < n
  · rw [if_pos ⟨Nat.zero_le _, by omega⟩]
    show sm_ival (vs.getD (1 + (k - 0)) .null) = sm_ival ((sm_sh vs).getD k .null)
    rw [sm_sh_xt (show k < vs.length by omega), if_pos (show k + 1 < vs.length by omega), show 1 + (k - 0) = k + 1 by omega]
  · rw [if_neg (by omega)]
    show sm_ival (vs.getD k .null) = sm_ival ((sm_sh vs).getD k .null)
    by_cases h2 : k < vs.length
    · rw [sm_sh_xt h2, if_neg (by omega)]
    · rw [sm_ival_out (show vs.length ≤ k by omega), sm_ival_out (show (sm_sh vs).length ≤ k by rw [sm_sh_len]; omega)]
section XOK
variable {l : Launch} {D : va_G} {G : Nat → ClassId} {E : Nat → Nat} {ro : Nat → List Int32}
set_option maxHeartbeats 4000000 in
theorem pr_XOK (hl0 : l.stackTraces = false) : sm_XOK l D G E ro (sm_X0 1 6) pr_L := by
  intro p e R s m args below meth c Q A Ts own ini cc ml d i dt pc ls ad st st' h h' dc ds H locs cells slots len hX hL cx hls hdg hlen hrc hrs hrf hrl hn hP hD hS K
  obtain ⟨hx, hb, hml, hts, hTs, hown, hini, hK, hN, hEx, hA⟩ := cx
  unfold sm_X0 at hX
  split at hX
  · next k =>
    split at hX
    · next idx =>
      split at hX
      · next h0 =>
        subst h0
        have hlk := (hL idx 900 rfl rfl).1 rfl
        obtain rfl := sm_len3 hlen rfl
        unfold sm_x0 at hX
        split at hX
        · next a r =>
          split at hX
          · next h1 =>
            cases hX
            have h8 := of_decide_eq_true h1.2
            refine W.objInit hx hb hown (hts _ (hTs _ hlk)) (hts _ (hTs _ xw_obj_i)) (hts _ (hTs _ xw_obj_c)) rfl (hls.trans hml.symm) (rest := st'.map (sm_tr E ad)) rfl hdg (by omega) ?_ (K H locs hn hP hD hS)
            show 2 * 0 + ((st'.map (sm_tr E ad)).map fun v => v.category).sum + 12 ≤ R.locals
            rw [sm_cats]
            omega
          · cases hX
        · cases hX
      · cases hX
    · next idx =>
      split at hX
      · next h0 =>
        subst h0
        have hlk := (hL idx 901 rfl rfl).2.1 rfl
        obtain rfl := sm_len3 hlen rfl
        unfold sm_x1 at hX
        split at hX
        · next n dp a sp b r =>
          split at hX
          · next P Q2 hb0 ha0 =>
            split at hX
            · next h1 =>
              cases hX
              obtain ⟨g1, g2, g3, g4, g5, g6, g7, g8, g9⟩ := h1
              obtain ⟨k1, fs⟩ := P
              obtain ⟨k2, gs⟩ := Q2
              dsimp only at g3 g4 g7 g9
              subst g3; subst g4; subst g5; subst g6
              have h8 := of_decide_eq_true g2
              have heb := sm_w_at (G := G) (E := E) hn hb0
              have hea := sm_w_at (G := G) (E := E) hn ha0
              rw [sm_e_i] at heb hea
              refine va_copyi (ty := .int) hx hb (hml.trans hls.symm) hown (hts _ (hTs _ hlk)) (hts _ (hTs _ xw_ac_n)) (hts _ (hTs _ xw_ac_s)) (hts _ (hTs _ xw_ac_i)) hK hP hD hS b a 0 0 heb hea rfl rfl rfl (by decide) (by decide) g8 (by rw [sm_nat0]; omega) (by rw [sm_nat0]; omega) (fun _ _ => rfl) (by omega) ?_ hdg (fun H1 l1 z1 z2 z3 => ?_)
              · rw [sm_cats]
                have : nativeFrameWords "java/lang/System" "arraycopy" 5 + 11 ≤ 50 := by decide +kernel
                omega
              · have e1 : (sm_w G E ad h).set a (ad.getD a 0, .inl (G 0, gs.length, .inl (va_cpy (fun j => sm_ival (fs.getD j .null)) (fun j => sm_ival (gs.getD j .null)) (0 : Int32).toNatClampNeg (0 : Int32).toNatClampNeg n.toNatClampNeg))) = sm_w G E ad (h.set a (100, fs)) := by
                  rw [sm_nat0, va_cpy_all (fun k hk => by rw [sm_ival_out (by omega), sm_ival_out (by omega)]), ← g7, ← sm_w_set, sm_e_i]
                rw [e1] at z1 z2
                exact K H1 l1 (by rw [List.length_set]; exact hn) z1 z2 z3
            · cases hX
          · cases hX
        · cases hX
      · split at hX
        · next h00 h0 =>
          subst h0
          obtain ⟨hlk, how⟩ := (hL idx 903 rfl rfl).2.2.2.1 rfl
          subst how
          obtain rfl := sm_len3 hlen rfl
          unfold sm_x3 at hX
          split at hX
          · next o p1 p0 x r =>
            have hF := sm_free hD hS hA
            have hstk : (Value.ref o :: .int p1 :: .int p0 :: .ref x :: r).map (sm_tr E ad) = [.ref (ad.getD x 0), .int p0, .int p1, .ref (ad.getD o 0)].reverse ++ r.map (sm_tr E ad) := rfl
            split at hX
            · next h1 =>
              cases hX
              obtain ⟨g1, g2, g3⟩ := h1
              have h8 := of_decide_eq_true g2
              obtain ⟨y, hfx, hfn⟩ := sm_g0_inv g3
              have hno : p0 < 0 ∨ 0 ≤ p0 := (Classical.em (p0 < 0)).imp_right Int32.not_lt.mp
              refine va_calli (vx_runSW (As := [.ref (ad.getD x 0), .int p0, .int p1, .ref (ad.getD o 0)]) (rest := r.map (sm_tr E ad)) ⟨hx, hb, hml, hown, hts⟩ (gr_L (D := D) (G := G) (E := E) (ro := ro) hl0 (o := o) (p0 := p0) (p1 := p1) hfx hfn hno ad H.size hn) (vx_cwSW (hh := [(0, 10, 13, 13), (0, 10, 17, 15)]) (bytes := cL_groove) (maxL := 5) (ret := some .int) (Ts := Ts) 4 hts ?_ rfl rfl rfl (by decide +kernel) ⟨?_, ?_⟩) ⟨sm_blind, fun U hU hW => ⟨rfl, by rw [hU], by rw [hU]; exact hP, va_K.moved hW.alike hK, hD.weaken (fun _ _ _ _ => trivial), nw_warm hW hN, sm_ex_next hEx hS hF hU hW⟩⟩ rfl rfl hls hstk (lv_room ?_) hdg ⟨hrc, hrs⟩) hS (fun q _ z => hF q z) hF (fun r9 u t H1 l1 ht hvm hw hB hz1 hk1 hS1 => ?_)
              · intro w hw
                rcases List.mem_append.mp hw with hw | hw
                · have h3 : ∀ w ∈ ([Cond.methodLink RL idx yL_groove, .static yL_groove, .initialized yL_groove.cls] : List Cond), w ∈ sm_all := List.forall_mem_cons.mpr ⟨hlk, List.forall_mem_cons.mpr ⟨xw_gl_s, List.forall_mem_cons.mpr ⟨xw_gl_i, fun _ h => nomatch h⟩⟩⟩
                  exact ⟨hTs _ (h3 w hw), sm_all_good (h3 w hw)⟩
                · exact gr_good hTs xw_gl_c rfl w hw
              · show 9 + 1 ≤ R.frames
                omega
              · show 8 + (5 + 11) + 122 ≤ R.locals
                omega
              · rw [sm_cats]
                exact h8
              · obtain ⟨hP1, hD1⟩ := hB
                rw [ht] at hP1
                subst hw
                exact K H1 l1 (hn) hP1 (hD1.weaken (fun _ q _ z => hF q.1 z)) hS1
            · unfold sm_x3g at hX
              split at hX
              · next y z hfx hfz =>
                split at hX
                · next n hfn =>
                  split at hX
                  · next h1 =>
                    obtain ⟨g1, g2⟩ := h1
                    have h8 := of_decide_eq_true g2
                    split at hX
                    · next hno =>
                      cases hX
                      refine va_calli (vx_runSW (As := [.ref (ad.getD x 0), .int p0, .int p1, .ref (ad.getD o 0)]) (rest := r.map (sm_tr E ad)) ⟨hx, hb, hml, hown, hts⟩ (gr_L (D := D) (G := G) (E := E) (ro := ro) hl0 (o := o) (p0 := p0) (p1 := p1) hfx hfn hno ad H.size hn) (vx_cwSW (hh := [(0, 10, 13, 13), (0, 10, 17, 15)]) (bytes := cL_groove) (maxL := 5) (ret := some .int) (Ts := Ts) 4 hts ?_ rfl rfl rfl (by decide +kernel) ⟨?_, ?_⟩) ⟨sm_blind, fun U hU hW => ⟨rfl, by rw [hU], by rw [hU]; exact hP, va_K.moved hW.alike hK, hD.weaken (fun _ _ _ _ => trivial), nw_warm hW hN, sm_ex_next hEx hS hF hU hW⟩⟩ rfl rfl hls hstk (lv_room ?_) hdg ⟨hrc, hrs⟩) hS (fun q _ z => hF q z) hF (fun r9 u t H1 l1 ht hvm hw hB hz1 hk1 hS1 => ?_)
                      · intro w hw
                        rcases List.mem_append.mp hw with hw | hw
                        · have h3 : ∀ w ∈ ([Cond.methodLink RL idx yL_groove, .static yL_groove, .initialized yL_groove.cls] : List Cond), w ∈ sm_all := List.forall_mem_cons.mpr ⟨hlk, List.forall_mem_cons.mpr ⟨xw_gl_s, List.forall_mem_cons.mpr ⟨xw_gl_i, fun _ h => nomatch h⟩⟩⟩
                          exact ⟨hTs _ (h3 w hw), sm_all_good (h3 w hw)⟩
                        · exact gr_good hTs xw_gl_c rfl w hw
                      · show 9 + 1 ≤ R.frames
                        omega
                      · show 8 + (5 + 11) + 122 ≤ R.locals
                        omega
                      · rw [sm_cats]
                        exact h8
                      · obtain ⟨hP1, hD1⟩ := hB
                        rw [ht] at hP1
                        subst hw
                        exact K H1 l1 (hn) hP1 (hD1.weaken (fun _ q _ z => hF q.1 z)) hS1
                    · next hyes =>
                      split at hX
                      · next hwh =>
                        cases hX
                        refine va_calli (vx_runSW (As := [.ref (ad.getD x 0), .int p0, .int p1, .ref (ad.getD o 0)]) (rest := r.map (sm_tr E ad)) ⟨hx, hb, hml, hown, hts⟩ (gr_L2 (D := D) (G := G) (E := E) (ro := ro) hl0 (o := o) (p0 := p0) (p1 := p1) hfx hfn hyes hwh ad H.size hn) (vx_cwSW (hh := [(0, 10, 13, 13), (0, 10, 17, 15)]) (bytes := cL_groove) (maxL := 5) (ret := some .int) (Ts := Ts) 4 hts ?_ rfl rfl rfl (by decide +kernel) ⟨?_, ?_⟩) ⟨sm_blind, fun U hU hW => ⟨rfl, by rw [hU], by rw [hU]; exact hP, va_K.moved hW.alike hK, hD.weaken (fun _ _ _ _ => trivial), nw_warm hW hN, sm_ex_next hEx hS hF hU hW⟩⟩ rfl rfl hls hstk (lv_room ?_) hdg ⟨hrc, hrs⟩) hS (fun q _ z => hF q z) hF (fun r9 u t H1 l1 ht hvm hw hB hz1 hk1 hS1 => ?_)
                        · intro w hw
                          rcases List.mem_append.mp hw with hw | hw
                          · have h3 : ∀ w ∈ ([Cond.methodLink RL idx yL_groove, .static yL_groove, .initialized yL_groove.cls] : List Cond), w ∈ sm_all := List.forall_mem_cons.mpr ⟨hlk, List.forall_mem_cons.mpr ⟨xw_gl_s, List.forall_mem_cons.mpr ⟨xw_gl_i, fun _ h => nomatch h⟩⟩⟩
                            exact ⟨hTs _ (h3 w hw), sm_all_good (h3 w hw)⟩
                          · exact gr_good hTs xw_gl_c rfl w hw
                        · show 9 + 1 ≤ R.frames
                          omega
                        · show 8 + (5 + 11) + 122 ≤ R.locals
                          omega
                        · rw [sm_cats]
                          exact h8
                        · obtain ⟨hP1, hD1⟩ := hB
                          rw [ht] at hP1
                          subst hw
                          exact K H1 l1 (hn) hP1 (hD1.weaken (fun _ q _ z => hF q.1 z)) hS1
                      · next hwh =>
                        split at hX
                        · next q hgw =>
                          split at hX
                          · next v u hq hu =>
                            split at hX
                            · next h2 =>
                              cases hX
                              obtain ⟨e1, e2, e3, e4⟩ := h2
                              obtain ⟨v1, vs⟩ := v
                              obtain ⟨u1, us⟩ := u
                              dsimp only at e1 e2 e3 e4
                              subst e1; subst e2
                              refine va_calli (vx_runSW (As := [.ref (ad.getD x 0), .int p0, .int p1, .ref (ad.getD o 0)]) (rest := r.map (sm_tr E ad)) ⟨hx, hb, hml, hown, hts⟩ (gr_L3 (D := D) (G := G) (E := E) (ro := ro) hl0 (o := o) (p0 := p0) (p1 := p1) hfx hfz hfn hyes hwh hgw hq e3 hu e4 ad H.size hn) (vx_cwSW (hh := [(0, 10, 13, 13), (0, 10, 17, 15)]) (bytes := cL_groove) (maxL := 5) (ret := some .int) (Ts := Ts) 4 hts ?_ rfl rfl rfl (by decide +kernel) ⟨?_, ?_⟩) ⟨sm_blind, fun U hU hW => ⟨rfl, by rw [hU], by rw [hU]; exact hP, va_K.moved hW.alike hK, hD.weaken (fun _ _ _ _ => trivial), nw_warm hW hN, sm_ex_next hEx hS hF hU hW⟩⟩ rfl rfl hls hstk (lv_room ?_) hdg ⟨hrc, hrs⟩) hS (fun q _ z => hF q z) hF (fun r9 u t H1 l1 ht hvm hw hB hz1 hk1 hS1 => ?_)
                              · intro w hw
                                rcases List.mem_append.mp hw with hw | hw
                                · have h3 : ∀ w ∈ ([Cond.methodLink RL idx yL_groove, .static yL_groove, .initialized yL_groove.cls] : List Cond), w ∈ sm_all := List.forall_mem_cons.mpr ⟨hlk, List.forall_mem_cons.mpr ⟨xw_gl_s, List.forall_mem_cons.mpr ⟨xw_gl_i, fun _ h => nomatch h⟩⟩⟩
                                  exact ⟨hTs _ (h3 w hw), sm_all_good (h3 w hw)⟩
                                · exact gr_good hTs xw_gl_c rfl w hw
                              · show 9 + 1 ≤ R.frames
                                omega
                              · show 8 + (5 + 11) + 192 ≤ R.locals
                                omega
                              · rw [sm_cats]
                                exact h8
                              · obtain ⟨hP1, hD1⟩ := hB
                                rw [ht] at hP1
                                subst hw
                                exact K H1 l1 (by rw [List.length_set]; exact hn) hP1 (hD1.weaken (fun _ q _ z => hF q.1 z)) hS1
                            · cases hX
                          · cases hX
                        · cases hX
                  · cases hX
                · cases hX
              · cases hX
          · cases hX
        · split at hX
          · next h00 h01 h0 =>
            subst h0
            have hlk := (hL idx 904 rfl rfl).2.2.2.2 rfl
            obtain rfl := sm_len3 hlen rfl
            unfold sm_x4 at hX
            split at hX
            · next n dp a sp b r =>
              split at hX
              · next P ha0 =>
                split at hX
                · next h1 =>
                  cases hX
                  obtain ⟨g1, g2, g3, g4, g5, g6, g8, g9⟩ := h1
                  obtain ⟨k1, fs⟩ := P
                  dsimp only at g4 g9
                  subst g3; subst g4; subst g5; subst g6
                  have h8 := of_decide_eq_true g2
                  have hea := sm_w_at (G := G) (E := E) hn ha0
                  rw [sm_e_i] at hea
                  refine va_copyi (ty := .int) hx hb (hml.trans hls.symm) hown (hts _ (hTs _ hlk)) (hts _ (hTs _ xw_ac_n)) (hts _ (hTs _ xw_ac_s)) (hts _ (hTs _ xw_ac_i)) hK hP hD hS a a 0 0 hea hea rfl rfl rfl (by decide) (by decide) g8 (by rw [sm_nat1]; omega) (by rw [sm_nat0]; omega) (fun _ _ => rfl) (by omega) ?_ hdg (fun H1 l1 z1 z2 z3 => ?_)
                  · rw [sm_cats]
                    have : nativeFrameWords "java/lang/System" "arraycopy" 5 + 11 ≤ 50 := by decide +kernel
                    omega
                  · have e1 : (sm_w G E ad h).set a (ad.getD a 0, .inl (G 0, fs.length, .inl (va_cpy (fun j => sm_ival (fs.getD j .null)) (fun j => sm_ival (fs.getD j .null)) (1 : Int32).toNatClampNeg (0 : Int32).toNatClampNeg n.toNatClampNeg))) = sm_w G E ad (h.set a (100, sm_sh fs)) := by
                      rw [sm_nat0, sm_nat1, va_cpy_sh g9, ← sm_w_set, sm_e_i, sm_sh_len]
                    rw [e1] at z1 z2
                    exact K H1 l1 (by rw [List.length_set]; exact hn) z1 z2 z3
                · cases hX
              · cases hX
            · cases hX
          · cases hX
    · next idx =>
      split at hX
      · next h0 =>
        subst h0
        have hlk := (hL idx 902 rfl rfl).2.2.1 rfl
        obtain rfl := sm_len3 hlen rfl
        unfold sm_x2 at hX
        split at hX
        · next j z r =>
          split at hX
          · next h1 =>
            cases hX
            obtain ⟨g1, g2, g3, g4⟩ := h1
            subst g3
            have h8 := of_decide_eq_true g2
            have hXs := hEx.2.1
            have hP9 : va_P D vwCl [] H := hP.sub (ws' := []) [] rfl
            have hD9 : va_D A [] := hD.sub (ws' := []) [] (by decide) rfl
            have hF0 : ∀ q, va_A [] H.size q → A q := sm_free (ws := []) hD9 hS hA
            have hstk : (Value.int j :: .retAddr 0 :: r).map (sm_tr E ad) = [.int j].reverse ++ .ref (E 0) :: r.map (sm_tr E ad) := rfl
            have hG : GoodIn Ts wsJ0_charAt_5068e := fun w hw => ⟨hTs _ (in_charAt w hw), sm_all_good (in_charAt w hw)⟩
            refine va_calli (va_runV (As := [.int j]) (rest := r.map (sm_tr E ad)) ⟨hx, hb, hml, hown, hts⟩ (c_J0_charAt_5068e l D.1 D.2 j (E 0) (E 3) sm_tx H.size g4) ⟨callB_of 1 hts hG rfl rfl rfl (hts _ (hTs _ xw_ch_i)) (hts _ (hTs _ hlk)) (by decide +kernel) ⟨?_, ?_⟩, hts _ (hTs _ xw_ch_m), hts _ (hTs _ xw_ch_s)⟩ ⟨?_, va_Orecv hXs.2.1 hS, fun U hU hW => ⟨rfl, by rw [hU], by rw [hU]; exact hP9, va_K.moved hW.alike (hK.sub (tys' := []) [] rfl), hD9.weaken (fun _ _ _ _ => trivial), nw_warm hW hN, xs_next hXs hS hF0 hU hW⟩⟩ rfl rfl hls hstk (lv_room ?_) hdg ⟨hrc, hrs⟩) hS (fun q _ z => hF0 q z) hF0 (fun r9 u t H1 l1 ht hvm hw hB hz1 hk1 hS1 => ?_)
            · show 3 + 1 ≤ R.frames
              omega
            · show 8 + (2 + 11) + 64 ≤ R.locals
              omega
            · intro a U g mk q
              obtain ⟨q0, q1, qP, qK, qD, qN, qX⟩ := q
              exact ⟨q0, q1, qP, va_K.moved (u := U) (U := U.calling g mk a) (Vm.Alike.refl U.vm) qK, qD, nw_same (u := U) (U := U.calling g mk a) rfl qN, xs_same (u := U) (U := U.calling g mk a) rfl rfl qX⟩
            · rw [sm_cats]
              exact h8
            · subst hw
              rw [sp_one g4]
              refine K H1 l1 hn (hP.kept (fun k9 x hx => ?_)) hD hS1
              have hlt := (hP k9 x hx).lt
              refine hk1 x.1 hlt (fun z => ?_)
              rcases z with ⟨k, e, h⟩ | h
              · cases h
              · exact absurd hlt (Nat.not_lt.mpr h)
          · cases hX
        · cases hX
      · cases hX
    · cases hX
  · cases hX
end XOK
