section SMD
variable {l : Launch} {D : va_G} {G : Nat → ClassId} {E : Nat → Nat} {P : sm_P} {K : sm_K} {df : Nat → List Value} {ro : Nat → List Int32} {X : sm_X} {L : String → Instr → List Nat → Prop} {n : Nat}
theorem sm_blind {av : List Value} {ad : List Nat} {h : List sm_C} {sz : Nat} : FrameBlind (va_Pc av (sm_pre D G E ro ad h sz)) := fun a U g mk q => by
  obtain ⟨q0, q1, qP, qK, qD, qN, qX⟩ := q
  exact ⟨q0, q1, qP, va_K.moved (u := U) (U := U.calling g mk a) (Vm.Alike.refl U.vm) qK, qD, nw_same (u := U) (U := U.calling g mk a) rfl qN, sm_ex_same (u := U) (U := U.calling g mk a) rfl rfl qX⟩
/-- a call, where the callee's run is known -/
theorem sm_call (ih : sm_S l D G E P K df ro X n) {p : Program} {e : Env} {R : Room} {s : State} {m : MethodId} {args : Array Value} {below : List Frame} {meth : Method} {c : Code} {Q : State → Prop} {A : Nat → Prop} {Ts : List Cond} {own : String} {ini : Bool} {cc : ByteArray} {ml : Nat} {d : Nat} {i : Instr} {dt : List Nat} {pc : Nat} {ls : Array Slot} {ad : List Nat} {st : List Value} {h h1 : List sm_C} {dc ds : Nat} {H : Heap} {locs : List Loc} {cells slots : Nat} {mid : Nat} {M : sm_M} {as r : List Value} {v : Option Value}
    (hcl : sm_cl P i dt st h = some (mid, M, as, r)) (hln : sm_lc P own i dt) (cx : sm_cx D G E ro p s m args meth c A Ts own ini cc ml) (hls : ls.size = ml) (hdg : decode cc pc = .ok (i, 3)) (hrc : cells + dc ≤ R.cells) (hrs : slots + ds ≤ R.slots) (hrf : d + 1 ≤ R.frames) (hrl : 64 * (d + 1) ≤ R.locals) (hn : ad.length = h.length) (hP : va_P D vwCl (sm_w G E ad h) H) (hD : va_D A (sm_w G E ad h)) (hS : va_S A s.heap H locs)
    (hck : (r.map fun v => v.category).sum ≤ 8 ∧ (lg_sl as).length ≤ M.2.2.1 ∧ M.2.2.1 ≤ 45) (hrun : sx P K df ro X n d mid 0 (lv_args 0 as) [] h 0 0 = some (v, h1, dc, ds))
    (kk : ∀ (x : List Nat) (H : Heap) (locs : List Loc), (ad ++ x).length = h1.length → va_P D vwCl (sm_w G E (ad ++ x) h1) H → va_D A (sm_w G E (ad ++ x) h1) → va_S A s.heap H locs → W p l e R s m args below meth c H locs (cells + dc) (slots + ds) Q (F0 m (pc + 3) ls ((v.map (sm_tr E (ad ++ x))).toList ++ r.map (sm_tr E ad)))) :
    W p l e R s m args below meth c H locs cells slots Q (F0 m pc ls (st.map (sm_tr E ad))) := by
  obtain ⟨hx, hb, hml, hts, hTs, hown, hini, hK, hN, hEx, hA⟩ := cx
  have hF := sm_free hD hS hA
  unfold sm_cl at hcl
  split at hcl
  · next mid0 =>
    split at hcl
    · cases hcl
    · next M0 hPm =>
      have hpre : ∀ U : State, U.heap = H → s.WarmedH U.vm → ∀ av : List Value, va_Pc av (sm_pre D G E ro ad h H.size) av.toArray U := fun U hU hW av => ⟨rfl, by rw [hU], by rw [hU]; exact hP, va_K.moved hW.alike hK, hD.weaken (fun _ _ _ _ => trivial), nw_warm hW hN, sm_ex_next hEx hS hF hU hW⟩
      split at hcl
      · next idx =>
        split at hcl
        · next h0 =>
          cases hcl
          obtain ⟨hlk, hok⟩ := hln mid M rfl hPm
          have hM := sm_met ih hPm hok hck.2.1 hrun ad H.size hn
          have hG := sm_good hTs hok.2.1
          have hR : (sm_rm d dc ds).frames + 1 ≤ R.frames ∧ 8 + (M.2.2.1 + 11) + (sm_rm d dc ds).locals ≤ R.locals := ⟨hrf, by show 8 + (M.2.2.1 + 11) + 64 * d ≤ R.locals; omega⟩
          have hstk : st.map (sm_tr E ad) = (((st.take M.2.2.2.2.1).reverse.map (sm_tr E ad))).reverse ++ (st.drop M.2.2.2.2.1).map (sm_tr E ad) := by
            rw [← List.map_reverse, List.reverse_reverse, ← List.map_append, List.take_append_drop]
          have hlen : ((st.take M.2.2.2.2.1).reverse.map (sm_tr E ad)).length = M.2.2.2.2.1 := by
            rw [List.length_map, List.length_reverse, List.length_take]
            omega
          have hcat : (((st.drop M.2.2.2.2.1).map (sm_tr E ad)).map fun v => v.category).sum ≤ 8 := by rw [sm_cats]; exact hck.1
          rcases hlk with hlk | ⟨host, hlk⟩
          · exact sm_callg (va_runS (As := (st.take M.2.2.2.2.1).reverse.map (sm_tr E ad)) ⟨hx, hb, hml, hown, hts⟩ hM ⟨callB_of M.2.2.2.2.1 hts hG rfl rfl rfl (hts _ (hTs _ hok.2.2.1)) (hts _ (hTs _ hlk)) hok.2.2.2.1 hR, hts _ (hTs _ (hok.2.2.2.2.1 h0.1))⟩ ⟨sm_blind, fun U hU hW => hpre U hU hW _⟩ rfl hlen hls hstk (lv_room hcat) hdg ⟨hrc, hrs⟩) hS (fun q _ z => hF q z) hF (fun x H1 l1 z1 z2 z3 z4 => kk x H1 l1 z1 z2 (z3.weaken (fun _ q _ z => hF q.1 z)) z4)
          · exact sm_callg (va_runSN (As := (st.take M.2.2.2.2.1).reverse.map (sm_tr E ad)) ⟨hx, hb, hml, hown, hts⟩ hM ⟨va_cnB M.2.2.2.2.1 hts hG rfl rfl rfl (hN.2 _ hlk) (hts _ (hTs _ hok.2.2.1)) hok.2.2.2.1 hR, hts _ (hTs _ (hok.2.2.2.2.1 h0.1)), trivial⟩ ⟨sm_blind, fun U hU hW => hpre U hU hW _⟩ rfl hlen hls hstk (lv_room hcat) hdg ⟨hrc, hrs⟩) hS (fun q _ z => hF q z) hF (fun x H1 l1 z1 z2 z3 z4 => kk x H1 l1 z1 z2 (z3.weaken (fun _ q _ z => hF q.1 z)) z4)
        · cases hcl
      · next idx =>
        split at hcl
        · next b r0 hdrop =>
          split at hcl
          · next q hq =>
            split at hcl
            · next h0 =>
              cases hcl
              obtain ⟨hlk, hok⟩ := hln mid M rfl hPm
              have hM := sm_met ih hPm hok hck.2.1 hrun ad H.size hn
              have hG := sm_good hTs hok.2.1
              have hR : (sm_rm d dc ds).frames + 1 ≤ R.frames ∧ 8 + (M.2.2.1 + 11) + (sm_rm d dc ds).locals ≤ R.locals := ⟨hrf, by show 8 + (M.2.2.1 + 11) + 64 * d ≤ R.locals; omega⟩
              have hstk : st.map (sm_tr E ad) = (((st.take M.2.2.2.2.1).reverse.map (sm_tr E ad))).reverse ++ .ref (ad.getD b 0) :: r.map (sm_tr E ad) := by
                rw [← List.map_reverse, List.reverse_reverse]
                show _ = _ ++ (Value.ref b :: r).map (sm_tr E ad)
                rw [← List.map_append, ← hdrop, List.take_append_drop]
              have hlen : ((st.take M.2.2.2.2.1).reverse.map (sm_tr E ad)).length = M.2.2.2.2.1 := by
                rw [List.length_map, List.length_reverse, List.length_take]
                have h3 : (st.drop M.2.2.2.2.1).length = (Value.ref b :: r).length := by rw [hdrop]
                rw [List.length_drop, List.length_cons] at h3
                omega
              have hcat : ((r.map (sm_tr E ad)).map fun v => v.category).sum ≤ 8 := by rw [sm_cats]; exact hck.1
              obtain ⟨i1, i2, T, N, i3⟩ := hok.2.2.2.2.2.1 h0.1
              obtain ⟨kd, fs⟩ := q
              obtain ⟨h01, h02, h03⟩ := h0
              dsimp only at h02 h03
              have he := sm_w_at (G := G) (E := E) hn hq
              rw [sm_e_o h03] at he
              rw [← h02] at i3
              have hrec := va_recv hK hP i3 he
              rcases hlk with hlk | ⟨host, hlk⟩
              · exact sm_callg (va_runV (As := (st.take M.2.2.2.2.1).reverse.map (sm_tr E ad)) ⟨hx, hb, hml, hown, hts⟩ hM ⟨callB_of M.2.2.2.2.1 hts hG rfl rfl rfl (hts _ (hTs _ hok.2.2.1)) (hts _ (hTs _ hlk)) hok.2.2.2.1 hR, hts _ (hTs _ i1), hts _ (hTs _ i2)⟩ ⟨sm_blind, hrec, fun U hU hW => hpre U hU hW _⟩ rfl hlen hls hstk (lv_room hcat) hdg ⟨hrc, hrs⟩) hS (fun q _ z => hF q z) hF (fun x H1 l1 z1 z2 z3 z4 => kk x H1 l1 z1 z2 (z3.weaken (fun _ q _ z => hF q.1 z)) z4)
              · exact sm_callg (va_runVN (As := (st.take M.2.2.2.2.1).reverse.map (sm_tr E ad)) ⟨hx, hb, hml, hown, hts⟩ hM ⟨va_cnB M.2.2.2.2.1 hts hG rfl rfl rfl (hN.2 _ hlk) (hts _ (hTs _ hok.2.2.1)) hok.2.2.2.1 hR, hts _ (hTs _ i1), hts _ (hTs _ i2)⟩ ⟨sm_blind, hrec, fun U hU hW => hpre U hU hW _⟩ rfl hlen hls hstk (lv_room hcat) hdg ⟨hrc, hrs⟩) hS (fun q _ z => hF q z) hF (fun x H1 l1 z1 z2 z3 z4 => kk x H1 l1 z1 z2 (z3.weaken (fun _ q _ z => hF q.1 z)) z4)
            · cases hcl
          · cases hcl
        · cases hcl
      · next idx =>
        split at hcl
        · next b r0 hdrop =>
          split at hcl
          · next h0 =>
            cases hcl
            obtain ⟨hlk, hok⟩ := hln mid M rfl hPm
            have hM := sm_met ih hPm hok hck.2.1 hrun ad H.size hn
            have hG := sm_good hTs hok.2.1
            have hR : (sm_rm d dc ds).frames + 1 ≤ R.frames ∧ 8 + (M.2.2.1 + 11) + (sm_rm d dc ds).locals ≤ R.locals := ⟨hrf, by show 8 + (M.2.2.1 + 11) + 64 * d ≤ R.locals; omega⟩
            have hstk : st.map (sm_tr E ad) = (((st.take M.2.2.2.2.1).reverse.map (sm_tr E ad))).reverse ++ .ref (ad.getD b 0) :: r.map (sm_tr E ad) := by
              rw [← List.map_reverse, List.reverse_reverse]
              show _ = _ ++ (Value.ref b :: r).map (sm_tr E ad)
              rw [← List.map_append, ← hdrop, List.take_append_drop]
            have hlen : ((st.take M.2.2.2.2.1).reverse.map (sm_tr E ad)).length = M.2.2.2.2.1 := by
              rw [List.length_map, List.length_reverse, List.length_take]
              have h3 : (st.drop M.2.2.2.2.1).length = (Value.ref b :: r).length := by rw [hdrop]
              rw [List.length_drop, List.length_cons] at h3
              omega
            have hcat : ((r.map (sm_tr E ad)).map fun v => v.category).sum ≤ 8 := by rw [sm_cats]; exact hck.1
            obtain ⟨i1, i2, i3⟩ := hok.2.2.2.2.2.2 h0
            have hw : sm_ws M = Cond.code M.1 M.2.1 M.2.2.1 none :: sm_all := by unfold sm_ws; rw [i3]
            rcases hlk with hlk | ⟨host, hlk⟩
            · exact sm_callg (va_runI (As := (st.take M.2.2.2.2.1).reverse.map (sm_tr E ad)) ⟨hx, hb, hml, hown, hts⟩ hM ⟨callB_of M.2.2.2.2.1 hts hG hw rfl rfl (hts _ (hTs _ hok.2.2.1)) (hts _ (hTs _ hlk)) hok.2.2.2.1 hR, i2, hts _ (hTs _ i1)⟩ ⟨sm_blind, fun U hU hW => hpre U hU hW _⟩ rfl hlen hls hstk (lv_room hcat) hdg ⟨hrc, hrs⟩) hS (fun q _ z => hF q z) hF (fun x H1 l1 z1 z2 z3 z4 => kk x H1 l1 z1 z2 (z3.weaken (fun _ q _ z => hF q.1 z)) z4)
            · exact sm_callg (va_runIN (As := (st.take M.2.2.2.2.1).reverse.map (sm_tr E ad)) ⟨hx, hb, hml, hown, hts⟩ hM ⟨va_cnB M.2.2.2.2.1 hts hG hw rfl rfl (hN.2 _ hlk) (hts _ (hTs _ hok.2.2.1)) hok.2.2.2.1 hR, i2, hts _ (hTs _ i1)⟩ ⟨sm_blind, fun U hU hW => hpre U hU hW _⟩ rfl hlen hls hstk (lv_room hcat) hdg ⟨hrc, hrs⟩) hS (fun q _ z => hF q z) hF (fun x H1 l1 z1 z2 z3 z4 => kk x H1 l1 z1 z2 (z3.weaken (fun _ q _ z => hF q.1 z)) z4)
          · cases hcl
        · cases hcl
      · cases hcl
  · cases hcl
theorem sm_cl_len {i : Instr} {dt : List Nat} {st : List Value} {h : List sm_C} {q : Nat × sm_M × List Value × List Value} (hcl : sm_cl P i dt st h = some q) : sm_len i = 3 := by
  unfold sm_cl at hcl
  split at hcl
  · split at hcl
    · cases hcl
    · split at hcl
      · rfl
      · rfl
      · rfl
      · cases hcl
  · cases hcl
/-- the whole: every run of the small machine is one of the machine -/
theorem sm_snd (hC : sm_clok) (hC2 : sm_cnew df) (hpk : sm_pok P K L) (hXo : sm_XOK l D G E ro X L) : ∀ n : Nat, sm_S l D G E P K df ro X n
  | 0 => by
    intro d mid M pc lv st h cn sn v h' c' s' hPm hq
    cases hq
  | n + 1 => by
    have ih := sm_snd hC hC2 hpk hXo n
    intro d mid M pc lv st h cn sn v h' c' s' hPm hq p e R s m args below meth c Q A Ts cx hrc hrs hrf hrl ad H locs ls hn hl hP hD hS KR
    have cx' := cx
    obtain ⟨hx, hb, hml, hts, hTs, hown, hini, hK, hN, hEx, hA⟩ := cx'
    unfold sx at hq
    rw [hPm] at hq
    dsimp only at hq
    split at hq
    · cases hq
    · next i len dt hk =>
      obtain ⟨hdg, hlen, l1, l2, l3, l4⟩ := hpk mid M pc i len dt hPm hk
      split at hq
      · next v0 hv =>
        cases hq
        have h1 := sm_ret_len hv
        have h2 : len = 1 := by omega
        subst h2
        have h3 := KR [] H locs ls pc i st hv hdg
        rw [List.append_nil] at h3
        exact h3 hn hP hD hS
      · split at hq
        · next pc' lv' st' h1 =>
          exact sm_lo_ok hx hb hdg hlen hl h1 (fun ls hl => ih d mid M pc' lv' st' h cn sn v h' c' s' hPm hq p e R s m args below meth c Q A Ts cx hrc hrs hrf hrl ad H locs ls hn hl hP hD hS KR)
        · split at hq
          · next pc' st' h1 h2 =>
            exact sm_hp_ok hC hx hb hts hTs hown hini hK hN hEx.1 (fun _ => sm_ex_text hEx) hEx.2.2.2 hP hD hS hn hdg hlen l1 h2 (fun H locs hP hD hS hn => ih d mid M pc' lv st' h1 cn sn v h' c' s' hPm hq p e R s m args below meth c Q A Ts cx hrc hrs hrf hrl ad H locs ls hn hl hP hD hS KR)
          · split at hq
            · next pc' st' h1 dc ds h2 =>
              have hmo := sx_mono n _ _ _ _ _ _ _ _ hq
              refine sm_mk_ok hC2 hx hb hts hTs hown (sm_ex_over hEx) hK hP hD hS hA hn hdg hlen l2 h2 (by omega) (by omega) (fun x H e1 hn hP hD hS => ?_)
              refine ih d mid M pc' lv st' h1 (cn + dc) (sn + ds) v h' c' s' hPm hq p e R s m args below meth c Q A Ts cx hrc hrs hrf hrl (ad ++ x) H locs ls hn (by rw [e1]; exact hl) hP hD hS ?_
              intro y
              have h3 := KR (x ++ y)
              rw [← List.append_assoc] at h3
              exact h3
            · split at hq
              · next st' h1 dc ds h2 =>
                have hmo := sx_mono n _ _ _ _ _ _ _ _ hq
                exact hXo p e R s m args below meth c Q A Ts M.1.cls _ M.2.1 M.2.2.1 d i dt pc ls ad st st' h h1 dc ds H locs cn sn len h2 l4 cx hl.1 hdg hlen (by omega) (by omega) hrf hrl hn hP hD hS (fun H locs hn hP hD hS => ih d mid M (pc + 3) lv st' h1 (cn + dc) (sn + ds) v h' c' s' hPm hq p e R s m args below meth c Q A Ts cx hrc hrs hrf hrl ad H locs ls hn hl hP hD hS KR)
              · split at hq
                · cases hq
                · next mid' M' as r hcl =>
                  have h3 : len = 3 := by
                    have := sm_cl_len hcl
                    omega
                  subst h3
                  cases d with
                  | zero => cases hq
                  | succ d' =>
                    dsimp only at hq
                    split at hq
                    · next hck =>
                      split at hq
                      · cases hq
                      · next v1 h1 dc ds hrun =>
                        split at hq
                        · next hbd =>
                          have hmo := sx_mono n _ _ _ _ _ _ _ _ hq
                          refine sm_call ih hcl l3 cx hl.1 hdg (by omega) (by omega) hrf hrl hn hP hD hS hck hrun (fun x H locs hnx hP hD hS => ?_)
                          have hsame : sm_lt E (ad ++ x) lv = sm_lt E ad lv ∧ r.map (sm_tr E (ad ++ x)) = r.map (sm_tr E ad) := by
                            rcases hbd with hbd | ⟨hb1, hb2⟩
                            · have : x = [] := by
                                apply List.eq_nil_of_length_eq_zero
                                rw [List.length_append] at hnx
                                omega
                              subst this
                              rw [List.append_nil]
                              exact ⟨rfl, rfl⟩
                            · rw [← hn] at hb1 hb2
                              exact ⟨sm_lt_app hb2, sm_st_app hb1⟩
                          have h4 := ih (d' + 1) mid M (pc + 3) lv (v1.toList ++ r) h1 (cn + dc) (sn + ds) v h' c' s' hPm hq p e R s m args below meth c Q A Ts cx hrc hrs hrf hrl (ad ++ x) H locs ls hnx (by rw [hsame.1]; exact hl) hP hD hS (fun y => by
                            have h5 := KR (x ++ y)
                            rw [← List.append_assoc] at h5
                            exact h5)
                          rw [List.map_append, hsame.2] at h4
                          cases v1 with
                          | none => exact h4
                          | some w => exact h4
                        · cases hq
                    · cases hq
end SMD
