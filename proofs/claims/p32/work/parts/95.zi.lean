/-! The engine is right. -/
theorem zrt_app {nw r1 r2 : zRt} (h : ∀ r j t, zrt r1 r j = some t → zrt r2 r j = some t) {r j t : Nat} (hq : zrt (nw ++ r1) r j = some t) : zrt (nw ++ r2) r j = some t := by
  unfold zrt at hq ⊢
  rw [List.find?_append] at hq ⊢
  cases hf : nw.find? (fun q => Nat.beq q.1 r && Nat.beq q.2.1 j) with
  | some q =>
    rw [hf] at hq
    exact hq
  | none =>
    rw [hf] at hq
    exact h r j t hq
theorem zrt_of {rq ra : zRt} (h : ∀ q ∈ rq, zrt ra q.1 q.2.1 = some q.2.2) {r j t : Nat} (hq : zrt rq r j = some t) : zrt ra r j = some t := by
  unfold zrt at hq
  split at hq
  · next q hf =>
    cases hq
    have h1 := List.find?_some hf
    have h2 := (Bool.and_eq_true _ _).mp h1
    have h3 := h q (List.mem_of_find?_eq_some hf)
    rw [Nat.eq_of_beq_eq_true h2.1, Nat.eq_of_beq_eq_true h2.2] at h3
    exact h3
  · cases hq
def zF (T : zTm) (α : Nat → Nat) (rtu : List zRt) (raA : zRt) (h0 : List sm_C) (rk : Nat) (Q : Nat → Int → zE → Prop) : ev_F := fun v h' c s => c = 0 ∧ s = 0 ∧ zFr T α h0 h' ∧ ∃ y η' j rt, rtu[j]? = some rt ∧ zHp T α (rt ++ raA) η' h' ∧ zres rk y v ∧ Q j y η'
section ZSN
variable {P : sm_P} {K : sm_K} {df : Nat → List Value} {ro : Nat → List Int32} {X : sm_X} {mt : Lean.RArray (Nat × ab_M)} {T : zTm} {α : Nat → Nat} {rq raA : zRt} {rtu : List zRt} {fr : List (Nat × Nat)} {dep d mid : Nat} {cs : List zCd} {mi : ab_M} {D : List (List zK)} {C : zCt} {I : Nat → List Int → zE → Prop} {M : Nat → List Int → zE → Nat} {Q : Nat → Int → zE → Prop} {μ : Nat} {ρ0 : List Int} {η0 : zE} {h0 : List sm_C}
/-- a state as the engine has it -/
def zSt (ro : Nat → List Int32) (T : zTm) (α : Nat → Nat) (raA : zRt) (C : zCt) (I : Nat → List Int → zE → Prop) (M : Nat → List Int → zE → Nat) (Q : Nat → Int → zE → Prop) (μ : Nat) (ρ0 : List Int) (η0 : zE) (h0 : List sm_C) (la : ab_L) (sa : List ab_V) (n : Nat) (nw : zRt) (ra : List zK) (ρ : List Int) (η : zE) (lv : sm_L) (st : List Value) (h : List sm_C) : Prop := 0 < ρ.length ∧ n = ρ.length ∧ zL α ρ la lv ∧ zS α ρ sa st ∧ zHp T α (nw ++ raA) η h ∧ zFr T α h0 h ∧ ∀ r, zden ro C I M Q μ (ra.reverse ++ r) ρ0 η0 → zden ro C I M Q μ r ρ η
theorem zob_use {o : List zK} {ra : List zK} {a : zK} {ρ : List Int} {η : zE} (hD : ∀ o ∈ D, zden ro C I M Q μ o.reverse ρ0 η0) (hp : ∀ r, zden ro C I M Q μ (ra.reverse ++ r) ρ0 η0 → zden ro C I M Q μ r ρ η) (h : zme D (a :: ra) = true) : zden ro C I M Q μ [a] ρ η := by
  have h1 := hD _ (zme_ok h)
  rw [List.reverse_cons] at h1
  exact hp [a] h1
theorem zasb_use {as ra : List zK} {ρ : List Int} {η : zE} (hD : ∀ o ∈ D, zden ro C I M Q μ o.reverse ρ0 η0) (hp : ∀ r, zden ro C I M Q μ (ra.reverse ++ r) ρ0 η0 → zden ro C I M Q μ r ρ η) (h : zasb D ra as = true) : ∀ a ∈ as, zas ro a.2.1 ρ a.2.2 := fun a ha => by
  have h1 := List.all_eq_true.mp h a ha
  have h2 := (Bool.and_eq_true _ _).mp h1
  have h3 := zob_use (o := []) hD hp h2.2
  obtain ⟨a1, a2, a3⟩ := a
  have e : a1 = 7 := Nat.eq_of_beq_eq_true h2.1
  subst e
  exact h3
theorem zpath {ks ra : List zK} {ρ ρ' : List Int} {η η' : zE} (hp : ∀ r, zden ro C I M Q μ (ra.reverse ++ r) ρ0 η0 → zden ro C I M Q μ r ρ η) (hk : ∀ r, zden ro C I M Q μ (ks ++ r) ρ η → zden ro C I M Q μ r ρ' η') : ∀ r, zden ro C I M Q μ ((ks.reverse ++ ra).reverse ++ r) ρ0 η0 → zden ro C I M Q μ r ρ' η' := fun r q => by
  rw [List.reverse_append, List.reverse_reverse, List.append_assoc] at q
  exact hk r (hp _ q)
theorem zkd_use {ks : List zK} {ρ : List Int} {η : zE} (h : zkd ks = true) : ∀ r, zden ro C I M Q μ (ks ++ r) ρ η → zden ro C I M Q μ r (ρ ++ zxs ρ ks) η := by
  intro r hq
  unfold zkd at h
  split at h
  · unfold zxs
    rw [List.append_nil]
    exact hq
  · next k c p q =>
    have hk := Nat.ble_eq.mp h
    rcases (show k = 0 ∨ k = 1 ∨ k = 2 ∨ k = 3 by omega) with rfl | rfl | rfl | rfl
    · exact hq _ rfl
    · exact hq _ rfl
    · exact hq _ rfl
    · exact hq _ rfl
  · cases h
theorem ze_al_ok {f : Nat → List ab_V → List zK → Bool} {ra : List zK} : ∀ {L : List (List zK × Nat × List ab_V)}, ze_al f D ra L = true → ∀ e ∈ L, zme D ((7, 3, []) :: (e.1.reverse ++ ra)) = true ∨ f e.2.1 e.2.2 (e.1.reverse ++ ra) = true
  | [], _, e, he => by cases he
  | a :: L, h, e, he => by
    unfold ze_al at h
    have h1 := (Bool.and_eq_true _ _).mp h
    rcases List.mem_cons.mp he with rfl | he
    · exact Bool.or_eq_true_iff.mp h1.1
    · exact ze_al_ok h1.2 e he
theorem zfalse {ra : List zK} {ρ : List Int} {η : zE} (hD : ∀ o ∈ D, zden ro C I M Q μ o.reverse ρ0 η0) (hp : ∀ r, zden ro C I M Q μ (ra.reverse ++ r) ρ0 η0 → zden ro C I M Q μ r ρ η) (h : zme D ((7, 3, []) :: ra) = true) : False := zob_use (o := []) hD hp h
theorem zcats {ρ : List Int} : ∀ {sa : List ab_V} {st : List Value}, zS α ρ sa st → (st.map fun v => v.category).sum = (sa.map fun a => bif ab_is2 a then 2 else 1).sum
  | [], [], _ => rfl
  | [], _ :: _, q => q.elim
  | _ :: _, [], q => q.elim
  | a :: sa, v :: st, q => by
    rw [List.map_cons, List.map_cons, List.sum_cons, List.sum_cons, zcats q.2]
    congr 1
    cases hb : ab_is2 a with
    | true => exact zR_cat2 q.1 hb
    | false => exact zR_cat1 q.1 hb
theorem zpu_ok {ρ : List Int} {n rk : Nat} {y : Int} {v : Option Value} {r : List ab_V} {rv : List Value} (h00 : 0 < ρ.length) (hn : n = ρ.length) (h : zres rk y v) (hr : zS α (ρ ++ [y]) r rv) : zS α (ρ ++ [y]) (zpu rk n ++ r) (v.toList ++ rv) := by
  subst hn
  unfold zres at h
  split at h
  · obtain ⟨rfl, _⟩ := h
    exact hr
  · obtain ⟨rfl, h2⟩ := h
    exact zS_push (zR_newZ h00 h2) hr
  · obtain ⟨rfl, h2⟩ := h
    exact zS_push (zR_newZ h00 ⟨by omega, by omega⟩) hr
  · obtain ⟨rfl, h2⟩ := h
    exact zS_push (zR_newW h00 h2) hr
  · exact h.elim
set_option maxHeartbeats 1000000 in
theorem zst_ok (hX : ∀ (d : Nat) (i : Instr) (mid : Nat) (st : List Value) (h : List sm_C), mid < 900 → X d i [mid] st h = none) (hmt : ab_mtR P K mt) (hm : ab_mR P K mid mi) (hcs : ∀ e ∈ cs, zCon P K df ro X T C e) (hD : ∀ o ∈ D, zden ro C I M Q μ o.reverse ρ0 η0) (hdep : dep ≤ d) (hi : zInj T α) (hrq : ∀ q ∈ rq, zrt raA q.1 q.2.1 = some q.2.2) (hfr0 : ∀ q ∈ fr, zrt raA q.1 q.2 = none) {k : zKK} (hk : ∀ pc la sa n nw ra, k pc la sa n nw ra = true → ∀ ρ η lv st h, zSt ro T α raA C I M Q μ ρ0 η0 h0 la sa n nw ra ρ η lv st h → ev P K df ro X d mid pc lv st h 0 0 (zF T α rtu raA h0 mi.2.2.2.2.1 Q)) {pc : Nat} {la : ab_L} {sa : List ab_V} {n : Nat} {nw : zRt} {ra : List zK} (hq : zst fr mt T rq rtu dep cs mi D k pc la sa n nw ra = true) {ρ : List Int} {η : zE} {lv : sm_L} {st : List Value} {h : List sm_C} (hS : zSt ro T α raA C I M Q μ ρ0 η0 h0 la sa n nw ra ρ η lv st h) : ev P K df ro X d mid pc lv st h 0 0 (zF T α rtu raA h0 mi.2.2.2.2.1 Q) := by
  obtain ⟨h00, hn, hl, hs, hh, hfr, hp⟩ := hS
  obtain ⟨M1, m1, m2, m3, m4, m5, m6, m7⟩ := hm
  have hsub : ∀ r j t, zrt (nw ++ rq) r j = some t → zrt (nw ++ raA) r j = some t := fun r j t q => zrt_app (fun r j t q => zrt_of hrq q) q
  unfold zst at hq
  split at hq
  · cases hq
  · next q hg =>
    have hK := m7 pc q hg
    have lo : ze_lo mi.2.2.2.1 k D pc la sa n nw ra q.2.2.1 = true → ev P K df ro X d mid pc lv st h 0 0 (zF T α rtu raA h0 mi.2.2.2.2.1 Q) := fun hx => by
      unfold ze_lo at hx
      split at hx
      · next ks n' pc' la' sa' hz =>
        have hx := (Bool.and_eq_true _ _).mp hx
        have hx2 := hx.2
        rw [kf_eq, kf_eq, zkf_eq] at hx2
        obtain ⟨lv', st', g1, g2, g3, g4⟩ := zlo_ok h00 hn hl hs hz
        rw [← m5] at g1
        exact ev_lo m1 hK g1 (hk _ _ _ _ _ _ hx2 (ρ ++ zxs ρ ks) η lv' st' h ⟨by rw [List.length_append]; omega, g2, g3, g4, hh, hfr, zpath hp (zkd_use hx.1)⟩)
      · split at hx
        · next as ks n' pc' la' sa' hz =>
          have hx := (Bool.and_eq_true _ _).mp hx
          have hx1 := (Bool.and_eq_true _ _).mp hx.2
          have hx2 := hx1.2
          rw [kf_eq, kf_eq, zkf_eq] at hx2
          obtain ⟨lv', st', g1, ⟨g2, g3, g4⟩, _⟩ := zdv_ok (ml := mi.2.2.2.1) h00 hn hl hs hz (zasb_use hD hp hx.1)
          rw [← m5] at g1
          exact ev_lo m1 hK g1 (hk _ _ _ _ _ _ hx2 (ρ ++ zxs ρ ks) η lv' st' h ⟨by rw [List.length_append]; omega, g2, g3, g4, hh, hfr, zpath hp (zkd_use hx1.1)⟩)
        · cases hx
    split at hq
    · exact lo hq
    · exact lo hq
    · unfold ze_br at hq
      split at hq
      · next L hL =>
        obtain ⟨e, e1, e2, st', e3, e4⟩ := zbr_ok (ml := mi.2.2.2.1) (lv := lv) (ro := ro) (η := η) hs hL h00
        have hp2 := zpath (ρ' := ρ) (η' := η) hp (fun r => e2 C I M Q μ r)
        rcases ze_al_ok hq e e1 with w | w
        · exact (zfalse hD hp2 w).elim
        · rw [kf_eq, zkf_eq] at w
          rw [← m5] at e3
          exact ev_lo m1 hK e3 (hk _ _ _ _ _ _ w ρ η lv st' h ⟨h00, hn, hl, e4, hh, hfr, hp2⟩)
      · cases hq
    · unfold ze_hp at hq
      split at hq
      · next as ks n' pc' sa' rt' hz =>
        have hx := (Bool.and_eq_true _ _).mp hq
        have hx1 := (Bool.and_eq_true _ _).mp hx.2
        have hx2 := hx1.2
        rw [kf_eq, kf_eq, zkf_eq] at hx2
        obtain ⟨st', h', g1, x, η', wr, g2, g3, g4, g5, g6, g7⟩ := zhp_ok (ro := ro) h00 hn hs hh hsub hi hz (zasb_use hD hp hx.1)
        have e1 := zrb_ok hx1.1
        have e2 : rt'.take (rt'.length - rq.length) = wr ++ nw := by
          apply List.append_cancel_right (bs := rq)
          rw [← e1, g4, List.append_assoc]
        rw [e2] at hx2
        exact ev_hp m1 hK g1 (hk _ _ _ _ _ _ hx2 (ρ ++ x) η' lv st' h' ⟨by rw [List.length_append]; omega, g2, zL_app hl, g3, by rw [List.append_assoc]; exact g5, zFr_tr hfr g6, zpath hp (fun r => g7 C I M Q μ r)⟩)
      · split at hq
        · next hi0 =>
          split at hq
          · next as L hz =>
            have hx := (Bool.and_eq_true _ _).mp hq
            obtain ⟨e, e1, e2, st', e3, e4⟩ := zaa_ok (ro := ro) hs hh hsub hz (zasb_use hD hp hx.1)
            have hp2 := zpath (ρ' := ρ) (η' := η) hp (fun r => e2 C I M Q μ r)
            rcases ze_al_ok hx.2 e e1 with w | w
            · exact (zfalse hD hp2 w).elim
            · rw [kf_eq, zkf_eq] at w
              have e5 : sm_hp ro q.2.2.1 q.2.2.2.2 pc st h = some (e.2.1, st', h) := by rw [hi0]; exact e3
              exact ev_hp m1 hK e5 (hk _ _ _ _ _ _ w ρ η lv st' h ⟨h00, hn, hl, e4, hh, hfr, hp2⟩)
          · cases hq
        · cases hq
    · unfold ze_sp at hq
      split at hq
      · next k0 idx hdt hii =>
        obtain ⟨e, he, hx⟩ := List.any_eq_true.mp hq
        simp only [Bool.and_eq_true] at hx
        obtain ⟨b1, b2, b3, b4, b5, b6, b9⟩ := hx
        split at b9
        · next l hl0 =>
          have b9 := (Bool.and_eq_true _ _).mp b9
          have b10 := b9.2
          rw [kf_eq, kf_eq] at b10
          have hpre := zob_use (o := []) hD hp b9.1
          have hmet := hcs e he
          have e1 := Nat.eq_of_beq_eq_true b1
          unfold zCon at hmet
          rw [show Nat.ble e.1 899 = false from by rw [e1]; exact (Bool.not_eq_true' _).mp b2, cond_false, e1] at hmet
          have c2 := ab_all2_rev (ab_all2_take e.2.2.2.1.length hs)
          have c3 := ab_all2_drop e.2.2.2.1.length hs
          have hz0 := zmt_ok hl0 c2 [] rfl
          obtain ⟨v, h', y, η', g1, g2, g3, g4, g5⟩ := hmet α h η (nw ++ raA) d idx (l.map (zn ρ)) _ (st.drop e.2.2.2.1.length) (Nat.le_trans (Nat.ble_eq.mp b3) hdep) hi hh (fun w hw => hsub _ _ _ (zrq_ok b4 w hw)) hz0 (by rw [List.length_map]; exact zmt_len hl0) hpre (zcats c3 ▸ Nat.ble_eq.mp b6)
          rw [List.reverse_reverse, List.take_append_drop, ← hdt, ← hii] at g1
          refine ev_x m1 hK (by rw [hii]; rfl) g1 (hk _ _ _ _ _ _ b10 (ρ ++ [y]) η' lv (v.toList ++ st.drop e.2.2.2.1.length) h' ⟨by rw [List.length_append]; omega, by rw [List.length_append, hn]; rfl, zL_app hl, ?_, by rw [List.append_assoc]; exact g2, zFr_tr hfr g3, ?_⟩)
          · exact zpu_ok h00 hn g4 (zS_app c3)
          · have := zpath (ks := [(8, e.2.1, l)]) (ρ' := ρ ++ [y]) (η' := η') hp (fun r w => w y η' g5)
            exact this
        · cases b9
      · cases hq
    · unfold ze_ca at hq
      split at hq
      · next mid' hdt =>
        split at hq
        · next m hmg =>
          split at hq
          · next as r hcl =>
            obtain ⟨e, he, hx⟩ := List.any_eq_true.mp hq
            simp only [Bool.and_eq_true] at hx
            obtain ⟨b1, b2, b3, b4, b5, b6, b7, b8, b9⟩ := hx
            split at b9
            · next l hl0 =>
              have b9 := (Bool.and_eq_true _ _).mp b9
              have b10 := b9.2
              rw [kf_eq, kf_eq] at b10
              obtain ⟨M', p1, p2, p3, p4, p5, p6, p7⟩ := hmt mid' m hmg
              obtain ⟨ci, vs, rv, c1, c2, c3⟩ := zcl_ok p1 p2 p3 p4 hs hh hcl
              have hpre := zob_use (o := []) hD hp b9.1
              have hmet := hcs e he
              have e1 := Nat.eq_of_beq_eq_true b1
              unfold zCon at hmet
              rw [show Nat.ble e.1 899 = true from by rw [e1]; exact b5, cond_true] at hmet
              have hd1 := Nat.ble_eq.mp b2
              obtain ⟨d', rfl⟩ : ∃ d', d = d' + 1 := ⟨d - 1, by omega⟩
              rw [e1] at hmet
              have hz0 := zmt_ok hl0 c2 [] rfl
              obtain ⟨n1, v, h', y, η', g1, g2, g3, g4, g5⟩ := hmet α h η (nw ++ raA) d' (l.map (zn ρ)) vs (by omega) hi hh (fun w hw => hsub _ _ _ (zrq_ok b3 w hw)) hz0 (by rw [List.length_map]; exact zmt_len hl0) hpre
              have hck : (rv.map fun v => v.category).sum ≤ 8 ∧ (lg_sl vs).length ≤ M'.2.2.1 ∧ M'.2.2.1 ≤ 45 := ⟨zcats c3 ▸ Nat.ble_eq.mp b6, by rw [ab_sl_len, zcats c2, p5]; exact Nat.ble_eq.mp b7, by rw [p5]; exact Nat.ble_eq.mp b8⟩
              have hxn : X (d' + 1) q.2.2.1 q.2.2.2.2 st h = none := by rw [hdt]; exact hX _ _ _ _ _ (Nat.lt_succ_of_le (Nat.ble_eq.mp b5))
              rw [← hdt] at c1
              refine ev_callz m1 hK ci hxn c1 hck g1 g3.1 (hk _ _ _ _ _ _ b10 (ρ ++ [y]) η' lv (v.toList ++ rv) h' ⟨by rw [List.length_append]; omega, by rw [List.length_append, hn]; rfl, zL_app hl, ?_, by rw [List.append_assoc]; exact g2, zFr_tr hfr g3, ?_⟩)
              · exact zpu_ok h00 hn g4 (zS_app c3)
              · have := zpath (ks := [(8, e.2.1, l)]) (ρ' := ρ ++ [y]) (η' := η') hp (fun r w => w y η' g5)
                exact this
            · cases b9
          · cases hq
        · cases hq
      · cases hq
    · unfold ze_re at hq
      split at hq
      · next as v0 hz =>
        have hx := (Bool.and_eq_true _ _).mp hq
        obtain ⟨i0, rt0, i1, i2, i3⟩ := zra_ok hx.2
        rw [Nat.zero_add] at i3
        obtain ⟨v, g1, g2⟩ := zre_ok (ro := ro) h00 hs hz (zasb_use hD hp hx.1)
        have hQ := zob_use (o := []) hD hp i3
        rw [← m6] at g1
        exact ev_ret m1 hK g1 ⟨rfl, rfl, hfr, _, η, i0, rt0, i1, zHp_cov hh (zcov_ok i2 hfr0), g2, hQ⟩
      · cases hq
    · cases hq
end ZSN
