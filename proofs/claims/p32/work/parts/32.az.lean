section AXE
variable {P : sm_P} {K : sm_K} {df : Nat → List Value} {ro : Nat → List Int32} {gc gs cm sm : Nat} {mt : Lean.RArray (Nat × ab_M)} {R : ab_Ro} {dfl : List ab_C}
/-- the end that is asked for -/
def ax_F1 (cm sm : Nat) : ev_F := fun v _ c s => v = some (.int 1) ∧ c ≤ cm ∧ s ≤ sm
/-- it comes to that end -/
def ax_G (P : sm_P) (K : sm_K) (df : Nat → List Value) (ro : Nat → List Int32) (gc gs cm sm : Nat) (d mid pc : Nat) (lv : sm_L) (st : List Value) (h : List sm_C) (c s : Nat) (cs : ev_C) : Prop := ev P K df ro (sm_X0 gc gs) d mid pc lv st h c s (gk P K df ro (sm_X0 gc gs) (ax_F1 cm sm) cs d)
theorem ab_sl_len (as : List Value) : (lg_sl as).length = (as.map fun v => v.category).sum := by
  unfold lg_sl
  induction as with
  | nil => rfl
  | cons v vs ih =>
    rw [List.flatMap_cons, List.length_append, ih, List.map_cons, List.sum_cons]
    rcases lv_cat v with h | h
    · rw [if_neg (by omega), h]; rfl
    · rw [if_pos h, h]; rfl
theorem ab_args_ok {ρ : List Int} : ∀ {as : List ab_V} {vs : List Value} (j : Nat), ab_sR ρ as vs → ab_lR ρ (ab_args j as) (lv_args j vs)
  | [], [], _, _ => trivial
  | [], _ :: _, _, q => q.elim
  | _ :: _, [], _, q => q.elim
  | a :: as, v :: vs, j, q => by
    refine ⟨⟨rfl, q.1⟩, ?_⟩
    have h1 : (if v.category = 2 then j + 2 else j + 1) = (bif ab_is2 a then j + 2 else j + 1) := by
      cases hb : ab_is2 a with
      | true => rw [if_pos (ab_R_cat2 q.1 hb)]; rfl
      | false => rw [if_neg (by rw [ab_R_cat1 q.1 hb]; decide)]; rfl
    rw [h1]
    exact ab_args_ok _ q.2
theorem ab_all2_len {α β : Type} {S : α → β → Prop} : ∀ {as : List α} {bs : List β}, ab_all2 S as bs → as.length = bs.length
  | [], [], _ => rfl
  | [], _ :: _, q => q.elim
  | _ :: _, [], q => q.elim
  | _ :: as, _ :: bs, q => by rw [List.length_cons, List.length_cons, ab_all2_len q.2]
theorem ab_all2_take {α β : Type} {S : α → β → Prop} : ∀ (k : Nat) {as : List α} {bs : List β}, ab_all2 S as bs → ab_all2 S (as.take k) (bs.take k)
  | 0, _, _, _ => trivial
  | k + 1, [], [], _ => trivial
  | k + 1, [], _ :: _, q => q.elim
  | k + 1, _ :: _, [], q => q.elim
  | k + 1, _ :: as, _ :: bs, q => ⟨q.1, ab_all2_take k q.2⟩
theorem ab_all2_drop {α β : Type} {S : α → β → Prop} : ∀ (k : Nat) {as : List α} {bs : List β}, ab_all2 S as bs → ab_all2 S (as.drop k) (bs.drop k)
  | 0, _, _, q => q
  | k + 1, [], [], _ => trivial
  | k + 1, [], _ :: _, q => q.elim
  | k + 1, _ :: _, [], q => q.elim
  | k + 1, _ :: as, _ :: bs, q => ab_all2_drop k (as := as) (bs := bs) q.2
theorem ab_all2_app {α β : Type} {S : α → β → Prop} : ∀ {as : List α} {bs : List β} {cs : List α} {ds : List β}, ab_all2 S as bs → ab_all2 S cs ds → ab_all2 S (as ++ cs) (bs ++ ds)
  | [], [], _, _, _, q => q
  | [], _ :: _, _, _, q, _ => q.elim
  | _ :: _, [], _, _, q, _ => q.elim
  | _ :: as, _ :: bs, _, _, q, r => ⟨q.1, ab_all2_app q.2 r⟩
theorem ab_all2_rev {α β : Type} {S : α → β → Prop} : ∀ {as : List α} {bs : List β}, ab_all2 S as bs → ab_all2 S as.reverse bs.reverse
  | [], [], _ => trivial
  | [], _ :: _, q => q.elim
  | _ :: _, [], q => q.elim
  | _ :: as, _ :: bs, q => by
    rw [List.reverse_cons, List.reverse_cons]
    exact ab_all2_app (ab_all2_rev q.2) ⟨q.1, trivial⟩
theorem ab_cl_ok {i : Instr} {m : ab_M} {M : sm_M} {t : ab_H} {hn mid : Nat} {h : List sm_C} {ρ : List Int} {sa as r : List ab_V} {st : List Value} (hP : P mid = some M) (h1 : M.2.2.2.2.1 = m.1) (h2 : M.2.2.2.2.2.1 = m.2.1) (h3 : M.2.2.2.2.2.2 = m.2.2.1) (hs : ab_sR ρ sa st) (hh : ab_hR ρ t hn h) (hq : ab_cl i m t hn sa = some (as, r)) : sm_inv i = true ∧ ∃ vs rv, sm_cl P i [mid] st h = some (mid, M, vs, rv) ∧ ab_sR ρ as vs ∧ ab_sR ρ r rv := by
  have hL := ab_all2_len hs
  cases i
  case invokestatic idx =>
    unfold ab_cl at hq
    dsimp only at hq
    obtain ⟨hb, he⟩ := ab_bif hq _ rfl
    cases he
    have hb := (Bool.and_eq_true _ _).mp hb
    refine ⟨rfl, (st.take M.2.2.2.2.1).reverse, st.drop M.2.2.2.2.1, ?_, by rw [h1]; exact ab_all2_rev (ab_all2_take _ hs), by rw [h1]; exact ab_all2_drop _ hs⟩
    unfold sm_cl
    dsimp only
    rw [hP]
    dsimp only
    rw [if_pos ⟨by rw [h2]; exact Nat.eq_of_beq_eq_true hb.1, by rw [h1, ← hL]; exact Nat.ble_eq.mp hb.2⟩]
  case invokevirtual idx =>
    unfold ab_cl at hq
    dsimp only at hq
    split at hq
    · next b r0 hd =>
      have hd2 := ab_all2_drop m.1 hs
      rw [hd] at hd2
      obtain ⟨v, rv, hdv, hv, hr⟩ := ab_s_cons hd2
      obtain rfl := hv
      split at hq
      · next q hqq =>
        obtain ⟨hb, he⟩ := ab_bif hq _ rfl
        cases he
        obtain ⟨b1, b2, b3, b4⟩ := ab_and4 hb
        obtain ⟨vs, u1, u2, u3⟩ := ab_cell (kd := q.1) (len := q.2.1) (c := q.2.2) hh hqq b4
        refine ⟨rfl, .ref b :: (st.take M.2.2.2.2.1).reverse, rv, ?_, ⟨rfl, by rw [h1]; exact ab_all2_rev (ab_all2_take _ hs)⟩, hr⟩
        unfold sm_cl
        dsimp only
        rw [hP]
        dsimp only
        rw [h1, hdv]
        dsimp only
        rw [u1]
        dsimp only
        rw [if_pos ⟨by rw [h2]; exact Nat.eq_of_beq_eq_true b1, by rw [h3]; exact Nat.eq_of_beq_eq_true b2, by have := Nat.ble_eq.mp b3; omega⟩]
      · cases hq
    · cases hq
  case invokespecial idx =>
    unfold ab_cl at hq
    dsimp only at hq
    split at hq
    · next b r0 hd =>
      have hd2 := ab_all2_drop m.1 hs
      rw [hd] at hd2
      obtain ⟨v, rv, hdv, hv, hr⟩ := ab_s_cons hd2
      obtain rfl := hv
      obtain ⟨hb, he⟩ := ab_bif hq _ rfl
      cases he
      refine ⟨rfl, .ref b :: (st.take M.2.2.2.2.1).reverse, rv, ?_, ⟨rfl, by rw [h1]; exact ab_all2_rev (ab_all2_take _ hs)⟩, hr⟩
      unfold sm_cl
      dsimp only
      rw [hP]
      dsimp only
      rw [h1, hdv]
      dsimp only
      rw [if_pos (by rw [h2]; exact Nat.eq_of_beq_eq_true hb)]
    · cases hq
  all_goals (exact absurd hq (by intro q; cases q))
theorem ab_re_ok {E : ab_E} {rt : Nat} {i : Instr} {ρ : List Int} {sa vs : List ab_V} {st : List Value} (ho : ab_ok ρ E) (hs : ab_sR ρ sa st) (hq : ab_re E rt i sa = some vs) : ∃ v : Option Value, sm_ret (ab_rt rt) i st = some v ∧ ab_sR ρ vs v.toList := by
  unfold ab_re at hq
  split at hq
  · next q =>
    obtain ⟨v, s1, rfl, h1, hs1⟩ := ab_s_cons hs
    obtain ⟨g1, rfl⟩ := h1
    cases s1 with
    | cons _ _ => exact hs1.elim
    | nil =>
      cases hb : Nat.beq rt 1 with
      | true =>
        rw [hb] at hq
        cases hq
        have := Nat.eq_of_beq_eq_true hb
        subst this
        exact ⟨some (.int (Int32.ofInt (ρ.getD q.1 0 + q.2))), by simp [sm_ret, ab_rt], ⟨g1, rfl⟩, trivial⟩
      | false =>
        rw [hb] at hq
        dsimp only [cond_false] at hq
        cases hb2 : Nat.beq rt 2 with
        | false => rw [hb2] at hq; cases hq
        | true =>
          rw [hb2] at hq
          dsimp only [cond_true] at hq
          have := Nat.eq_of_beq_eq_true hb2
          subst this
          split at hq
          · next z hz =>
            obtain ⟨hc, he⟩ := ab_bif hq _ rfl
            cases he
            have hc := (Bool.and_eq_true _ _).mp hc
            have c1 := ab_ile_iff.mp hc.1
            have c2 := ab_ile_iff.mp hc.2
            have c3 := ab_rg_ok ho hz
            refine ⟨some (.int (Int32.ofInt (ρ.getD q.1 0 + q.2))), ?_, ⟨g1, rfl⟩, trivial⟩
            rcases (by omega : ρ.getD q.1 0 + q.2 = 0 ∨ ρ.getD q.1 0 + q.2 = 1) with e | e
            · rw [e, show Int32.ofInt 0 = 0 from rfl]; simp [sm_ret, ab_rt]
            · rw [e, show Int32.ofInt 1 = 1 from rfl]; simp [sm_ret, ab_rt]
          · cases hq
  · next q =>
    obtain ⟨v, s1, rfl, h1, hs1⟩ := ab_s_cons hs
    obtain ⟨g1, rfl⟩ := h1
    cases s1 with
    | cons _ _ => exact hs1.elim
    | nil =>
      obtain ⟨hc, he⟩ := ab_bif hq _ rfl
      cases he
      have := Nat.eq_of_beq_eq_true hc
      subst this
      exact ⟨some (.long (Int64.ofInt (ρ.getD q.1 0 + q.2))), by simp [sm_ret, ab_rt], ⟨g1, rfl⟩, trivial⟩
  · cases st with
    | cons _ _ => exact hs.elim
    | nil =>
      obtain ⟨hc, he⟩ := ab_bif hq _ rfl
      cases he
      have := Nat.eq_of_beq_eq_true hc
      subst this
      exact ⟨none, by simp [sm_ret, ab_rt], trivial⟩
  · cases hq
/-- a step is right: what is shown of all that it leads to is shown of it -/
theorem ax_E_ok (hmt : ab_mtR P K mt) (hdf : ab_dfR dfl df) {k : ax_K} {n : Nat} {E : ab_E} {t : ab_H} {hn d c s mid : Nat} {mi : ab_M} {pc : Nat} {la : ab_L} {sa : List ab_V} {fs : List ab_F} {q : ab_I} (hg : ab_get mi.2.2.2.2.2 pc = some q) (hx : ax_E mt R dfl gc gs cm sm k n E t hn d c s mid mi pc la sa fs q = true)
    {ρ : List Int} {lv : sm_L} {st : List Value} {h : List sm_C} {cs : ev_C} (hR : ab_St P K R (ro 1) ρ n E t hn mid mi la sa fs lv st h cs)
    (hk : ∀ (n : Nat) (E : ab_E) (t : ab_H) (hn d c s mid : Nat) (mi : ab_M) (pc : Nat) (la : ab_L) (sa : List ab_V) (fs : List ab_F), k n E t hn d c s mid mi pc la sa fs = true → ∀ (x : List Int) (lv : sm_L) (st : List Value) (h : List sm_C) (cs : ev_C), ab_St P K R (ro 1) (ρ ++ x) n E t hn mid mi la sa fs lv st h cs → ax_G P K df ro gc gs cm sm d mid pc lv st h c s cs) :
    ax_G P K df ro gc gs cm sm d mid pc lv st h c s cs := by
  obtain ⟨ho, hn0, hh, hm, hl, hs, hf, hr⟩ := hR
  have hm' := hm
  obtain ⟨M, m1, m2, m3, m4, m5, m6, m7⟩ := hm'
  have hK := m7 pc q hg
  have lo_case : ∀ (E' : ab_E) (n' pc' : Nat) (la' : ab_L) (sa' : List ab_V), ab_lo mi.2.2.2.1 q.2.2.1 pc E n la sa = some (E', n', pc', la', sa') → k n' E' t hn d c s mid mi pc' la' sa' fs = true → ax_G P K df ro gc gs cm sm d mid pc lv st h c s cs := by
    intro E' n' pc' la' sa' hlo hkk
    obtain ⟨lv', st', g1, x, g2, g3, g4, g5⟩ := ab_lo_ok ho hn0 hl hs hlo
    rw [← m5] at g1
    exact ev_lo m1 hK g1 (hk _ _ _ _ _ _ _ _ _ _ _ _ _ hkk x lv' st' h cs ⟨g2, g3, ab_hR_app hh, hm, g4, g5, ab_fR_app hf, ab_roR_app hr⟩)
  unfold ax_E at hx
  split at hx
  · unfold ax_0 at hx
    split at hx
    · next E' n' pc' la' sa' hlo =>
      rw [kf_eq, kf_eq, kt1_eq] at hx
      exact lo_case _ _ _ _ _ hlo hx
    · cases hx
  · unfold ax_1 at hx
    split at hx
    · next E' n' pc' la' sa' hlo =>
      rw [kf_eq, kf_eq, kla_eq] at hx
      exact lo_case _ _ _ _ _ hlo hx
    · cases hx
  · unfold ax_2 at hx
    split at hx
    · next L hL =>
      obtain ⟨e, e1, e2, st', e3, e4⟩ := ab_br_ok (ml := mi.2.2.2.1) (lv := lv) ho hs hL
      rw [← m5] at e3
      have hkk := ax_all_ok hx e e1
      refine ev_lo m1 hK e3 (hk _ _ _ _ _ _ _ _ _ _ _ _ _ hkk [] lv st' h cs ?_)
      rw [List.append_nil]
      exact ⟨e2, hn0, hh, hm, hl, e4, hf, hr⟩
    · cases hx
  · unfold ax_3 at hx
    split at hx
    · next E' n' pc' sa' w hhp =>
      rw [kf_eq, kf_eq, kt1_eq, kw_eq, ab_awK_eq] at hx
      obtain ⟨st', h', g1, x, g2, g3, g4, g5⟩ := ab_hp_ok ho hn0 hr hs hh hhp
      exact ev_hp m1 hK g1 (hk _ _ _ _ _ _ _ _ _ _ _ _ _ hx x lv st' h' cs ⟨g2, g3, g5, hm, ab_lR_app hl, g4, ab_fR_app hf, ab_roR_app hr⟩)
    · cases hx
  · unfold ax_4 at hx
    split at hx
    · next pc' sa' ncs dc ds hmk =>
      rw [kf_eq, kf_eq, kf_eq, kf_eq, ab_putsK_eq] at hx
      obtain ⟨st', h', g1, g2, g3⟩ := ab_mk_ok hdf ho hl hs hh hmk
      refine ev_mk m1 hK g1 (hk _ _ _ _ _ _ _ _ _ _ _ _ _ hx [] lv st' h' cs ?_)
      rw [List.append_nil]
      exact ⟨ho, hn0, g3, hm, hl, g2, hf, hr⟩
    · cases hx
  · unfold ax_5 at hx
    split at hx
    · next sa' ws dc ds hX =>
      rw [kf_eq, kf_eq, kf_eq, kt1_eq, ab_wrK_eq] at hx
      obtain ⟨st', h', g1, g2, g3⟩ := ab_X0_ok ho hs hh hX
      refine ev_x m1 hK (sm_X0_inv g1) g1 (hk _ _ _ _ _ _ _ _ _ _ _ _ _ hx [] lv st' h' cs ?_)
      rw [List.append_nil]
      exact ⟨ho, hn0, g3, hm, hl, g2, hf, hr⟩
    · cases hx
  · unfold ax_6 at hx
    split at hx
    · next mid' hdt =>
      split at hx
      · next m hmg =>
        split at hx
        · cases hx
        · next d' =>
          split at hx
          · next as r hcl =>
            cases hb : (Nat.ble mid' 899 && (ab_c8 r && (Nat.ble ((as.map fun a => bif ab_is2 a then 2 else 1).sum) m.2.2.2.1 && (Nat.ble m.2.2.2.1 45 && (ab_bs hn r && ab_bl hn la))))) with
            | false => rw [hb] at hx; cases hx
            | true =>
              rw [hb] at hx
              have hx : kla (ab_args 0 as) (fun la' => kls r (fun r => kf (pc + 3) (fun pc' => kf d' (fun d' => k n E t hn d' 0 0 mid' m 0 la' [] ((mid, pc', la, r, c, s) :: fs))))) = true := hx
              rw [kla_eq, kls_eq, kf_eq, kf_eq] at hx
              obtain ⟨b1, b2, b3, b456⟩ := ab_and4 hb
              obtain ⟨b4, b5, b6⟩ := ab_and3 b456
              have hm2 := hmt mid' m hmg
              obtain ⟨M', p1, p2, p3, p4, p5, p6, p7⟩ := hm2
              obtain ⟨ci, vs, rv, c1, c2, c3⟩ := ab_cl_ok p1 p2 p3 p4 hs hh hcl
              rw [hdt] at hK
              have hlow : mid' < 900 := by have := Nat.ble_eq.mp b1; omega
              refine ev_call m1 hK ci (sm_X0_low hlow) c1 ⟨ab_c8_ok c3 b2, by rw [ab_sl_len, ab_cats c2, p5]; exact Nat.ble_eq.mp b3, by rw [p5]; exact Nat.ble_eq.mp b4⟩ ⟨by rw [hh.1]; exact ab_bs_ok c3 b5, by rw [hh.1]; exact ab_bl_ok hl b6⟩ ?_
              have h9 := hk _ _ _ _ _ _ _ _ _ _ _ _ _ hx [] (lv_args 0 vs) [] h ((mid, pc + 3, lv, rv, c, s) :: cs) (by
                rw [List.append_nil]
                exact ⟨ho, hn0, hh, hmt mid' m hmg, ab_args_ok 0 c2, trivial, ⟨⟨rfl, rfl, hl, c3, rfl, rfl⟩, hf⟩, hr⟩)
              exact h9
          · cases hx
      · cases hx
    · cases hx
  · unfold ax_7 at hx
    split at hx
    · next vs hre =>
      obtain ⟨v, v1, v2⟩ := ab_re_ok ho hs hre
      rw [← m6] at v1
      refine ev_ret m1 hK v1 ?_
      split at hx
      · cases cs with
        | cons _ _ => exact hf.elim
        | nil =>
          split at hx
          · next z =>
            obtain ⟨b1, b2, b3, b45⟩ := ab_and4 hx
            obtain ⟨b4, b5⟩ := (Bool.and_eq_true _ _).mp b45
            cases v with
            | none => exact v2.elim
            | some w =>
              obtain ⟨⟨_, e1⟩, _⟩ := v2
              refine ⟨?_, Nat.ble_eq.mp b4, Nat.ble_eq.mp b5⟩
              have g1 := ab_ile_iff.mp b2
              have g2 := ab_ile_iff.mp b3
              rw [e1, Nat.eq_of_beq_eq_true b1, ho.2.1, show (0 : Int) + z.2 = 1 by omega]
              rfl
          · cases hx
      · next f fs' =>
        cases cs with
        | nil => exact hf.elim
        | cons g cs' =>
          obtain ⟨⟨f1, f2, f3, f4, f5, f6⟩, hf'⟩ := hf
          split at hx
          · next m hmg =>
            rw [kf_eq, kf_eq, kf_eq] at hx
            have h9 := hk _ _ _ _ _ _ _ _ _ _ _ _ _ hx [] g.2.2.1 (v.toList ++ g.2.2.2.1) h cs' (by
              rw [List.append_nil]
              exact ⟨ho, hn0, hh, hmt f.1 m hmg, f3, ab_all2_app v2 f4, hf', hr⟩)
            rw [f1, f2, f5, f6] at h9
            exact h9
          · cases hx
    · cases hx
end AXE
