section ABJ
variable {ρ : List Int} {E E' : ab_E} {n n' pc pc' hn : Nat} {sa sa' : List ab_V} {st : List Value} {t : ab_H} {h : List sm_C} {w : ab_W} {dt : List Nat} {ro : Nat → List Int32} {R : ab_Ro}
theorem ab_any {ks : List Nat} {kd : Nat} (h : ks.any (fun z => Nat.beq kd z) = true) : kd ∈ ks := by
  obtain ⟨z, h1, h2⟩ := List.any_eq_true.mp h
  rw [Nat.eq_of_beq_eq_true h2]
  exact h1
theorem ab_and3 {a b c : Bool} (h : (a && (b && c)) = true) : a = true ∧ b = true ∧ c = true := by
  cases a <;> cases b <;> cases c <;> simp_all
theorem ab_toNat {x : Int} {len : Nat} (h0 : 0 ≤ x) (h1 : x < (len : Int)) : x.toNat < len := by omega
theorem ab_ia_ok {ks : List Nat} (ho : ab_ok ρ E) (hn0 : n = ρ.length) (hR : ab_roR ρ R (ro 1)) (hs : ab_sR ρ sa st) (hh : ab_hR ρ t hn h) (hq : ab_ia R ks pc E n t hn sa = some (E', n', pc', sa', w)) : ∃ st' h', sm_il ks ro pc st h = some (pc', st', h') ∧ ab_Gh ρ E' n' sa' (ab_aw t w) hn st' h' := by
  unfold ab_ia at hq
  split at hq
  · next i a r =>
    obtain ⟨v1, s1, rfl, h1, hs1⟩ := ab_s_cons hs
    obtain ⟨v2, s2, rfl, h2, hs2⟩ := ab_s_cons hs1
    obtain ⟨i1, rfl⟩ := h1
    obtain rfl := h2
    split at hq
    · next kd len c hg =>
      cases hb : (ks.any (fun z => Nat.beq kd z) && (Nat.ble (a + 1) hn && ab_ix E i len)) with
      | false => rw [hb] at hq; cases hq
      | true =>
        rw [hb] at hq
        obtain ⟨b1, b2, b3⟩ := ab_and3 hb
        obtain ⟨vs, g1, g2, g3⟩ := ab_cell hh hg b2
        obtain ⟨k1, k2, k3, k4⟩ := ab_ix_ok ho b3
        have hil : sm_il ks ro pc (.int (Int32.ofInt (ρ.getD i.1 0 + i.2)) :: .ref a :: s2) h = some (pc + 1, .int (sm_ival (vs.getD (ρ.getD i.1 0 + i.2).toNat .null)) :: s2, h) := by
          unfold sm_il
          dsimp only
          rw [g1]
          dsimp only
          rw [if_pos ⟨ab_any b1, by rw [g2]; exact k3⟩, k4]
        dsimp only [cond_true] at hq
        split at hq
        · next ft =>
          split at hq
          · next h0 =>
            split at hq
            · next q hqq =>
              cases hq
              obtain ⟨b, e1, e2⟩ := g3 (ρ.getD i.1 0 + i.2).toNat (ab_toNat k1 k2)
              rw [h0, ho.2.1, Int.zero_add] at e1 e2 hil
              rw [hqq] at e1
              cases e1
              obtain ⟨e3, e4⟩ := e2
              rw [h0, ho.2.1, Int.zero_add]
              refine ⟨_, _, hil, ab_Gh_same ho hn0 ⟨⟨e3, ?_⟩, hs2⟩ hh⟩
              rw [e4]
              rfl
            · cases hq
          · cases hq
        · next z =>
          obtain ⟨x, e1, e2, e3⟩ := g3 (ρ.getD i.1 0 + i.2).toNat (ab_toNat k1 k2)
          rw [e1] at hil
          cases hz : ab_ile z.2 z.1 with
          | true =>
            rw [hz] at hq
            cases hq
            have e4 := ab_ile_iff.mp hz
            refine ⟨_, _, hil, ab_Gh_same ho hn0 ⟨⟨ho.1, ?_⟩, hs2⟩ hh⟩
            rw [ho.2.1]
            show Value.int (Int32.ofInt x) = Value.int (Int32.ofInt (0 + z.1))
            rw [Int.zero_add, show x = z.1 by omega]
          | false =>
            rw [hz] at hq
            cases hq
            subst hn0
            refine ⟨_, _, hil, [x], ab_ok_new ho e2 e3, by simp, ⟨⟨by simp, ?_⟩, ab_sR_app hs2⟩, ab_hR_app hh⟩
            show Value.int (Int32.ofInt x) = Value.int (Int32.ofInt ((ρ ++ [x]).getD ρ.length 0 + 0))
            rw [ab_getD_new, Int.add_zero]
    · cases hq
  · next i j r =>
    obtain ⟨v1, s1, rfl, h1, hs1⟩ := ab_s_cons hs
    obtain ⟨v2, s2, rfl, h2, hs2⟩ := ab_s_cons hs1
    obtain ⟨i1, rfl⟩ := h1
    obtain rfl := h2
    cases hb : (Nat.beq j 1 && (ks.any (fun z => Nat.beq 100 z) && (Nat.beq i.1 0 && (ab_ile 0 i.2 && ab_le E (0, i.2 + 1) R.2)))) with
    | false => rw [hb] at hq; cases hq
    | true =>
      rw [hb] at hq
      obtain ⟨b1, b2, b3, b45⟩ := ab_and4 hb
      obtain ⟨b4, b5⟩ := (Bool.and_eq_true _ _).mp b45
      have e0 := Nat.eq_of_beq_eq_true b3
      have e1 := ab_ile_iff.mp b4
      have e2 := ab_le_ok ho b5
      dsimp only at e2
      rw [ho.2.1, ← hR.2.1] at e2
      have ej := Nat.eq_of_beq_eq_true b1
      subst ej
      have hL := hR.2.2.1
      dsimp only [cond_true] at hq
      split at hq
      · next b hbk =>
        cases hq
        have f := ab_toInt (x := i.2) (by omega) (by omega)
        have g : (Int32.ofInt i.2).toNatClampNeg = i.2.toNat := by
          unfold Int32.toNatClampNeg
          rw [f]
        rw [e0, ho.2.1, Int.zero_add]
        refine ⟨.int ((ro 1).getD i.2.toNat 0) :: s2, h, ?_, ab_Gh_same ho hn0 ⟨hR.2.2.2 _ _ hbk (by omega), hs2⟩ hh⟩
        have hc : 100 ∈ ks ∧ ¬ (Int32.ofInt i.2 < 0 ∨ (ro 1).length ≤ (Int32.ofInt i.2).toNatClampNeg) := ⟨ab_any b2, by
          rw [g]
          rintro (q | q)
          · rw [Int32.lt_iff_toInt_lt, f] at q
            have : (0 : Int32).toInt = 0 := rfl
            omega
          · omega⟩
        unfold sm_il
        dsimp only
        rw [if_pos hc, g]
      · cases hq
  · cases hq
theorem ab_is_ok {ks : List Nat} (ho : ab_ok ρ E) (hn0 : n = ρ.length) (hs : ab_sR ρ sa st) (hh : ab_hR ρ t hn h) (hq : ab_is ks pc E n t hn sa = some (E', n', pc', sa', w)) : ∃ st' h', sm_is ks pc st h = some (pc', st', h') ∧ ab_Gh ρ E' n' sa' (ab_aw t w) hn st' h' := by
  unfold ab_is at hq
  split at hq
  · next x i a r =>
    obtain ⟨v0, s0, rfl, hx, hs0⟩ := ab_s_cons hs
    obtain ⟨v1, s1, rfl, h1, hs1⟩ := ab_s_cons hs0
    obtain ⟨v2, s2, rfl, h2, hs2⟩ := ab_s_cons hs1
    obtain ⟨x1, rfl⟩ := hx
    obtain ⟨i1, rfl⟩ := h1
    obtain rfl := h2
    split at hq
    · next kd len c hg =>
      cases hb : (ks.any (fun z => Nat.beq kd z) && (Nat.ble (a + 1) hn && ab_ix E i len)) with
      | false => rw [hb] at hq; cases hq
      | true =>
        rw [hb] at hq
        obtain ⟨b1, b2, b3⟩ := ab_and3 hb
        obtain ⟨vs, g1, g2, g3⟩ := ab_cell hh hg b2
        obtain ⟨k1, k2, k3, k4⟩ := ab_ix_ok ho b3
        have hil : sm_is ks pc (.int (Int32.ofInt (ρ.getD x.1 0 + x.2)) :: .int (Int32.ofInt (ρ.getD i.1 0 + i.2)) :: .ref a :: s2) h = some (pc + 1, s2, h.set a (kd, vs.set (ρ.getD i.1 0 + i.2).toNat (.int (sm_nar kd (Int32.ofInt (ρ.getD x.1 0 + x.2)))))) := by
          unfold sm_is
          dsimp only
          rw [g1]
          dsimp only
          rw [if_pos ⟨ab_any b1, by rw [g2]; exact k3⟩, k4]
        dsimp only [cond_true] at hq
        split at hq
        · next ft =>
          split at hq
          · next h0 =>
            cases hst : ab_st E kd x with
            | false => rw [hst] at hq; cases hq
            | true =>
              rw [hst] at hq
              dsimp only [cond_true] at hq
              split at hq
              · next b0 hb0 =>
                cases hq
                rw [ab_st_ok ho hst] at hil
                have e5 : (ρ.getD i.1 0 + i.2).toNat = i.2.toNat := by rw [h0, ho.2.1, Int.zero_add]
                rw [e5] at hil
                exact ⟨_, _, hil, ab_Gh_same ho hn0 hs2 (ab_hset hh hg ⟨rfl, by rw [List.length_set]; exact g2, ab_in_set g3 g2 hb0 ⟨x1, rfl⟩⟩)⟩
              · cases hq
          · cases hq
        · next z =>
          cases hq
          obtain ⟨y, e1, e2, e3⟩ := ab_sc_ok (kd := kd) (p := x) ho
          rw [e1] at hil
          exact ⟨_, _, hil, ab_Gh_same ho hn0 hs2 (ab_hset hh hg ⟨rfl, by rw [List.length_set]; exact g2, ab_in_hull g3 g2 e2 e3⟩)⟩
    · cases hq
  · cases hq
theorem ab_ja_ok (ho : ab_ok ρ E) (hn0 : n = ρ.length) (hs : ab_sR ρ sa st) (hh : ab_hR ρ t hn h) (hq : ab_ja pc E n t hn sa = some (E', n', pc', sa', w)) : ∃ st' h', sm_jl pc st h = some (pc', st', h') ∧ ab_Gh ρ E' n' sa' (ab_aw t w) hn st' h' := by
  unfold ab_ja at hq
  split at hq
  · next i a r =>
    obtain ⟨v1, s1, rfl, h1, hs1⟩ := ab_s_cons hs
    obtain ⟨v2, s2, rfl, h2, hs2⟩ := ab_s_cons hs1
    obtain ⟨i1, rfl⟩ := h1
    obtain rfl := h2
    split at hq
    · next kd len ft hg =>
      cases hb : (Nat.beq kd 103 && (Nat.ble (a + 1) hn && (Nat.beq i.1 0 && ab_ix E i len))) with
      | false => rw [hb] at hq; cases hq
      | true =>
        rw [hb] at hq
        obtain ⟨b1, b2, b3, b4⟩ := ab_and4 hb
        have ek := Nat.eq_of_beq_eq_true b1
        have h0 := Nat.eq_of_beq_eq_true b3
        subst ek
        obtain ⟨vs, g1, g2, g3⟩ := ab_cell hh hg b2
        obtain ⟨k1, k2, k3, k4⟩ := ab_ix_ok ho b4
        have hil : sm_jl pc (.int (Int32.ofInt (ρ.getD i.1 0 + i.2)) :: .ref a :: s2) h = some (pc + 1, .long (sm_lval (vs.getD (ρ.getD i.1 0 + i.2).toNat .null)) :: s2, h) := by
          unfold sm_jl
          dsimp only
          rw [g1]
          dsimp only
          rw [if_pos ⟨rfl, by rw [g2]; exact k3⟩, k4]
        dsimp only [cond_true] at hq
        split at hq
        · next q hqq =>
          cases hq
          obtain ⟨b, e1, e2⟩ := g3 (ρ.getD i.1 0 + i.2).toNat (ab_toNat k1 k2)
          rw [h0, ho.2.1, Int.zero_add] at e1 e2 hil
          rw [hqq] at e1
          cases e1
          obtain ⟨e3, e4⟩ := e2
          rw [h0, ho.2.1, Int.zero_add]
          refine ⟨_, _, hil, ab_Gh_same ho hn0 ⟨⟨e3, ?_⟩, hs2⟩ hh⟩
          rw [e4]
          rfl
        · cases hq
    · cases hq
  · cases hq
theorem ab_js_ok (ho : ab_ok ρ E) (hn0 : n = ρ.length) (hs : ab_sR ρ sa st) (hh : ab_hR ρ t hn h) (hq : ab_js pc E n t hn sa = some (E', n', pc', sa', w)) : ∃ st' h', sm_js pc st h = some (pc', st', h') ∧ ab_Gh ρ E' n' sa' (ab_aw t w) hn st' h' := by
  unfold ab_js at hq
  split at hq
  · next x i a r =>
    obtain ⟨v0, s0, rfl, hx, hs0⟩ := ab_s_cons hs
    obtain ⟨v1, s1, rfl, h1, hs1⟩ := ab_s_cons hs0
    obtain ⟨v2, s2, rfl, h2, hs2⟩ := ab_s_cons hs1
    obtain ⟨x1, rfl⟩ := hx
    obtain ⟨i1, rfl⟩ := h1
    obtain rfl := h2
    split at hq
    · next kd len ft hg =>
      cases hb : (Nat.beq kd 103 && (Nat.ble (a + 1) hn && (Nat.beq i.1 0 && ab_ix E i len))) with
      | false => rw [hb] at hq; cases hq
      | true =>
        rw [hb] at hq
        obtain ⟨b1, b2, b3, b4⟩ := ab_and4 hb
        have ek := Nat.eq_of_beq_eq_true b1
        have h0 := Nat.eq_of_beq_eq_true b3
        subst ek
        obtain ⟨vs, g1, g2, g3⟩ := ab_cell hh hg b2
        obtain ⟨k1, k2, k3, k4⟩ := ab_ix_ok ho b4
        have e5 : (ρ.getD i.1 0 + i.2).toNat = i.2.toNat := by rw [h0, ho.2.1, Int.zero_add]
        have hil : sm_js pc (.long (Int64.ofInt (ρ.getD x.1 0 + x.2)) :: .int (Int32.ofInt (ρ.getD i.1 0 + i.2)) :: .ref a :: s2) h = some (pc + 1, s2, h.set a (103, vs.set i.2.toNat (.long (Int64.ofInt (ρ.getD x.1 0 + x.2))))) := by
          unfold sm_js
          dsimp only
          rw [g1]
          dsimp only
          rw [if_pos ⟨rfl, by rw [g2]; exact k3⟩, k4, e5]
        dsimp only [cond_true] at hq
        split at hq
        · next b0 hb0 =>
          cases hq
          exact ⟨_, _, hil, ab_Gh_same ho hn0 hs2 (ab_hset hh hg ⟨rfl, by rw [List.length_set]; exact g2, ab_in_set g3 g2 hb0 ⟨x1, rfl⟩⟩)⟩
        · cases hq
    · cases hq
  · cases hq
theorem ab_aa_ok (ho : ab_ok ρ E) (hn0 : n = ρ.length) (hs : ab_sR ρ sa st) (hh : ab_hR ρ t hn h) (hq : ab_aa pc E n t hn sa = some (E', n', pc', sa', w)) : ∃ st' h', sm_al pc st h = some (pc', st', h') ∧ ab_Gh ρ E' n' sa' (ab_aw t w) hn st' h' := by
  unfold ab_aa at hq
  split at hq
  · next i a r =>
    obtain ⟨v1, s1, rfl, h1, hs1⟩ := ab_s_cons hs
    obtain ⟨v2, s2, rfl, h2, hs2⟩ := ab_s_cons hs1
    obtain ⟨i1, rfl⟩ := h1
    obtain rfl := h2
    split at hq
    · next kd len ft hg =>
      cases hb : (Nat.beq kd 104 && (Nat.ble (a + 1) hn && (Nat.beq i.1 0 && ab_ix E i len))) with
      | false => rw [hb] at hq; cases hq
      | true =>
        rw [hb] at hq
        obtain ⟨b1, b2, b3, b4⟩ := ab_and4 hb
        have ek := Nat.eq_of_beq_eq_true b1
        have h0 := Nat.eq_of_beq_eq_true b3
        subst ek
        obtain ⟨vs, g1, g2, g3⟩ := ab_cell hh hg b2
        obtain ⟨k1, k2, k3, k4⟩ := ab_ix_ok ho b4
        have e5 : (ρ.getD i.1 0 + i.2).toNat = i.2.toNat := by rw [h0, ho.2.1, Int.zero_add]
        dsimp only [cond_true] at hq
        split at hq
        · next q hqq =>
          cases hq
          obtain ⟨b, e1, e2⟩ := g3 (ρ.getD i.1 0 + i.2).toNat (ab_toNat k1 k2)
          rw [e5] at e1 e2 k4
          rw [hqq] at e1
          cases e1
          have e2 : vs.getD i.2.toNat .null = .ref q := e2
          refine ⟨.ref q :: s2, h, ?_, ab_Gh_same ho hn0 ⟨rfl, hs2⟩ hh⟩
          unfold sm_al
          dsimp only
          rw [g1]
          dsimp only
          rw [if_pos ⟨rfl, by rw [g2]; exact k3⟩, k4, e2]
        · cases hq
    · cases hq
  · cases hq
theorem ab_al_ok (ho : ab_ok ρ E) (hn0 : n = ρ.length) (hR : ab_roR ρ R (ro 1)) (hs : ab_sR ρ sa st) (hh : ab_hR ρ t hn h) (hq : ab_al R pc E n t hn sa = some (E', n', pc', sa', w)) : ∃ st' h', sm_ln ro pc st h = some (pc', st', h') ∧ ab_Gh ρ E' n' sa' (ab_aw t w) hn st' h' := by
  unfold ab_al at hq
  split at hq
  · next a r =>
    obtain ⟨v1, s1, rfl, h1, hs1⟩ := ab_s_cons hs
    obtain rfl := h1
    split at hq
    · next kd len c hg =>
      cases hb : (Nat.ble 100 kd && (Nat.ble kd 104 && (Nat.ble (a + 1) hn && Nat.ble len 2147483647))) with
      | false => rw [hb] at hq; cases hq
      | true =>
        rw [hb] at hq
        cases hq
        obtain ⟨b1, b2, b3, b4⟩ := ab_and4 hb
        obtain ⟨vs, g1, g2, g3⟩ := ab_cell hh hg b3
        refine ⟨.int (Int32.ofNat vs.length) :: s1, h, ?_, ab_Gh_same ho hn0 ⟨⟨ho.1, ?_⟩, hs1⟩ hh⟩
        · unfold sm_ln
          dsimp only
          rw [g1]
          dsimp only
          rw [if_pos ⟨Nat.ble_eq.mp b1, Nat.ble_eq.mp b2⟩]
        · rw [ho.2.1, g2]
          show Value.int (Int32.ofNat len) = Value.int (Int32.ofInt (0 + (len : Int)))
          rw [Int.zero_add]
          rfl
    · cases hq
  · next j r =>
    obtain ⟨v1, s1, rfl, h1, hs1⟩ := ab_s_cons hs
    obtain rfl := h1
    cases hb : Nat.beq j 1 with
    | false => rw [hb] at hq; cases hq
    | true =>
      rw [hb] at hq
      cases hq
      have ej := Nat.eq_of_beq_eq_true hb
      subst ej
      refine ⟨.int (Int32.ofNat (ro 1).length) :: s1, h, ?_, ab_Gh_same ho hn0 ⟨⟨hR.1, ?_⟩, hs1⟩ hh⟩
      · unfold sm_ln
        dsimp only
        rw [if_pos (Or.inr rfl)]
      · rw [← hR.2.1]
        rfl
  · cases hq
theorem ab_ko_ok {k : Nat} (ho : ab_ok ρ E) (hn0 : n = ρ.length) (hs : ab_sR ρ sa st) (hh : ab_hR ρ t hn h) (hq : ab_ko dt pc k E n sa = some (E', n', pc', sa', w)) : ∃ st' h', sm_ko dt pc k st h = some (pc', st', h') ∧ ab_Gh ρ E' n' sa' (ab_aw t w) hn st' h' := by
  unfold ab_ko at hq
  split at hq
  · next x =>
    cases hq
    refine ⟨.int (Int32.ofNat x) :: st, h, rfl, ab_Gh_same ho hn0 ⟨⟨ho.1, ?_⟩, hs⟩ hh⟩
    rw [ho.2.1]
    dsimp only
    rw [Int.zero_add]
    cases Nat.ble x 2147483647 with
    | true => rfl
    | false =>
      show Value.int (Int32.ofInt (x : Int)) = Value.int (Int32.ofInt ((x : Int) - 4294967296))
      rw [Int32.ofInt_sub, show Int32.ofInt 4294967296 = 0 by decide, Int32.sub_zero]
  · next x =>
    cases hq
    exact ⟨.retAddr x :: st, h, rfl, ab_Gh_same ho hn0 ⟨rfl, hs⟩ hh⟩
  · next x =>
    cases hq
    refine ⟨.long (Int64.ofNat x) :: st, h, rfl, ab_Gh_same ho hn0 ⟨⟨ho.1, ?_⟩, hs⟩ hh⟩
    rw [ho.2.1]
    dsimp only
    rw [Int.zero_add]
    cases Nat.ble x 9223372036854775807 with
    | true => rfl
    | false =>
      show Value.long (Int64.ofInt (x : Int)) = Value.long (Int64.ofInt ((x : Int) - 18446744073709551616))
      rw [Int64.ofInt_sub, show Int64.ofInt 18446744073709551616 = 0 by decide, Int64.sub_zero]
  · cases hq
theorem ab_hp_ok {i : Instr} (ho : ab_ok ρ E) (hn0 : n = ρ.length) (hR : ab_roR ρ R (ro 1)) (hs : ab_sR ρ sa st) (hh : ab_hR ρ t hn h) (hq : ab_hp R i dt pc E n t hn sa = some (E', n', pc', sa', w)) : ∃ st' h', sm_hp ro i dt pc st h = some (pc', st', h') ∧ ab_Gh ρ E' n' sa' (ab_aw t w) hn st' h' := by
  cases i
  case getfield => exact ab_gf_ok ho hn0 hs hh hq
  case putfield => exact ab_pf_ok ho hn0 hs hh hq
  case iaload => exact ab_ia_ok ho hn0 hR hs hh hq
  case baload => exact ab_ia_ok ho hn0 hR hs hh hq
  case laload => exact ab_ja_ok ho hn0 hs hh hq
  case aaload => exact ab_aa_ok ho hn0 hs hh hq
  case iastore => exact ab_is_ok ho hn0 hs hh hq
  case bastore => exact ab_is_ok ho hn0 hs hh hq
  case lastore => exact ab_js_ok ho hn0 hs hh hq
  case arraylength => exact ab_al_ok ho hn0 hR hs hh hq
  case ldc => exact ab_ko_ok ho hn0 hs hh hq
  case ldc2_w => exact ab_ko_ok ho hn0 hs hh hq
  all_goals (exact absurd hq (by intro q; cases q))
end ABJ
