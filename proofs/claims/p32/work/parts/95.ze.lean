section ZHQ
variable {α : Nat → Nat} {ρ : List Int} {η : zE} {T : zTm} {rt rt' ra : zRt} {h : List sm_C} {sa sa' : List ab_V} {st : List Value} {n n' pc pc' : Nat} {as ks : List zK} {ro : Nat → List Int32} {dt : List Nat}
/-- a number written into a cell -/
theorem zGh_st (hn : n = ρ.length) (hh : zHp T α ra η h) (hi : zInj T α) {r j : Nat} {c : zCl} {q : sm_C} {i x : Nat × Int} {t : Nat} {s : List ab_V} {s2 : List Value} (hr : ab_get T r = some c) (hq : h[α r]? = some q) (hj : j < c.2.1) (ht : zty c j = t) (h3 : t ≠ 3) (h9 : t ≠ 9) (hix : (zn ρ i).toNat = j) (hz : zok t (zn ρ x)) (hs : zS α ρ s s2) : zGh ro T α ra ρ η h rt [(5, t, [(r, 0), i, x])] n s rt s2 (h.set (α r) (c.1, q.2.set j (zval t (zn ρ x)))) := by
  refine ⟨[], zup η r j (zn ρ x), [], by rw [List.append_nil]; exact hn, by rw [List.append_nil]; exact hs, rfl, ?_, zFr_set hr, fun C I M Q μ r2 q2 => ?_⟩
  · have h1 := zHp_st (z := zn ρ x) hh hi hr hq hj (by rw [ht]; exact h3) (by rw [ht]; exact h9) (by rw [ht]; exact hz)
    rw [ht] at h1
    exact h1
  · rw [List.append_nil]
    refine q2 _ ?_
    show _ = zup η r (zn ρ i).toNat (zn ρ x)
    rw [hix]
theorem z01 {z : Int} (h1 : 0 ≤ z) (h2 : z ≤ 1) : Int32.ofInt z = 0 ∨ Int32.ofInt z = 1 := by
  rcases (show z = 0 ∨ z = 1 by omega) with rfl | rfl
  · exact Or.inl rfl
  · exact Or.inr rfl
theorem zpf_ok (hn : n = ρ.length) (hs : zS α ρ sa st) (hh : zHp T α ra η h) (hi : zInj T α) (hq : zpf T rt dt pc sa n = some (as, ks, n', pc', sa', rt')) (ha : ∀ a ∈ as, zas ro a.2.1 ρ a.2.2) : ∃ st' h', sm_pf dt pc st h = some (pc', st', h') ∧ zGh ro T α ra ρ η h rt ks n' sa' rt' st' h' := by
  unfold zpf at hq
  split at hq
  · next ci k t v r s =>
    obtain ⟨v1, s1, rfl, h1, hs1⟩ := zS_cons hs
    obtain ⟨v2, s2, rfl, h2, hs2⟩ := zS_cons hs1
    have h2 : v2 = _ := h2
    subst h2
    split at hq
    · next c hc =>
      cases hb : (Nat.beq c.1 ci && (Nat.ble ci 99 && (Nat.ble (k + 1) c.2.1 && Nat.beq (zty c k) t))) with
      | false => rw [hb] at hq; cases hq
      | true =>
        rw [hb] at hq
        dsimp only [cond_true] at hq
        obtain ⟨b1, b2, b3, b4⟩ := ab_and4 hb
        have e1 := Nat.eq_of_beq_eq_true b1
        have e2 : ci < 100 := Nat.lt_succ_of_le (Nat.ble_eq.mp b2)
        have e3 : k < c.2.1 := Nat.ble_eq.mp b3
        have e4 := Nat.eq_of_beq_eq_true b4
        obtain ⟨q, g1, g2⟩ := hh r c hc
        have run : sm_fit t v1 = true → sm_pf [ci, k, t] pc (v1 :: .ref (α r) :: s2) h = some (pc + 3, s2, h.set (α r) (c.1, q.2.set k v1)) := fun hf => by
          unfold sm_pf
          dsimp only
          rw [g1]
          dsimp only
          rw [if_pos ⟨g2.1.trans e1, e2, by rw [g2.2.1]; exact e3, hf⟩, e1]
        split at hq
        · cases hq
          obtain ⟨f1, f2, rfl⟩ := h1
          exact ⟨_, _, run rfl, zGh_st hn hh hi hc g1 e3 e4 (by decide) (by decide) rfl f2 hs2⟩
        · next q0 =>
          cases hq
          have f0 : 0 ≤ zn ρ q0 ∧ zn ρ q0 ≤ 1 := ha (7, 2, [q0]) List.mem_cons_self
          obtain ⟨f1, f2, rfl⟩ := h1
          exact ⟨_, _, run (by rcases z01 f0.1 f0.2 with e | e <;> rw [e] <;> rfl), zGh_st hn hh hi hc g1 e3 e4 (by decide) (by decide) rfl f0 hs2⟩
        · cases hq
          obtain ⟨f1, f2, rfl⟩ := h1
          exact ⟨_, _, run rfl, zGh_st hn hh hi hc g1 e3 e4 (by decide) (by decide) rfl f2 hs2⟩
        · next q0 =>
          cases hq
          have h1 : v1 = _ := h1
          subst h1
          exact ⟨_, _, run rfl, [], η, [(r, k, q0)], by rw [List.append_nil]; exact hn, by rw [List.append_nil]; exact hs2, rfl, zHp_rf hh hi hc g1 e3 e4, zFr_set hc, fun C I M Q μ r2 q2 => by rw [List.append_nil]; exact q2⟩
        · cases hq
    · cases hq
  · cases hq
theorem zal_ok {b : Bool} (h0 : 0 < ρ.length) (hn : n = ρ.length) (hs : zS α ρ sa st) (hh : zHp T α ra η h) (hq : zal T rt b pc sa n = some (as, ks, n', pc', sa', rt')) (ha : ∀ a ∈ as, zas ro a.2.1 ρ a.2.2) : ∃ st' h', sm_il (bif b then [101, 102] else [100]) ro pc st h = some (pc', st', h') ∧ zGh ro T α ra ρ η h rt ks n' sa' rt' st' h' := by
  unfold zal at hq
  split at hq
  · next i r s =>
    obtain ⟨v1, s1, rfl, ⟨i1, i2, rfl⟩, hs1⟩ := zS_cons hs
    obtain ⟨v2, s2, rfl, h2, hs2⟩ := zS_cons hs1
    have h2 : v2 = _ := h2
    subst h2
    split at hq
    · next c hc =>
      cases hb : ((bif b then Nat.beq c.1 101 || Nat.beq c.1 102 else Nat.beq c.1 100) && Nat.ble c.2.1 2147483647) with
      | false => rw [hb] at hq; cases hq
      | true =>
        rw [hb] at hq
        cases hq
        have hb1 := ((Bool.and_eq_true _ _).mp hb).1
        have f0 : 0 ≤ zn ρ i ∧ zn ρ i < (c.2.1 : Int) := ha (7, 0, [i, (0, (c.2.1 : Int))]) List.mem_cons_self
        obtain ⟨x1, x2⟩ := zix i2 f0.1 f0.2
        obtain ⟨q, g1, g2⟩ := hh r c hc
        have hj : (zn ρ i).toNat < c.2.1 := by omega
        have hkd : (c.1 = 100 ∧ zty c (zn ρ i).toNat = 0 ∧ zty c 0 = 0 ∧ b = false) ∨ (c.1 = 101 ∧ zty c (zn ρ i).toNat = 4 ∧ zty c 0 = 4 ∧ b = true) ∨ (c.1 = 102 ∧ zty c (zn ρ i).toNat = 1 ∧ zty c 0 = 1 ∧ b = true) := by
          cases b with
          | false =>
            have := Nat.eq_of_beq_eq_true hb1
            refine Or.inl ⟨this, ?_, ?_, rfl⟩ <;> (unfold zty; rw [this]; rfl)
          | true =>
            rcases Bool.or_eq_true_iff.mp hb1 with w | w
            · have := Nat.eq_of_beq_eq_true w
              refine Or.inr (Or.inl ⟨this, ?_, ?_, rfl⟩) <;> (unfold zty; rw [this]; rfl)
            · have := Nat.eq_of_beq_eq_true w
              refine Or.inr (Or.inr ⟨this, ?_, ?_, rfl⟩) <;> (unfold zty; rw [this]; rfl)
        have run : ∀ z : Int, q.2[(zn ρ i).toNat]? = some (.int (Int32.ofInt z)) → c.1 ∈ (bif b then [101, 102] else [100]) → sm_il (bif b then [101, 102] else [100]) ro pc (.int (Int32.ofInt (zn ρ i)) :: .ref (α r) :: s2) h = some (pc + 1, .int (Int32.ofInt z) :: s2, h) := fun z hz hm => by
          unfold sm_il
          dsimp only
          rw [g1]
          dsimp only
          rw [if_pos ⟨by rw [g2.1]; exact hm, by rw [g2.2.1]; exact x1⟩, x2, List.getD_eq_getElem?_getD, hz]
          rfl
        rcases hkd with ⟨k1, k2, k3, rfl⟩ | ⟨k1, k2, k3, rfl⟩ | ⟨k1, k2, k3, rfl⟩
        · obtain ⟨a, e⟩ := zC_at g2 hj k2 (by decide) (by decide)
          rw [k3]
          exact ⟨_, _, run _ e (by rw [k1]; decide), zGh_ld h0 hn hh hc g1 g2 hj k2 (by decide) (by decide) rfl (by rw [hn]; exact zR_newZ h0 a) hs2⟩
        · obtain ⟨a, e⟩ := zC_at g2 hj k2 (by decide) (by decide)
          rw [k3]
          exact ⟨_, _, run _ e (by rw [k1]; decide), zGh_ld h0 hn hh hc g1 g2 hj k2 (by decide) (by decide) rfl (by rw [hn]; exact zR_newZ h0 (zok32 a (Or.inr (Or.inr rfl)))) hs2⟩
        · obtain ⟨a, e⟩ := zC_at g2 hj k2 (by decide) (by decide)
          rw [k3]
          exact ⟨_, _, run _ e (by rw [k1]; decide), zGh_ld h0 hn hh hc g1 g2 hj k2 (by decide) (by decide) rfl (by rw [hn]; exact zR_newZ h0 (zok32 a (Or.inr (Or.inl rfl)))) hs2⟩
    · cases hq
  · next i j s =>
    obtain ⟨v1, s1, rfl, ⟨i1, i2, rfl⟩, hs1⟩ := zS_cons hs
    obtain ⟨v2, s2, rfl, h2, hs2⟩ := zS_cons hs1
    have h2 : v2 = _ := h2
    subst h2
    cases b with
    | true => cases hq
    | false =>
      cases hq
      have f0 : 0 ≤ zn ρ i ∧ zn ρ i < ((ro j).length : Int) := ha (7, 4, [i, (j, 0)]) List.mem_cons_self
      obtain ⟨x1, x2⟩ := zix i2 f0.1 f0.2
      refine ⟨.int ((ro j).getD (zn ρ i).toNat 0) :: s2, h, ?_, [((ro j).getD (zn ρ i).toNat 0).toInt], η, [], by rw [List.length_append, hn]; rfl, zS_push (by rw [hn]; exact zR_newI h0 _) (zS_app hs2), rfl, hh, zFr_rf, fun C I M Q μ r2 q2 => q2 _ rfl⟩
      unfold sm_il
      dsimp only [cond_false]
      rw [if_pos ⟨by decide, x1⟩, x2]
  · cases hq
theorem zjl_ok (h0 : 0 < ρ.length) (hn : n = ρ.length) (hs : zS α ρ sa st) (hh : zHp T α ra η h) (hq : zjl T rt pc sa n = some (as, ks, n', pc', sa', rt')) (ha : ∀ a ∈ as, zas ro a.2.1 ρ a.2.2) : ∃ st' h', sm_jl pc st h = some (pc', st', h') ∧ zGh ro T α ra ρ η h rt ks n' sa' rt' st' h' := by
  unfold zjl at hq
  split at hq
  · next i r s =>
    obtain ⟨v1, s1, rfl, ⟨i1, i2, rfl⟩, hs1⟩ := zS_cons hs
    obtain ⟨v2, s2, rfl, h2, hs2⟩ := zS_cons hs1
    have h2 : v2 = _ := h2
    subst h2
    split at hq
    · next c hc =>
      cases hb : (Nat.beq c.1 103 && Nat.ble c.2.1 2147483647) with
      | false => rw [hb] at hq; cases hq
      | true =>
        rw [hb] at hq
        cases hq
        have k1 := Nat.eq_of_beq_eq_true ((Bool.and_eq_true _ _).mp hb).1
        have f0 : 0 ≤ zn ρ i ∧ zn ρ i < (c.2.1 : Int) := ha (7, 0, [i, (0, (c.2.1 : Int))]) List.mem_cons_self
        obtain ⟨x1, x2⟩ := zix i2 f0.1 f0.2
        obtain ⟨q, g1, g2⟩ := hh r c hc
        have hj : (zn ρ i).toNat < c.2.1 := by omega
        have k2 : zty c (zn ρ i).toNat = 2 := by unfold zty; rw [k1]; rfl
        obtain ⟨a, e⟩ := zC_at g2 hj k2 (by decide) (by decide)
        refine ⟨_, _, ?_, zGh_ld h0 hn hh hc g1 g2 hj k2 (by decide) (by decide) rfl (by rw [hn]; exact zR_newW h0 a) hs2⟩
        unfold sm_jl
        dsimp only
        rw [g1]
        dsimp only
        rw [if_pos ⟨g2.1.trans k1, by rw [g2.2.1]; exact x1⟩, x2, List.getD_eq_getElem?_getD, e]
        rfl
    · cases hq
  · cases hq
theorem zjs_ok (hn : n = ρ.length) (hs : zS α ρ sa st) (hh : zHp T α ra η h) (hi : zInj T α) (hq : zjs T rt pc sa n = some (as, ks, n', pc', sa', rt')) (ha : ∀ a ∈ as, zas ro a.2.1 ρ a.2.2) : ∃ st' h', sm_js pc st h = some (pc', st', h') ∧ zGh ro T α ra ρ η h rt ks n' sa' rt' st' h' := by
  unfold zjs at hq
  split at hq
  · next x i r s =>
    obtain ⟨v1, s1, rfl, ⟨j1, j2, rfl⟩, hs1⟩ := zS_cons hs
    obtain ⟨v2, s2, rfl, ⟨i1, i2, rfl⟩, hs2⟩ := zS_cons hs1
    obtain ⟨v3, s3, rfl, h3, hs3⟩ := zS_cons hs2
    have h3 : v3 = _ := h3
    subst h3
    split at hq
    · next c hc =>
      cases hb : (Nat.beq c.1 103 && Nat.ble c.2.1 2147483647) with
      | false => rw [hb] at hq; cases hq
      | true =>
        rw [hb] at hq
        cases hq
        have k1 := Nat.eq_of_beq_eq_true ((Bool.and_eq_true _ _).mp hb).1
        have f0 : 0 ≤ zn ρ i ∧ zn ρ i < (c.2.1 : Int) := ha (7, 0, [i, (0, (c.2.1 : Int))]) List.mem_cons_self
        obtain ⟨x1, x2⟩ := zix i2 f0.1 f0.2
        obtain ⟨q, g1, g2⟩ := hh r c hc
        have hj : (zn ρ i).toNat < c.2.1 := by omega
        have k2 : zty c (zn ρ i).toNat = 2 := by unfold zty; rw [k1]; rfl
        refine ⟨_, _, ?_, zGh_st hn hh hi hc g1 hj k2 (by decide) (by decide) rfl j2 hs3⟩
        unfold sm_js
        dsimp only
        rw [g1]
        dsimp only
        rw [if_pos ⟨g2.1.trans k1, by rw [g2.2.1]; exact x1⟩, x2, k1]
        rfl
    · cases hq
  · cases hq
theorem zis_ok {b : Bool} (h0 : 0 < ρ.length) (hn : n = ρ.length) (hs : zS α ρ sa st) (hh : zHp T α ra η h) (hi : zInj T α) (hq : zis T rt b pc sa n = some (as, ks, n', pc', sa', rt')) (ha : ∀ a ∈ as, zas ro a.2.1 ρ a.2.2) : ∃ st' h', sm_is (bif b then [101, 102] else [100]) pc st h = some (pc', st', h') ∧ zGh ro T α ra ρ η h rt ks n' sa' rt' st' h' := by
  unfold zis at hq
  split at hq
  · next x i r s =>
    obtain ⟨v1, s1, rfl, ⟨j1, j2, rfl⟩, hs1⟩ := zS_cons hs
    obtain ⟨v2, s2, rfl, ⟨i1, i2, rfl⟩, hs2⟩ := zS_cons hs1
    obtain ⟨v3, s3, rfl, h3, hs3⟩ := zS_cons hs2
    have h3 : v3 = _ := h3
    subst h3
    split at hq
    · next c hc =>
      cases hb0 : Nat.ble c.2.1 2147483647 with
      | false => rw [hb0] at hq; cases hq
      | true =>
        rw [hb0] at hq
        dsimp only [cond_true] at hq
        obtain ⟨q, g1, g2⟩ := hh r c hc
        have run : ∀ hx : 0 ≤ zn ρ i ∧ zn ρ i < (c.2.1 : Int), c.1 ∈ (bif b then [101, 102] else [100]) → sm_is (bif b then [101, 102] else [100]) pc (.int (Int32.ofInt (zn ρ x)) :: .int (Int32.ofInt (zn ρ i)) :: .ref (α r) :: s3) h = some (pc + 1, s3, h.set (α r) (c.1, q.2.set (zn ρ i).toNat (.int (sm_nar c.1 (Int32.ofInt (zn ρ x)))))) := fun hx hm => by
          obtain ⟨x1, x2⟩ := zix i2 hx.1 hx.2
          unfold sm_is
          dsimp only
          rw [g1]
          dsimp only
          rw [if_pos ⟨by rw [g2.1]; exact hm, by rw [g2.2.1]; exact x1⟩, x2, g2.1]
        cases b with
        | false =>
          dsimp only [cond_false] at hq
          cases hb : Nat.beq c.1 100 with
          | false => rw [hb] at hq; cases hq
          | true =>
            rw [hb] at hq
            cases hq
            have k1 := Nat.eq_of_beq_eq_true hb
            have f0 : 0 ≤ zn ρ i ∧ zn ρ i < (c.2.1 : Int) := ha (7, 0, [i, (0, (c.2.1 : Int))]) List.mem_cons_self
            have hj : (zn ρ i).toNat < c.2.1 := by omega
            have k2 : zty c (zn ρ i).toNat = 0 := by unfold zty; rw [k1]; rfl
            have k5 : sm_nar c.1 (Int32.ofInt (zn ρ x)) = Int32.ofInt (zn ρ x) := by rw [k1]; rfl
            have r1 := run f0 (by rw [k1]; decide)
            rw [k5] at r1
            exact ⟨_, _, r1, zGh_st hn hh hi hc g1 hj k2 (by decide) (by decide) rfl j2 hs3⟩
        | true =>
          dsimp only [cond_true] at hq
          cases hb : Nat.beq c.1 101 with
          | true =>
            rw [hb] at hq
            cases hq
            have k1 := Nat.eq_of_beq_eq_true hb
            have f0 : 0 ≤ zn ρ i ∧ zn ρ i < (c.2.1 : Int) := ha (7, 0, [i, (0, (c.2.1 : Int))]) List.mem_cons_self
            have hj : (zn ρ i).toNat < c.2.1 := by omega
            have k2 : zty c (zn ρ i).toNat = 4 := by unfold zty; rw [k1]; rfl
            have k5 : sm_nar c.1 (Int32.ofInt (zn ρ x)) = (Int32.ofInt (zn ρ x)).toInt8.toInt32 := by rw [k1]; rfl
            have r1 := run f0 (by rw [k1]; decide)
            rw [k5] at r1
            have hzz : zok 4 ((Int32.ofInt (zn ρ x)).toInt8.toInt32.toInt) := by
              show -128 ≤ _ ∧ _ ≤ 127
              rw [Int8.toInt_toInt32]
              have h1 := Int8.le_toInt (Int32.ofInt (zn ρ x)).toInt8
              have h2 := Int8.toInt_le (Int32.ofInt (zn ρ x)).toInt8
              rw [show Int8.maxValue.toInt = 127 by decide] at h2
              exact ⟨by simpa using h1, h2⟩
            refine ⟨_, _, r1, [(Int32.ofInt (zn ρ x)).toInt8.toInt32.toInt], zup η r (zn ρ i).toNat ((Int32.ofInt (zn ρ x)).toInt8.toInt32.toInt), [], by rw [List.length_append, hn]; rfl, zS_app hs3, rfl, ?_, zFr_set hc, fun C I M Q μ r2 q2 => ?_⟩
            · have h1 := zHp_st (z := (Int32.ofInt (zn ρ x)).toInt8.toInt32.toInt) hh hi hc g1 hj (by rw [k2]; decide) (by rw [k2]; decide) (by rw [k2]; exact hzz)
              rw [k2] at h1
              have h2 : zval 4 ((Int32.ofInt (zn ρ x)).toInt8.toInt32.toInt) = .int (Int32.ofInt (zn ρ x)).toInt8.toInt32 := by
                show Value.int (Int32.ofInt _) = _
                rw [Int32.ofInt_toInt]
              rw [h2] at h1
              exact h1
            · refine q2 _ rfl _ ?_
              show _ = zup η r (zn (ρ ++ [_]) i).toNat (zn (ρ ++ [_]) (n, 0))
              rw [zn_app i1, hn, zn_new h0]
              rfl
          | false =>
            rw [hb] at hq
            dsimp only [cond_false] at hq
            cases hb2 : Nat.beq c.1 102 with
            | false => rw [hb2] at hq; cases hq
            | true =>
              rw [hb2] at hq
              cases hq
              have k1 := Nat.eq_of_beq_eq_true hb2
              have f0 : 0 ≤ zn ρ i ∧ zn ρ i < (c.2.1 : Int) := ha (7, 0, [i, (0, (c.2.1 : Int))]) List.mem_cons_self
              have f1 : 0 ≤ zn ρ x ∧ zn ρ x ≤ 1 := ha (7, 2, [x]) (List.mem_cons_of_mem _ List.mem_cons_self)
              have hj : (zn ρ i).toNat < c.2.1 := by omega
              have k2 : zty c (zn ρ i).toNat = 1 := by unfold zty; rw [k1]; rfl
              have k5 : sm_nar c.1 (Int32.ofInt (zn ρ x)) = Int32.ofInt (zn ρ x) := by
                rw [k1]
                rcases z01 f1.1 f1.2 with e | e <;> rw [e] <;> decide
              have r1 := run f0 (by rw [k1]; decide)
              rw [k5] at r1
              exact ⟨_, _, r1, zGh_st hn hh hi hc g1 hj k2 (by decide) (by decide) rfl f1 hs3⟩
    · cases hq
  · cases hq
theorem zln_ok (h0 : 0 < ρ.length) (hn : n = ρ.length) (hs : zS α ρ sa st) (hh : zHp T α ra η h) (hq : zln T rt pc sa n = some (as, ks, n', pc', sa', rt')) : ∃ st' h', sm_ln ro pc st h = some (pc', st', h') ∧ zGh ro T α ra ρ η h rt ks n' sa' rt' st' h' := by
  unfold zln at hq
  split at hq
  · next r s =>
    obtain ⟨v2, s2, rfl, h2, hs2⟩ := zS_cons hs
    have h2 : v2 = _ := h2
    subst h2
    split at hq
    · next c hc =>
      cases hb : (Nat.ble 100 c.1 && (Nat.ble c.1 104 && Nat.ble c.2.1 2147483647)) with
      | false => rw [hb] at hq; cases hq
      | true =>
        rw [hb] at hq
        cases hq
        obtain ⟨b1, b2, b3⟩ := ab_and3 hb
        have e1 := Nat.ble_eq.mp b1
        have e2 := Nat.ble_eq.mp b2
        have e3 := Nat.ble_eq.mp b3
        obtain ⟨q, g1, g2⟩ := hh r c hc
        refine ⟨_, _, ?_, zGh0 hn (zS_push (v := .int (Int32.ofNat c.2.1)) ⟨h0, ⟨by show (-2147483648 : Int) ≤ (c.2.1 : Int); omega, by show (c.2.1 : Int) ≤ 2147483647; omega⟩, rfl⟩ hs2) hh⟩
        unfold sm_ln
        dsimp only
        rw [g1]
        dsimp only
        rw [if_pos ⟨by rw [g2.1]; exact e1, by rw [g2.1]; exact e2⟩, g2.2.1]
    · cases hq
  · cases hq
theorem zko_ok (h0 : 0 < ρ.length) (hn : n = ρ.length) (hs : zS α ρ sa st) (hh : zHp T α ra η h) {k : Nat} (hq : zko dt pc k sa n rt = some (as, ks, n', pc', sa', rt')) : ∃ st' h', sm_ko dt pc k st h = some (pc', st', h') ∧ zGh ro T α ra ρ η h rt ks n' sa' rt' st' h' := by
  unfold zko at hq
  split at hq
  · next x =>
    cases hq
    exact ⟨_, _, rfl, zGh0 hn (zS_push (v := .retAddr x) rfl hs) hh⟩
  · next x =>
    cases hb : Nat.ble x 4294967295 with
    | false => rw [hb] at hq; cases hq
    | true =>
      rw [hb] at hq
      cases hq
      have e0 := Nat.ble_eq.mp hb
      refine ⟨_, _, rfl, zGh0 hn (zS_push (v := .int (Int32.ofNat x)) ⟨h0, ?_, ?_⟩ hs) hh⟩
      · show z32 (bif Nat.ble x 2147483647 then (x : Int) else (x : Int) - 4294967296)
        unfold z32
        cases hc : Nat.ble x 2147483647 with
        | true => have := Nat.ble_eq.mp hc; exact ⟨by show (-2147483648 : Int) ≤ (x : Int); omega, by show (x : Int) ≤ 2147483647; omega⟩
        | false =>
          have : ¬ x ≤ 2147483647 := fun w => by rw [Nat.ble_eq.mpr w] at hc; cases hc
          exact ⟨by show (-2147483648 : Int) ≤ (x : Int) - 4294967296; omega, by show (x : Int) - 4294967296 ≤ 2147483647; omega⟩
      · show Value.int (Int32.ofNat x) = .int (Int32.ofInt (bif Nat.ble x 2147483647 then (x : Int) else (x : Int) - 4294967296))
        congr 1
        cases Nat.ble x 2147483647 with
        | true => rfl
        | false =>
          show Int32.ofInt (x : Int) = Int32.ofInt ((x : Int) - 4294967296)
          rw [Int32.ofInt_sub, show Int32.ofInt 4294967296 = 0 from by decide, Int32.sub_zero]
  · next x =>
    cases hb : Nat.ble x 18446744073709551615 with
    | false => rw [hb] at hq; cases hq
    | true =>
      rw [hb] at hq
      cases hq
      have e0 := Nat.ble_eq.mp hb
      refine ⟨_, _, rfl, zGh0 hn (zS_push (v := .long (Int64.ofNat x)) ⟨h0, ?_, ?_⟩ hs) hh⟩
      · show z64 (bif Nat.ble x 9223372036854775807 then (x : Int) else (x : Int) - 18446744073709551616)
        unfold z64
        cases hc : Nat.ble x 9223372036854775807 with
        | true => have := Nat.ble_eq.mp hc; exact ⟨by show (-9223372036854775808 : Int) ≤ (x : Int); omega, by show (x : Int) ≤ 9223372036854775807; omega⟩
        | false =>
          have : ¬ x ≤ 9223372036854775807 := fun w => by rw [Nat.ble_eq.mpr w] at hc; cases hc
          exact ⟨by show (-9223372036854775808 : Int) ≤ (x : Int) - 18446744073709551616; omega, by show (x : Int) - 18446744073709551616 ≤ 9223372036854775807; omega⟩
      · show Value.long (Int64.ofNat x) = .long (Int64.ofInt (bif Nat.ble x 9223372036854775807 then (x : Int) else (x : Int) - 18446744073709551616))
        congr 1
        cases Nat.ble x 9223372036854775807 with
        | true => rfl
        | false =>
          show Int64.ofInt (x : Int) = Int64.ofInt ((x : Int) - 18446744073709551616)
          rw [Int64.ofInt_sub, show Int64.ofInt 18446744073709551616 = 0 from by decide, Int64.sub_zero]
  · cases hq
theorem zhp_ok (h0 : 0 < ρ.length) (hn : n = ρ.length) (hs : zS α ρ sa st) (hh : zHp T α ra η h) (hsub : ∀ r j t, zrt rt r j = some t → zrt ra r j = some t) (hi : zInj T α) {i : Instr} (hq : zhp T rt i dt pc sa n = some (as, ks, n', pc', sa', rt')) (ha : ∀ a ∈ as, zas ro a.2.1 ρ a.2.2) : ∃ st' h', sm_hp ro i dt pc st h = some (pc', st', h') ∧ zGh ro T α ra ρ η h rt ks n' sa' rt' st' h' := by
  cases i
  case getfield idx => exact zgf_ok h0 hn hs hh hsub hq
  case putfield idx => exact zpf_ok hn hs hh hi hq ha
  case iaload => exact zal_ok h0 hn hs hh hq ha
  case baload => exact zal_ok h0 hn hs hh hq ha
  case laload => exact zjl_ok h0 hn hs hh hq ha
  case iastore => exact zis_ok h0 hn hs hh hi hq ha
  case bastore => exact zis_ok h0 hn hs hh hi hq ha
  case lastore => exact zjs_ok hn hs hh hi hq ha
  case arraylength => exact zln_ok h0 hn hs hh hq
  case ldc idx => exact zko_ok h0 hn hs hh hq
  case ldc2_w idx => exact zko_ok h0 hn hs hh hq
  case ldc_w idx => exact zko_ok h0 hn hs hh hq
  case getstatic idx => exact zko_ok h0 hn hs hh hq
  all_goals cases hq
end ZHQ
