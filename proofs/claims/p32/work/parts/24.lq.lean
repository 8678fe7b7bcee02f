section ABL
variable {ρ : List Int} {E E' : ab_E} {n n' pc pc' ml : Nat} {la la' : ab_L} {sa sa' : List ab_V} {lv : sm_L} {st : List Value}
/-- what an abstract step must give -/
def ab_G (ρ : List Int) (E' : ab_E) (n' : Nat) (la' : ab_L) (sa' : List ab_V) (lv' : sm_L) (st' : List Value) : Prop := ∃ x : List Int, ab_ok (ρ ++ x) E' ∧ n' = (ρ ++ x).length ∧ ab_lR (ρ ++ x) la' lv' ∧ ab_sR (ρ ++ x) sa' st'
theorem ab_G_same (h : ab_ok ρ E) (hn : n = ρ.length) {lv' : sm_L} {st' : List Value} (hl : ab_lR ρ la' lv') (hs : ab_sR ρ sa' st') : ab_G ρ E n la' sa' lv' st' := ⟨[], by rw [List.append_nil]; exact ⟨h, hn, hl, hs⟩⟩
theorem ab_G_pu {z : Int32} {r : ab_Q} (hz : ab_sp ρ z r) (hl : ab_lR ρ la lv) (hs : ab_sR ρ sa st) : ab_G ρ r.1 r.2.1 la (.inl r.2.2 :: sa) lv (.int z :: st) := by
  obtain ⟨x, h1, h2, h3, h4⟩ := hz
  exact ⟨x, h1, h2, ab_lR_app hl, ⟨h3, by rw [h4]⟩, ab_sR_app hs⟩
theorem ab_G_pul {z : Int64} {r : ab_Q} (hz : ab_spl ρ z r) (hl : ab_lR ρ la lv) (hs : ab_sR ρ sa st) : ab_G ρ r.1 r.2.1 la (.inr (.inl r.2.2) :: sa) lv (.long z :: st) := by
  obtain ⟨x, h1, h2, h3, h4⟩ := hz
  exact ⟨x, h1, h2, ab_lR_app hl, ⟨h3, by rw [h4]⟩, ab_sR_app hs⟩
theorem ab_s_cons {a : ab_V} {r : List ab_V} (hs : ab_sR ρ (a :: r) st) : ∃ v st2, st = v :: st2 ∧ ab_R ρ a v ∧ ab_sR ρ r st2 := by
  cases st with
  | nil => exact hs.elim
  | cons v st2 => exact ⟨v, st2, rfl, hs.1, hs.2⟩
theorem ab_ii_ok {f : Int32 → Int32 → Int32} {g : ab_E → Nat → Nat × Int → Nat × Int → ab_Q} (hg : ∀ p q : Nat × Int, p.1 < ρ.length → q.1 < ρ.length → ab_sp ρ (f (Int32.ofInt (ρ.getD p.1 0 + p.2)) (Int32.ofInt (ρ.getD q.1 0 + q.2))) (g E n p q)) (hl : ab_lR ρ la lv) (hs : ab_sR ρ sa st) (h : ab_ii g E n pc la sa = some (E', n', pc', la', sa')) : ∃ lv' st', sm_ii f pc lv st = some (pc', lv', st') ∧ ab_G ρ E' n' la' sa' lv' st' := by
  unfold ab_ii at h
  split at h
  · next q p r =>
    obtain ⟨v, s1, rfl, h1, hss1⟩ := ab_s_cons hs
    obtain ⟨w, s2, rfl, h2, hss2⟩ := ab_s_cons hss1
    obtain ⟨g1, rfl⟩ := h1
    obtain ⟨g2, rfl⟩ := h2
    cases h
    exact ⟨_, _, rfl, ab_G_pu (hg p q g2 g1) hl hss2⟩
  · cases h
theorem ab_ll_ok {f : Int64 → Int64 → Int64} {g : ab_E → Nat → Nat × Int → Nat × Int → ab_Q} (hg : ∀ p q : Nat × Int, p.1 < ρ.length → q.1 < ρ.length → ab_spl ρ (f (Int64.ofInt (ρ.getD p.1 0 + p.2)) (Int64.ofInt (ρ.getD q.1 0 + q.2))) (g E n p q)) (hl : ab_lR ρ la lv) (hs : ab_sR ρ sa st) (h : ab_ll g E n pc la sa = some (E', n', pc', la', sa')) : ∃ lv' st', sm_ll f pc lv st = some (pc', lv', st') ∧ ab_G ρ E' n' la' sa' lv' st' := by
  unfold ab_ll at h
  split at h
  · next q p r =>
    obtain ⟨v, s1, rfl, h1, hss1⟩ := ab_s_cons hs
    obtain ⟨w, s2, rfl, h2, hss2⟩ := ab_s_cons hss1
    obtain ⟨g1, rfl⟩ := h1
    obtain ⟨g2, rfl⟩ := h2
    cases h
    exact ⟨_, _, rfl, ab_G_pul (hg p q g2 g1) hl hss2⟩
  · cases h
theorem ab_iid_ok {f : Int32 → Int32 → Int32} {g : ab_E → Nat → Nat × Int → Nat × Int → Option ab_Q} (hg : ∀ (p q : Nat × Int) (r : ab_Q), p.1 < ρ.length → g E n p q = some r → ¬ Int32.ofInt (ρ.getD q.1 0 + q.2) = 0 ∧ ab_sp ρ (f (Int32.ofInt (ρ.getD p.1 0 + p.2)) (Int32.ofInt (ρ.getD q.1 0 + q.2))) r) (hl : ab_lR ρ la lv) (hs : ab_sR ρ sa st) (h : ab_iid g E n pc la sa = some (E', n', pc', la', sa')) : ∃ lv' st', sm_iid f pc lv st = some (pc', lv', st') ∧ ab_G ρ E' n' la' sa' lv' st' := by
  unfold ab_iid at h
  split at h
  · next q p r =>
    obtain ⟨v, s1, rfl, h1, hss1⟩ := ab_s_cons hs
    obtain ⟨w, s2, rfl, h2, hss2⟩ := ab_s_cons hss1
    obtain ⟨g1, rfl⟩ := h1
    obtain ⟨g2, rfl⟩ := h2
    split at h
    · next z hz =>
      cases h
      obtain ⟨k1, k2⟩ := hg p q z g2 hz
      exact ⟨_, _, if_neg k1, ab_G_pu k2 hl hss2⟩
    · cases h
  · cases h
theorem ab_lld_ok {f : Int64 → Int64 → Int64} (ho : ab_ok ρ E) (hn : n = ρ.length) (hl : ab_lR ρ la lv) (hs : ab_sR ρ sa st) (h : ab_lld f E n pc la sa = some (E', n', pc', la', sa')) : ∃ lv' st', sm_lld f pc lv st = some (pc', lv', st') ∧ ab_G ρ E' n' la' sa' lv' st' := by
  unfold ab_lld at h
  split at h
  · next q p r =>
    obtain ⟨v, s1, rfl, h1, hss1⟩ := ab_s_cons hs
    obtain ⟨w, s2, rfl, h2, hss2⟩ := ab_s_cons hss1
    obtain ⟨g1, rfl⟩ := h1
    obtain ⟨g2, rfl⟩ := h2
    cases hb : (Nat.beq q.1 0 && !(decide (Int64.ofInt q.2 = 0))) with
    | false => rw [hb] at h; cases h
    | true =>
      rw [hb] at h
      cases h
      have h1 := (Bool.and_eq_true _ _).mp hb
      have e1 := Nat.eq_of_beq_eq_true h1.1
      have e2 : ¬ Int64.ofInt (ρ.getD q.1 0 + q.2) = 0 := by
        rw [e1, ho.2.1, Int.zero_add]
        simpa using h1.2
      exact ⟨_, _, if_neg e2, ab_G_pul (ab_csl_ok f ho hn) hl hss2⟩
  · cases h
theorem ab_i1_ok {f : Int32 → Int32} {a b : Int} (hf : ∀ x, a ≤ (f x).toInt ∧ (f x).toInt ≤ b) (ho : ab_ok ρ E) (hn : n = ρ.length) (hl : ab_lR ρ la lv) (hs : ab_sR ρ sa st) (h : ab_i1 f a b E n pc la sa = some (E', n', pc', la', sa')) : ∃ lv' st', sm_i1 (fun x => .int (f x)) pc lv st = some (pc', lv', st') ∧ ab_G ρ E' n' la' sa' lv' st' := by
  unfold ab_i1 at h
  split at h
  · next p r =>
    obtain ⟨v, s1, rfl, h1, hss1⟩ := ab_s_cons hs
    obtain ⟨g1, rfl⟩ := h1
    split at h
    · next h0 =>
      cases h
      exact ⟨_, _, rfl, ab_G_pu (ab_sp_ex ho hn ho.1 (by rw [h0, ho.2.1]; rw [Int.zero_add, Int.zero_add, Int32.ofInt_toInt])) hl hss1⟩
    · cases h
      exact ⟨_, _, rfl, ab_G_pu (ab_sp_fr ho hn (hf _).1 (hf _).2) hl hss1⟩
  · cases h
theorem ab_full32 (z : Int32) : -2147483648 ≤ z.toInt ∧ z.toInt ≤ 2147483647 := ⟨by have := Int32.le_toInt z; simpa using this, by have := Int32.toInt_le z; rwa [show Int32.maxValue.toInt = 2147483647 by decide] at this⟩
theorem ab_lo_ok {i : Instr} (ho : ab_ok ρ E) (hn : n = ρ.length) (hl : ab_lR ρ la lv) (hs : ab_sR ρ sa st) (h : ab_lo ml i pc E n la sa = some (E', n', pc', la', sa')) : ∃ lv' st', sm_lo ml i pc lv st = some (pc', lv', st') ∧ ab_G ρ E' n' la' sa' lv' st' := by
  cases i
  case iload k =>
    unfold ab_lo ab_ldI at h
    dsimp only at h
    split at h
    · next q hq =>
      cases h
      obtain ⟨v, h1, g1, rfl⟩ := ab_lk_ok hl hq
      exact ⟨lv, .int (Int32.ofInt (ρ.getD q.1 0 + q.2)) :: st, by show sm_ldI _ _ _ _ = _; unfold sm_ldI; rw [h1], ab_G_same ho hn hl ⟨⟨g1, rfl⟩, hs⟩⟩
    · cases h
  case iload_n k =>
    unfold ab_lo ab_ldI at h
    dsimp only at h
    split at h
    · next q hq =>
      cases h
      obtain ⟨v, h1, g1, rfl⟩ := ab_lk_ok hl hq
      exact ⟨lv, .int (Int32.ofInt (ρ.getD q.1 0 + q.2)) :: st, by show sm_ldI _ _ _ _ = _; unfold sm_ldI; rw [h1], ab_G_same ho hn hl ⟨⟨g1, rfl⟩, hs⟩⟩
    · cases h
  case lload k =>
    unfold ab_lo ab_ldL at h
    dsimp only at h
    split at h
    · next q hq =>
      cases h
      obtain ⟨v, h1, g1, rfl⟩ := ab_lk_ok hl hq
      exact ⟨lv, .long (Int64.ofInt (ρ.getD q.1 0 + q.2)) :: st, by show sm_ldL _ _ _ _ = _; unfold sm_ldL; rw [h1], ab_G_same ho hn hl ⟨⟨g1, rfl⟩, hs⟩⟩
    · cases h
  case lload_n k =>
    unfold ab_lo ab_ldL at h
    dsimp only at h
    split at h
    · next q hq =>
      cases h
      obtain ⟨v, h1, g1, rfl⟩ := ab_lk_ok hl hq
      exact ⟨lv, .long (Int64.ofInt (ρ.getD q.1 0 + q.2)) :: st, by show sm_ldL _ _ _ _ = _; unfold sm_ldL; rw [h1], ab_G_same ho hn hl ⟨⟨g1, rfl⟩, hs⟩⟩
    · cases h
  case aload k =>
    unfold ab_lo ab_ldA at h
    dsimp only at h
    split at h
    · next q hq =>
      cases h
      obtain ⟨v, h1, rfl⟩ := ab_lk_ok hl hq
      exact ⟨lv, .ref q :: st, by show sm_ldA _ _ _ _ = _; unfold sm_ldA; rw [h1], ab_G_same ho hn hl ⟨rfl, hs⟩⟩
    · next q hq =>
      cases h
      obtain ⟨v, h1, rfl⟩ := ab_lk_ok hl hq
      exact ⟨lv, .retAddr q :: st, by show sm_ldA _ _ _ _ = _; unfold sm_ldA; rw [h1], ab_G_same ho hn hl ⟨rfl, hs⟩⟩
    · cases h
  case aload_n k =>
    unfold ab_lo ab_ldA at h
    dsimp only at h
    split at h
    · next q hq =>
      cases h
      obtain ⟨v, h1, rfl⟩ := ab_lk_ok hl hq
      exact ⟨lv, .ref q :: st, by show sm_ldA _ _ _ _ = _; unfold sm_ldA; rw [h1], ab_G_same ho hn hl ⟨rfl, hs⟩⟩
    · next q hq =>
      cases h
      obtain ⟨v, h1, rfl⟩ := ab_lk_ok hl hq
      exact ⟨lv, .retAddr q :: st, by show sm_ldA _ _ _ _ = _; unfold sm_ldA; rw [h1], ab_G_same ho hn hl ⟨rfl, hs⟩⟩
    · cases h
  case istore k =>
    unfold ab_lo ab_stI at h
    dsimp only at h
    split at h
    · next q r =>
      obtain ⟨v, s1, rfl, h1, hss1⟩ := ab_s_cons hs
      obtain ⟨g1, rfl⟩ := h1
      cases hb : Nat.ble (k + 1) ml with
      | false => rw [hb] at h; cases h
      | true =>
        rw [hb] at h
        cases h
        exact ⟨_, _, if_pos (Nat.ble_eq.mp hb), ab_G_same ho hn (ab_s1_ok hl ⟨g1, rfl⟩) hss1⟩
    · cases h
  case istore_n k =>
    unfold ab_lo ab_stI at h
    dsimp only at h
    split at h
    · next q r =>
      obtain ⟨v, s1, rfl, h1, hss1⟩ := ab_s_cons hs
      obtain ⟨g1, rfl⟩ := h1
      cases hb : Nat.ble (k.val + 1) ml with
      | false => rw [hb] at h; cases h
      | true =>
        rw [hb] at h
        cases h
        exact ⟨_, _, if_pos (Nat.ble_eq.mp hb), ab_G_same ho hn (ab_s1_ok hl ⟨g1, rfl⟩) hss1⟩
    · cases h
  case astore k =>
    unfold ab_lo ab_stA at h
    dsimp only at h
    split at h
    · next q r =>
      obtain ⟨v, s1, rfl, h1, hss1⟩ := ab_s_cons hs
      obtain rfl := h1
      cases hb : Nat.ble (k + 1) ml with
      | false => rw [hb] at h; cases h
      | true =>
        rw [hb] at h
        cases h
        exact ⟨_, _, if_pos (Nat.ble_eq.mp hb), ab_G_same ho hn (ab_s1_ok hl rfl) hss1⟩
    · cases h
  case astore_n k =>
    unfold ab_lo ab_stA at h
    dsimp only at h
    split at h
    · next q r =>
      obtain ⟨v, s1, rfl, h1, hss1⟩ := ab_s_cons hs
      obtain rfl := h1
      cases hb : Nat.ble (k.val + 1) ml with
      | false => rw [hb] at h; cases h
      | true =>
        rw [hb] at h
        cases h
        exact ⟨_, _, if_pos (Nat.ble_eq.mp hb), ab_G_same ho hn (ab_s1_ok hl rfl) hss1⟩
    · cases h
  case lstore k =>
    unfold ab_lo ab_stL at h
    dsimp only at h
    split at h
    · next q r =>
      obtain ⟨v, s1, rfl, h1, hss1⟩ := ab_s_cons hs
      obtain ⟨g1, rfl⟩ := h1
      cases hb : Nat.ble (k + 2) ml with
      | false => rw [hb] at h; cases h
      | true =>
        rw [hb] at h
        cases h
        exact ⟨_, _, if_pos (Nat.ble_eq.mp hb), ab_G_same ho hn (ab_s2_ok hl ⟨g1, rfl⟩) hss1⟩
    · cases h
  case lstore_n k =>
    unfold ab_lo ab_stL at h
    dsimp only at h
    split at h
    · next q r =>
      obtain ⟨v, s1, rfl, h1, hss1⟩ := ab_s_cons hs
      obtain ⟨g1, rfl⟩ := h1
      cases hb : Nat.ble (k.val + 2) ml with
      | false => rw [hb] at h; cases h
      | true =>
        rw [hb] at h
        cases h
        exact ⟨_, _, if_pos (Nat.ble_eq.mp hb), ab_G_same ho hn (ab_s2_ok hl ⟨g1, rfl⟩) hss1⟩
    · cases h
  case iinc k d =>
    unfold ab_lo ab_inc at h
    dsimp only at h
    split at h
    · next q hq =>
      obtain ⟨v, h1, g1, rfl⟩ := ab_lk_ok hl hq
      cases hb : Nat.ble (k + 1) ml with
      | false => rw [hb] at h; cases h
      | true =>
        rw [hb] at h
        cases h
        have h2 : k < ml := Nat.ble_eq.mp hb
        refine ⟨_, _, by show sm_inc _ _ _ _ _ _ = _; unfold sm_inc; rw [h1]; exact if_pos h2, ab_G_same ho hn (ab_s1_ok hl ⟨g1, ?_⟩) hs⟩
        rw [← Int32.ofInt_add]
        congr 2
        dsimp only
        omega
    · cases h
  case iconst z =>
    cases h
    exact ⟨_, _, rfl, ab_G_same ho hn hl ⟨⟨ho.1, by rw [ho.2.1]; dsimp only; rw [Int.zero_add]⟩, hs⟩⟩
  case bipush z =>
    unfold ab_lo at h
    dsimp only at h
    cases hb : (ab_ile (-128) z && ab_ile z 127) with
    | false => rw [hb] at h; cases h
    | true =>
      rw [hb] at h
      cases h
      have h1 := (Bool.and_eq_true _ _).mp hb
      have h2 := ab_ile_iff.mp h1.1
      have h3 := ab_ile_iff.mp h1.2
      exact ⟨_, _, rfl, ab_G_same ho hn hl ⟨⟨ho.1, by rw [ho.2.1]; dsimp only; rw [Int.zero_add, Int8.toInt32_ofInt (by simpa using h2) (by rw [show Int8.maxValue.toInt = 127 by decide]; exact h3)]⟩, hs⟩⟩
  case sipush z =>
    unfold ab_lo at h
    dsimp only at h
    cases hb : (ab_ile (-32768) z && ab_ile z 32767) with
    | false => rw [hb] at h; cases h
    | true =>
      rw [hb] at h
      cases h
      have h1 := (Bool.and_eq_true _ _).mp hb
      have h2 := ab_ile_iff.mp h1.1
      have h3 := ab_ile_iff.mp h1.2
      exact ⟨_, _, rfl, ab_G_same ho hn hl ⟨⟨ho.1, by rw [ho.2.1]; dsimp only; rw [Int.zero_add, Int16.toInt32_ofInt (by simpa using h2) (by rw [show Int16.maxValue.toInt = 32767 by decide]; exact h3)]⟩, hs⟩⟩
  case lconst z =>
    cases h
    exact ⟨_, _, rfl, ab_G_same ho hn hl ⟨⟨ho.1, by rw [ho.2.1]; dsimp only; rw [Int.zero_add]; rfl⟩, hs⟩⟩
  case iadd => exact ab_ii_ok (fun p q hp hq => ab_add_ok ho hn hp hq) hl hs h
  case isub => exact ab_ii_ok (fun p q hp hq => ab_sub_ok ho hn hp) hl hs h
  case imul => exact ab_ii_ok (fun p q hp hq => ab_mul_ok ho hn) hl hs h
  case iand => exact ab_ii_ok (fun p q hp hq => ab_cs_ok _ ho hn) hl hs h
  case ior => exact ab_ii_ok (fun p q hp hq => ab_cs_ok _ ho hn) hl hs h
  case ishl => exact ab_ii_ok (fun p q hp hq => ab_cs_ok _ ho hn) hl hs h
  case ishr => exact ab_ii_ok (fun p q hp hq => ab_cs_ok _ ho hn) hl hs h
  case iushr => exact ab_ii_ok (fun p q hp hq => ab_cs_ok _ ho hn) hl hs h
  case idiv => exact ab_iid_ok (fun p q r hp hr => ab_div_ok ho hn hp hr) hl hs h
  case irem => exact ab_iid_ok (fun p q r hp hr => ab_rem_ok ho hn hp hr) hl hs h
  case ladd => exact ab_ll_ok (fun p q hp hq => ab_addl_ok ho hn hp hq) hl hs h
  case lsub => exact ab_ll_ok (fun p q hp hq => ab_subl_ok ho hn hp) hl hs h
  case lmul => exact ab_ll_ok (fun p q hp hq => ab_mull_ok ho hn) hl hs h
  case land => exact ab_ll_ok (fun p q hp hq => ab_csl_ok _ ho hn) hl hs h
  case ldiv => exact ab_lld_ok ho hn hl hs h
  case lrem => exact ab_lld_ok ho hn hl hs h
  case ineg => exact ab_i1_ok (fun x => ab_full32 _) ho hn hl hs h
  case i2b =>
    refine ab_i1_ok (fun x => ?_) ho hn hl hs h
    rw [Int8.toInt_toInt32]
    have h1 := Int8.le_toInt x.toInt8
    have h2 := Int8.toInt_le x.toInt8
    rw [show Int8.maxValue.toInt = 127 by decide] at h2
    exact ⟨by simpa using h1, h2⟩
  case i2c => exact ab_i1_ok (fun x => ab_full32 _) ho hn hl hs h
  case lneg =>
    unfold ab_lo ab_ln at h
    dsimp only at h
    split at h
    · next p r =>
      obtain ⟨v, s1, rfl, h1, hss1⟩ := ab_s_cons hs
      obtain ⟨g1, rfl⟩ := h1
      split at h
      · next h0 =>
        cases h
        exact ⟨_, _, rfl, ab_G_pul (ab_spl_ex ho hn ho.1 (by rw [h0, ho.2.1]; rw [Int.zero_add, Int.zero_add, Int64.ofInt_toInt])) hl hss1⟩
      · cases h
        exact ⟨_, _, rfl, ab_G_pul (ab_spl_fl ho hn) hl hss1⟩
    · cases h
  case i2l =>
    unfold ab_lo ab_il at h
    dsimp only at h
    split at h
    · next p r =>
      obtain ⟨v, s1, rfl, h1, hss1⟩ := ab_s_cons hs
      obtain ⟨g1, rfl⟩ := h1
      split at h
      · next z hz =>
        cases hb : ab_n32 z with
        | false => rw [hb] at h; cases h
        | true =>
          rw [hb] at h
          cases h
          have h1 := (Bool.and_eq_true _ _).mp hb
          have h2 := ab_ile_iff.mp h1.1
          have h3 := ab_ile_iff.mp h1.2
          have h4 := ab_rg_ok ho hz
          exact ⟨_, _, rfl, ab_G_same ho hn hl ⟨⟨g1, by dsimp only; rw [Int32.toInt64_ofInt (by rw [show Int32.minValue.toInt = -2147483648 by decide]; omega) (by rw [show Int32.maxValue.toInt = 2147483647 by decide]; omega)]⟩, hss1⟩⟩
      · cases h
    · cases h
  case l2i =>
    unfold ab_lo ab_li at h
    dsimp only at h
    split at h
    · next p r =>
      obtain ⟨v, s1, rfl, h1, hss1⟩ := ab_s_cons hs
      obtain ⟨g1, rfl⟩ := h1
      cases h
      exact ⟨_, _, rfl, ab_G_same ho hn hl ⟨⟨g1, by dsimp only; rw [Int64.toInt32_ofInt]⟩, hss1⟩⟩
    · cases h
  case lcmp =>
    unfold ab_lo ab_cp at h
    dsimp only at h
    split at h
    · next q p r =>
      obtain ⟨v, s1, rfl, h1, hss1⟩ := ab_s_cons hs
      obtain ⟨w, s2, rfl, h2, hss2⟩ := ab_s_cons hss1
      obtain ⟨g1, rfl⟩ := h1
      obtain ⟨g2, rfl⟩ := h2
      split at h
      · next h0 h1 =>
        cases h
        exact ⟨_, _, rfl, ab_G_pu (ab_sp_ex ho hn ho.1 (by rw [h0, h1, ho.2.1]; rw [Int.zero_add, Int.zero_add, Int.zero_add, Int32.ofInt_toInt])) hl hss2⟩
      · cases h
        refine ⟨_, _, rfl, ab_G_pu (ab_sp_fr ho hn ?_ ?_) hl hss2⟩
        · unfold lg_cmp
          split
          · decide
          · split <;> decide
        · unfold lg_cmp
          split
          · decide
          · split <;> decide
    · cases h
  case dup =>
    unfold ab_lo ab_du at h
    dsimp only at h
    split at h
    · next a r =>
      obtain ⟨v, s1, rfl, h1, hss1⟩ := ab_s_cons hs
      cases hb : ab_is2 a with
      | true => rw [hb] at h; cases h
      | false =>
        rw [hb] at h
        cases h
        exact ⟨_, _, if_pos (ab_R_cat1 h1 hb), ab_G_same ho hn hl ⟨h1, h1, hss1⟩⟩
    · cases h
  case pop =>
    unfold ab_lo ab_po at h
    dsimp only at h
    split at h
    · next a r =>
      obtain ⟨v, s1, rfl, h1, hss1⟩ := ab_s_cons hs
      cases hb : ab_is2 a with
      | true => rw [hb] at h; cases h
      | false =>
        rw [hb] at h
        cases h
        exact ⟨_, _, if_pos (ab_R_cat1 h1 hb), ab_G_same ho hn hl hss1⟩
    · cases h
  case dup2 =>
    unfold ab_lo ab_d2 at h
    dsimp only at h
    split at h
    · next a r =>
      obtain ⟨v, s1, rfl, h1, hss1⟩ := ab_s_cons hs
      cases hb : ab_is2 a with
      | true =>
        rw [hb] at h
        cases h
        exact ⟨_, _, if_pos (ab_R_cat2 h1 hb), ab_G_same ho hn hl ⟨h1, h1, hss1⟩⟩
      | false =>
        rw [hb] at h
        dsimp only [cond_false] at h
        split at h
        · next b r2 =>
          obtain ⟨w, s2, rfl, h2, hss2⟩ := ab_s_cons hss1
          cases hb2 : ab_is2 b with
          | true => rw [hb2] at h; cases h
          | false =>
            rw [hb2] at h
            cases h
            have c1 := ab_R_cat1 h1 hb
            have c2 := ab_R_cat1 h2 hb2
            refine ⟨lv, v :: w :: v :: w :: s2, ?_, ab_G_same ho hn hl ⟨h1, h2, h1, h2, hss2⟩⟩
            show sm_d2 (pc + 1) lv (v :: w :: s2) = _
            unfold sm_d2
            dsimp only
            rw [if_neg (by omega), if_pos ⟨c1, c2⟩]
        · cases h
    · cases h
  case goto off =>
    unfold ab_lo at h
    dsimp only at h
    cases hb : ab_ile 0 ((pc : Int) + off) with
    | false => rw [hb] at h; cases h
    | true =>
      rw [hb] at h
      cases h
      exact ⟨_, _, if_pos (ab_ile_iff.mp hb), ab_G_same ho hn hl hs⟩
  all_goals (exact absurd h (by intro q; cases q))
end ABL
