/-! What is known of a state of the small machine: numbers by a name and an offset, names by bounds. -/
def ab_ile (a b : Int) : Bool := match a, b with
  | .ofNat m, .ofNat n => Nat.ble m n
  | .negSucc _, .ofNat _ => true
  | .ofNat _, .negSucc _ => false
  | .negSucc m, .negSucc n => Nat.ble n m
theorem ab_ile_iff {a b : Int} : ab_ile a b = true ↔ a ≤ b := by
  unfold ab_ile
  split
  · rw [Nat.ble_eq]; exact Int.ofNat_le.symm
  · simp; omega
  · simp; omega
  · rw [Nat.ble_eq]; omega
def ab_max (a b : Int) : Int := bif ab_ile a b then b else a
def ab_min (a b : Int) : Int := bif ab_ile a b then a else b
theorem ab_max_le {a b x : Int} (h1 : a ≤ x) (h2 : b ≤ x) : ab_max a b ≤ x := by
  unfold ab_max
  cases ab_ile a b <;> assumption
theorem ab_le_min {a b x : Int} (h1 : x ≤ a) (h2 : x ≤ b) : x ≤ ab_min a b := by
  unfold ab_min
  cases ab_ile a b <;> assumption
/-- a value: an int, a long (name, offset), a cell, one that is only read, null -/
abbrev ab_V : Type := (Nat × Int) ⊕ ((Nat × Int) ⊕ (Nat ⊕ (Nat ⊕ Unit)))
abbrev ab_E : Type := List (Nat × Int × Int) × List (Nat × Nat × Int) × List (Nat × Nat × Int × Int)
def ab_R (ρ : List Int) (a : ab_V) (v : Value) : Prop := match a with
  | .inl q => q.1 < ρ.length ∧ v = .int (Int32.ofInt (ρ.getD q.1 0 + q.2))
  | .inr (.inl q) => q.1 < ρ.length ∧ v = .long (Int64.ofInt (ρ.getD q.1 0 + q.2))
  | .inr (.inr (.inl k)) => v = .ref k
  | .inr (.inr (.inr (.inl j))) => v = .retAddr j
  | .inr (.inr (.inr (.inr _))) => v = .null
/-- the numbers are as the bounds have them: bounds, differences, quotients -/
def ab_ok (ρ : List Int) (E : ab_E) : Prop := 0 < ρ.length ∧ ρ.getD 0 0 = 0 ∧ (∀ q ∈ E.1, q.1 < ρ.length ∧ q.2.1 ≤ ρ.getD q.1 0 ∧ ρ.getD q.1 0 ≤ q.2.2) ∧ (∀ q ∈ E.2.1, q.1 < ρ.length ∧ q.2.1 < ρ.length ∧ ρ.getD q.1 0 ≤ ρ.getD q.2.1 0 + q.2.2) ∧ ∀ q ∈ E.2.2, q.1 < ρ.length ∧ q.2.1 < ρ.length ∧ 0 < q.2.2.2 ∧ 0 ≤ ρ.getD q.2.1 0 + q.2.2.1 ∧ ρ.getD q.1 0 = (ρ.getD q.2.1 0 + q.2.2.1) / q.2.2.2
theorem ab_getD_app {ρ x : List Int} {k : Nat} (h : k < ρ.length) : (ρ ++ x).getD k 0 = ρ.getD k 0 := by
  rw [List.getD_eq_getElem?_getD, List.getD_eq_getElem?_getD, List.getElem?_append_left h]
theorem ab_getD_new {ρ : List Int} {z : Int} : (ρ ++ [z]).getD ρ.length 0 = z := by
  rw [List.getD_eq_getElem?_getD]
  simp
theorem ab_R_app {ρ x : List Int} {a : ab_V} {v : Value} (h : ab_R ρ a v) : ab_R (ρ ++ x) a v := by
  unfold ab_R at h ⊢
  split
  · exact ⟨by rw [List.length_append]; omega, by rw [ab_getD_app h.1]; exact h.2⟩
  · exact ⟨by rw [List.length_append]; omega, by rw [ab_getD_app h.1]; exact h.2⟩
  · exact h
  · exact h
  · exact h
theorem ab_ok_app {ρ x : List Int} {E : ab_E} (h : ab_ok ρ E) : ab_ok (ρ ++ x) E := by
  obtain ⟨h0, h1, h2, h3, h4⟩ := h
  refine ⟨by rw [List.length_append]; omega, by rw [ab_getD_app h0]; exact h1, fun q hq => ?_, fun q hq => ?_, fun q hq => ?_⟩
  · obtain ⟨a, b, c⟩ := h2 q hq
    rw [ab_getD_app a, List.length_append]
    exact ⟨by omega, b, c⟩
  · obtain ⟨a, b, c⟩ := h3 q hq
    rw [ab_getD_app a, ab_getD_app b, List.length_append]
    exact ⟨by omega, by omega, c⟩
  · obtain ⟨a, b, c, d, e⟩ := h4 q hq
    rw [ab_getD_app a, ab_getD_app b, List.length_append]
    exact ⟨by omega, by omega, c, d, e⟩
/-- a name's bounds -/
def ab_iv (E : ab_E) (v : Nat) : Option (Int × Int) := match v with
  | 0 => some (0, 0)
  | v + 1 => match E.1.find? (fun q => Nat.beq q.1 (v + 1)) with
    | some q => some q.2
    | none => none
theorem ab_iv_ok {ρ : List Int} {E : ab_E} (h : ab_ok ρ E) {v : Nat} {z : Int × Int} (hz : ab_iv E v = some z) : v < ρ.length ∧ z.1 ≤ ρ.getD v 0 ∧ ρ.getD v 0 ≤ z.2 := by
  unfold ab_iv at hz
  split at hz
  · cases hz
    exact ⟨h.1, by rw [h.2.1]; exact Int.le_refl _, by rw [h.2.1]; exact Int.le_refl _⟩
  · next v =>
    split at hz
    · next q hq =>
      cases hz
      have h1 := List.mem_of_find?_eq_some hq
      have h2 : q.1 = v + 1 := by
        have h0 := List.find?_some hq
        exact Nat.eq_of_beq_eq_true h0
      have h3 := h.2.2.1 q h1
      rw [h2] at h3
      exact h3
    · cases hz
def ab_rg (E : ab_E) (q : Nat × Int) : Option (Int × Int) := match ab_iv E q.1 with
  | some z => some (z.1 + q.2, z.2 + q.2)
  | none => none
theorem ab_rg_ok {ρ : List Int} {E : ab_E} (h : ab_ok ρ E) {q : Nat × Int} {z : Int × Int} (hz : ab_rg E q = some z) : q.1 < ρ.length ∧ z.1 ≤ ρ.getD q.1 0 + q.2 ∧ ρ.getD q.1 0 + q.2 ≤ z.2 := by
  unfold ab_rg at hz
  split at hz
  · next z0 hz0 =>
    cases hz
    obtain ⟨a, b, c⟩ := ab_iv_ok h hz0
    exact ⟨a, by dsimp only; omega, by dsimp only; omega⟩
  · cases hz
def ab_n32 (z : Int × Int) : Bool := ab_ile (-2147483648) z.1 && ab_ile z.2 2147483647
def ab_n64 (z : Int × Int) : Bool := ab_ile (-9223372036854775808) z.1 && ab_ile z.2 9223372036854775807
/-- by what is known of differences -/
def ab_lef (fa : List (Nat × Nat × Int)) (u v : Nat) (c : Int) : Bool := fa.any (fun f => Nat.beq f.1 u && ((Nat.beq f.2.1 v && ab_ile f.2.2 c) || fa.any (fun g => Nat.beq g.1 f.2.1 && (Nat.beq g.2.1 v && ab_ile (f.2.2 + g.2.2) c))))
theorem ab_lef_ok {ρ : List Int} {E : ab_E} (h : ab_ok ρ E) {u v : Nat} {c : Int} (hl : ab_lef E.2.1 u v c = true) : ρ.getD u 0 ≤ ρ.getD v 0 + c := by
  unfold ab_lef at hl
  obtain ⟨f, hf, h1⟩ := List.any_eq_true.mp hl
  rw [Bool.and_eq_true] at h1
  have e1 := Nat.eq_of_beq_eq_true h1.1
  have h2 := (h.2.2.2.1 f hf).2.2
  rw [e1] at h2
  rcases Bool.or_eq_true_iff.mp h1.2 with h3 | h3
  · rw [Bool.and_eq_true] at h3
    have e2 := Nat.eq_of_beq_eq_true h3.1
    have e3 := ab_ile_iff.mp h3.2
    rw [e2] at h2
    omega
  · obtain ⟨g, hg, h4⟩ := List.any_eq_true.mp h3
    rw [Bool.and_eq_true, Bool.and_eq_true] at h4
    have e2 := Nat.eq_of_beq_eq_true h4.1
    have e3 := Nat.eq_of_beq_eq_true h4.2.1
    have e4 := ab_ile_iff.mp h4.2.2
    have h5 := (h.2.2.2.1 g hg).2.2
    rw [e2, e3] at h5
    omega
/-- by a difference, then by bounds -/
def ab_leb (E : ab_E) (p q : Nat × Int) : Bool := match ab_rg E q with
  | some w => E.2.1.any (fun f => Nat.beq f.1 p.1 && (match ab_iv E f.2.1 with
    | some z => ab_ile (z.2 + f.2.2 + p.2) w.1
    | none => false))
  | none => false
theorem ab_leb_ok {ρ : List Int} {E : ab_E} (h : ab_ok ρ E) {p q : Nat × Int} (hl : ab_leb E p q = true) : ρ.getD p.1 0 + p.2 ≤ ρ.getD q.1 0 + q.2 := by
  unfold ab_leb at hl
  split at hl
  · next w hw =>
    obtain ⟨f, hf, h1⟩ := List.any_eq_true.mp hl
    rw [Bool.and_eq_true] at h1
    have e1 := Nat.eq_of_beq_eq_true h1.1
    have h2 := h1.2
    split at h2
    · next z hz =>
      have e2 := ab_ile_iff.mp h2
      have a := (h.2.2.2.1 f hf).2.2
      have b := (ab_iv_ok h hz).2.2
      have c := (ab_rg_ok h hw).2.1
      rw [e1] at a
      omega
    · cases h2
  · cases hl
/-- surely no more -/
def ab_le (E : ab_E) (p q : Nat × Int) : Bool := bif Nat.beq p.1 q.1 then ab_ile p.2 q.2 else ((match ab_rg E p, ab_rg E q with
  | some z, some w => ab_ile z.2 w.1
  | _, _ => false) || (ab_lef E.2.1 p.1 q.1 (q.2 - p.2) || ab_leb E p q))
theorem ab_le_ok {ρ : List Int} {E : ab_E} (h : ab_ok ρ E) {p q : Nat × Int} (hl : ab_le E p q = true) : ρ.getD p.1 0 + p.2 ≤ ρ.getD q.1 0 + q.2 := by
  unfold ab_le at hl
  cases hb : Nat.beq p.1 q.1 with
  | true =>
    rw [hb] at hl
    have e1 := Nat.eq_of_beq_eq_true hb
    have e2 := ab_ile_iff.mp hl
    rw [e1]
    omega
  | false =>
    rw [hb] at hl
    rcases Bool.or_eq_true_iff.mp hl with h3 | h3
    · split at h3
      · next z w hz hw =>
        have e2 := ab_ile_iff.mp h3
        have a := ab_rg_ok h hz
        have b := ab_rg_ok h hw
        omega
      · cases h3
    · rcases Bool.or_eq_true_iff.mp h3 with h3 | h3
      · have := ab_lef_ok h h3
        omega
      · exact ab_leb_ok h h3
/-- bounds of a name narrowed, and of what it is a quotient of -/
def ab_bk (E : ab_E) (v : Nat) (a b : Int) : List (Nat × Int × Int) := E.2.2.filterMap (fun q => bif Nat.beq q.1 v then (match ab_iv E q.2.1 with
  | some z => some (q.2.1, ab_max z.1 (a * q.2.2.2 - q.2.2.1), ab_min z.2 (b * q.2.2.2 + q.2.2.2 - 1 - q.2.2.1))
  | none => none) else none)
def ab_rf (E : ab_E) (v : Nat) (a b : Int) : ab_E := match v with
  | 0 => E
  | v + 1 => match ab_iv E (v + 1) with
    | some z => (ab_bk E (v + 1) (ab_max z.1 a) (ab_min z.2 b) ++ (v + 1, ab_max z.1 a, ab_min z.2 b) :: E.1, E.2)
    | none => E
theorem ab_bk_ok {ρ : List Int} {E : ab_E} (h : ab_ok ρ E) {v : Nat} {a b : Int} (h1 : a ≤ ρ.getD v 0) (h2 : ρ.getD v 0 ≤ b) : ∀ q ∈ ab_bk E v a b, q.1 < ρ.length ∧ q.2.1 ≤ ρ.getD q.1 0 ∧ ρ.getD q.1 0 ≤ q.2.2 := by
  intro q hq
  obtain ⟨d, hd, he⟩ := List.mem_filterMap.mp hq
  obtain ⟨g1, g2, g3, g4, g5⟩ := h.2.2.2.2 d hd
  cases hb : Nat.beq d.1 v with
  | false => rw [hb] at he; cases he
  | true =>
    rw [hb] at he
    have e1 := Nat.eq_of_beq_eq_true hb
    dsimp only [cond_true] at he
    split at he
    · next z hz =>
      cases he
      obtain ⟨_, z1, z2⟩ := ab_iv_ok h hz
      rw [e1] at g5
      rw [g5] at h1 h2
      have k1 : a * d.2.2.2 ≤ ρ.getD d.2.1 0 + d.2.2.1 := (Int.le_ediv_iff_mul_le g3).mp h1
      have k2 : ρ.getD d.2.1 0 + d.2.2.1 < (b + 1) * d.2.2.2 := (Int.ediv_lt_iff_lt_mul g3).mp (by omega)
      rw [Int.add_mul, Int.one_mul] at k2
      dsimp only
      exact ⟨g2, ab_max_le z1 (by omega), ab_le_min z2 (by omega)⟩
    · cases he
theorem ab_rf_ok {ρ : List Int} {E : ab_E} (h : ab_ok ρ E) {v : Nat} {a b : Int} (h1 : a ≤ ρ.getD v 0) (h2 : ρ.getD v 0 ≤ b) : ab_ok ρ (ab_rf E v a b) := by
  unfold ab_rf
  split
  · exact h
  · next v =>
    split
    · next z hz =>
      obtain ⟨z0, z1, z2⟩ := ab_iv_ok h hz
      refine ⟨h.1, h.2.1, fun q hq => ?_, h.2.2.2.1, h.2.2.2.2⟩
      rcases List.mem_append.mp hq with hq | hq
      · exact ab_bk_ok h (ab_max_le z1 h1) (ab_le_min z2 h2) q hq
      · rcases List.mem_cons.mp hq with rfl | hq
        · exact ⟨z0, ab_max_le z1 h1, ab_le_min z2 h2⟩
        · exact h.2.2.1 q hq
    · exact h
/-- what follows, if p is no more than q -/
def ab_as (E : ab_E) (p q : Nat × Int) : ab_E := match ab_rg E p, ab_rg E q with
  | some z, some w =>
    let E1 := ab_rf (ab_rf E p.1 (z.1 - p.2) (w.2 - p.2)) q.1 (z.1 - q.2) (w.2 - q.2)
    bif Nat.beq p.1 0 || Nat.beq q.1 0 then E1 else (E1.1, (p.1, q.1, q.2 - p.2) :: E1.2.1, E1.2.2)
  | _, _ => E
theorem ab_as_ok {ρ : List Int} {E : ab_E} (h : ab_ok ρ E) {p q : Nat × Int} (hl : ρ.getD p.1 0 + p.2 ≤ ρ.getD q.1 0 + q.2) : ab_ok ρ (ab_as E p q) := by
  unfold ab_as
  split
  · next z w hz hw =>
    have a := ab_rg_ok h hz
    have b := ab_rg_ok h hw
    have h1 := ab_rf_ok (v := q.1) (a := z.1 - q.2) (b := w.2 - q.2) (ab_rf_ok (v := p.1) (a := z.1 - p.2) (b := w.2 - p.2) h (by omega) (by omega)) (by omega) (by omega)
    dsimp only
    cases Nat.beq p.1 0 || Nat.beq q.1 0 with
    | true => exact h1
    | false =>
      refine ⟨h1.1, h1.2.1, h1.2.2.1, fun f hf => ?_, h1.2.2.2.2⟩
      rcases List.mem_cons.mp hf with rfl | hf
      · exact ⟨a.1, b.1, by dsimp only; omega⟩
      · exact h1.2.2.2.1 f hf
  · exact h
/-- no number is left -/
def ab_no (E : ab_E) (v : Nat) : Bool := match ab_iv E v with
  | some z => !(ab_ile z.1 z.2)
  | none => false
theorem ab_no_ok {ρ : List Int} {E : ab_E} (h : ab_ok ρ E) {v : Nat} : ab_no E v = false := by
  unfold ab_no
  split
  · next z hz =>
    obtain ⟨_, z1, z2⟩ := ab_iv_ok h hz
    have : ab_ile z.1 z.2 = true := ab_ile_iff.mpr (by omega)
    rw [this]
    rfl
  · rfl
def ab_up (q : Nat × Int) : Nat × Int := (q.1, q.2 + 1)
/-- surely so -/
def ab_dt (cd : ClassFile.Cond) (E : ab_E) (p q : Nat × Int) : Bool := match cd with
  | .eq => ab_le E p q && ab_le E q p
  | .ne => ab_le E (ab_up p) q || ab_le E (ab_up q) p
  | .lt => ab_le E (ab_up p) q
  | .ge => ab_le E q p
  | .gt => ab_le E (ab_up q) p
  | .le => ab_le E p q
def ab_ng (cd : ClassFile.Cond) : ClassFile.Cond := match cd with
  | .eq => .ne
  | .ne => .eq
  | .lt => .ge
  | .ge => .lt
  | .gt => .le
  | .le => .gt
/-- what follows, if it is so -/
def ab_ae (E : ab_E) (p q : Nat × Int) : ab_E := match ab_rg E p with
  | some z => bif Nat.beq q.1 0 then (bif ab_ile z.1 q.2 && ab_ile q.2 z.1 then ab_rf E p.1 (q.2 + 1 - p.2) (z.2 - p.2) else bif ab_ile z.2 q.2 && ab_ile q.2 z.2 then ab_rf E p.1 (z.1 - p.2) (q.2 - 1 - p.2) else E) else E
  | none => E
def ab_at (cd : ClassFile.Cond) (E : ab_E) (p q : Nat × Int) : ab_E := match cd with
  | .eq => ab_as (ab_as E p q) q p
  | .ne => ab_ae E p q
  | .lt => ab_as E (ab_up p) q
  | .ge => ab_as E q p
  | .gt => ab_as E (ab_up q) p
  | .le => ab_as E p q
def ab_ic (cd : ClassFile.Cond) (x y : Int) : Prop := match cd with
  | .eq => x = y
  | .ne => ¬ x = y
  | .lt => x < y
  | .ge => y ≤ x
  | .gt => y < x
  | .le => x ≤ y
theorem ab_ng_iff {cd : ClassFile.Cond} {x y : Int} : ab_ic (ab_ng cd) x y ↔ ¬ ab_ic cd x y := by
  cases cd <;> simp only [ab_ng, ab_ic] <;> omega
theorem ab_dt_ok {ρ : List Int} {E : ab_E} (h : ab_ok ρ E) {cd : ClassFile.Cond} {p q : Nat × Int} (hd : ab_dt cd E p q = true) : ab_ic cd (ρ.getD p.1 0 + p.2) (ρ.getD q.1 0 + q.2) := by
  cases cd
  case eq =>
    have h1 := (Bool.and_eq_true _ _).mp hd
    have a := ab_le_ok h h1.1
    have b := ab_le_ok h h1.2
    show _ = _
    omega
  case ne =>
    show ¬ _ = _
    rcases Bool.or_eq_true_iff.mp hd with h1 | h1
    · have a := ab_le_ok h h1
      simp only [ab_up] at a
      omega
    · have a := ab_le_ok h h1
      simp only [ab_up] at a
      omega
  case lt =>
    have a := ab_le_ok h hd
    simp only [ab_up] at a
    show _ < _
    omega
  case ge => exact ab_le_ok h hd
  case gt =>
    have a := ab_le_ok h hd
    simp only [ab_up] at a
    show _ < _
    omega
  case le => exact ab_le_ok h hd
theorem ab_ae_ok {ρ : List Int} {E : ab_E} (h : ab_ok ρ E) {p q : Nat × Int} (hd : ¬ ρ.getD p.1 0 + p.2 = ρ.getD q.1 0 + q.2) : ab_ok ρ (ab_ae E p q) := by
  unfold ab_ae
  split
  · next z hz =>
    have a := ab_rg_ok h hz
    cases hb : Nat.beq q.1 0 with
    | false => exact h
    | true =>
      have e1 := Nat.eq_of_beq_eq_true hb
      rw [e1, h.2.1] at hd
      cases h1 : (ab_ile z.1 q.2 && ab_ile q.2 z.1) with
      | true =>
        have h2 := (Bool.and_eq_true _ _).mp h1
        have h3 := ab_ile_iff.mp h2.1
        have h4 := ab_ile_iff.mp h2.2
        exact ab_rf_ok h (by omega) (by omega)
      | false =>
        cases h1 : (ab_ile z.2 q.2 && ab_ile q.2 z.2) with
        | true =>
          have h2 := (Bool.and_eq_true _ _).mp h1
          have h3 := ab_ile_iff.mp h2.1
          have h4 := ab_ile_iff.mp h2.2
          exact ab_rf_ok h (by omega) (by omega)
        | false => exact h
  · exact h
theorem ab_at_ok {ρ : List Int} {E : ab_E} (h : ab_ok ρ E) {cd : ClassFile.Cond} {p q : Nat × Int} (hd : ab_ic cd (ρ.getD p.1 0 + p.2) (ρ.getD q.1 0 + q.2)) : ab_ok ρ (ab_at cd E p q) := by
  cases cd
  case eq =>
    have hd : _ = _ := hd
    exact ab_as_ok (ab_as_ok h (by omega)) (by omega)
  case ne => exact ab_ae_ok h hd
  case lt =>
    have hd : _ < _ := hd
    exact ab_as_ok h (by simp only [ab_up]; omega)
  case ge => exact ab_as_ok h hd
  case gt =>
    have hd : _ < _ := hd
    exact ab_as_ok h (by simp only [ab_up]; omega)
  case le => exact ab_as_ok h hd
/-- the machine's comparing, where both are in reach -/
theorem ab_toInt {x : Int} (h1 : -2147483648 ≤ x) (h2 : x ≤ 2147483647) : (Int32.ofInt x).toInt = x := Int32.toInt_ofInt_of_le (by simpa using h1) (by simpa using (show x < 2147483648 by omega))
theorem ab_cd {cd : ClassFile.Cond} {x y : Int} (hx : -2147483648 ≤ x ∧ x ≤ 2147483647) (hy : -2147483648 ≤ y ∧ y ≤ 2147483647) : sm_cd cd (Int32.ofInt x) (Int32.ofInt y) = true ↔ ab_ic cd x y := by
  have e1 := ab_toInt hx.1 hx.2
  have e2 := ab_toInt hy.1 hy.2
  cases cd <;> simp only [sm_cd, ab_ic, decide_eq_true_eq, Int32.lt_iff_toInt_lt, Int32.le_iff_toInt_le, ← Int32.toInt_inj, e1, e2]
