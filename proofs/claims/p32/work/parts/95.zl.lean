/-! What bounds say of a path, run by the kernel: the numbers. -/
abbrev zA : Type := (Nat × Int) ⊕ (Int × Int)
def zF32 : zA := .inr (-2147483648, 2147483647)
def zF64 : zA := .inr (-9223372036854775808, 9223372036854775807)
def zAk (ρ : List Int) (x : Int) (a : zA) : Prop := match a with
  | .inl p => p.1 < ρ.length ∧ x = ρ.getD p.1 0 + p.2
  | .inr z => z.1 ≤ x ∧ x ≤ z.2
def zo1 (p q : Nat × Int) (z w : Int × Int) (n : Int × Int → Bool) (f : zA) : zA := bif n (z.1 + w.1, z.2 + w.2) then (bif ab_ile z.2 z.1 then .inl (q.1, q.2 + z.1) else bif ab_ile w.2 w.1 then .inl (p.1, p.2 + w.1) else .inr (z.1 + w.1, z.2 + w.2)) else f
def zo2 (p q : Nat × Int) (z w : Int × Int) (n : Int × Int → Bool) (f : zA) : zA := bif n (z.1 - w.2, z.2 - w.1) then (bif ab_ile w.2 w.1 then .inl (p.1, p.2 - w.1) else .inr (z.1 - w.2, z.2 - w.1)) else f
def zo3 (z w : Int × Int) (n : Int × Int → Bool) (f : zA) : zA := bif ab_ile 0 z.1 && (ab_ile 0 w.1 && n (z.1 * w.1, z.2 * w.2)) then .inr (z.1 * w.1, z.2 * w.2) else f
def zo9 (q : Nat × Int) (z : Int × Int) (a : zA) : zA := bif ab_pos q && (ab_ile 0 z.1 && ab_ile z.2 2147483647) then a else zF32
def zo11 (z : Int × Int) (n : Int × Int → Bool) (f : zA) : zA := bif n (-z.2, -z.1) then .inr (-z.2, -z.1) else f
def zop (k c : Nat) (E : ab_E) (p q : Nat × Int) : zA := match ab_rg E p, ab_rg E q with
  | some z, some w => (match k with
    | 0 => (match c with
      | 1 => zo1 p q z w ab_n32 zF32
      | 2 => zo2 p q z w ab_n32 zF32
      | 3 => zo3 z w ab_n32 zF32
      | 9 => zo9 q z (.inr (0, z.2))
      | 10 => zo9 q z (.inr (0, q.2 - 1))
      | 11 => zo11 z ab_n32 zF32
      | 12 => .inr (-128, 127)
      | _ => zF32)
    | 1 => (match c with
      | 1 => zo1 p q z w ab_n64 zF64
      | 2 => zo2 p q z w ab_n64 zF64
      | 3 => zo3 z w ab_n64 zF64
      | _ => zF64)
    | 2 => bif ab_n32 z then .inl p else zF32
    | _ => zF32)
  | _, _ => bif Nat.beq k 1 then zF64 else zF32
theorem zd_32 {k c : Nat} {x y : Int} (hk : ¬ k = 1) : z32 (zd k c x y) := by
  unfold zd
  split
  · exact z32_to _
  · exact absurd rfl hk
  · exact z32_to _
  · exact z32_to _
theorem zd_64 {c : Nat} {x y : Int} : z64 (zd 1 c x y) := z64_to _
theorem ab_n32_ok {z : Int × Int} (h : ab_n32 z = true) : -2147483648 ≤ z.1 ∧ z.2 ≤ 2147483647 := by
  have h1 := (Bool.and_eq_true _ _).mp h
  exact ⟨ab_ile_iff.mp h1.1, ab_ile_iff.mp h1.2⟩
theorem ab_n64_ok {z : Int × Int} (h : ab_n64 z = true) : -9223372036854775808 ≤ z.1 ∧ z.2 ≤ 9223372036854775807 := by
  have h1 := (Bool.and_eq_true _ _).mp h
  exact ⟨ab_ile_iff.mp h1.1, ab_ile_iff.mp h1.2⟩
theorem zd_a {x y : Int} (h : z32 (x + y)) : zd 0 1 x y = x + y := by
  show (Int32.ofInt x + Int32.ofInt y).toInt = x + y
  rw [← Int32.ofInt_add, z32_of h]
theorem zd_s {x y : Int} (h : z32 (x - y)) : zd 0 2 x y = x - y := by
  show (Int32.ofInt x - Int32.ofInt y).toInt = x - y
  rw [← Int32.ofInt_sub, z32_of h]
theorem zd_m {x y : Int} (h : z32 (x * y)) : zd 0 3 x y = x * y := by
  show (Int32.ofInt x * Int32.ofInt y).toInt = x * y
  rw [← Int32.ofInt_mul, z32_of h]
theorem zd_n {x y : Int} (h : z32 (-x)) : zd 0 11 x y = -x := by
  show (- Int32.ofInt x).toInt = -x
  rw [← Int32.ofInt_neg, z32_of h]
theorem zd_la {x y : Int} (h : z64 (x + y)) : zd 1 1 x y = x + y := by
  show (Int64.ofInt x + Int64.ofInt y).toInt = x + y
  rw [← Int64.ofInt_add, z64_of h]
theorem zd_ls {x y : Int} (h : z64 (x - y)) : zd 1 2 x y = x - y := by
  show (Int64.ofInt x - Int64.ofInt y).toInt = x - y
  rw [← Int64.ofInt_sub, z64_of h]
theorem zd_lm {x y : Int} (h : z64 (x * y)) : zd 1 3 x y = x * y := by
  show (Int64.ofInt x * Int64.ofInt y).toInt = x * y
  rw [← Int64.ofInt_mul, z64_of h]
theorem zd_d {x k : Int} (h0 : 0 ≤ x) (h1 : x ≤ 2147483647) (h2 : 1 ≤ k) (h3 : k ≤ 2147483647) : zd 0 9 x k = x / k := by
  show (Int32.ofInt x / Int32.ofInt k).toInt = x / k
  rw [ab_idiv h0 h1 h2 h3, z32_of]
  have a := Int.ediv_nonneg h0 (by omega : (0 : Int) ≤ k)
  have b := Int.ediv_le_self k h0
  exact ⟨by omega, by omega⟩
theorem zd_r {x k : Int} (h0 : 0 ≤ x) (h1 : x ≤ 2147483647) (h2 : 1 ≤ k) (h3 : k ≤ 2147483647) : zd 0 10 x k = x % k := by
  show (Int32.ofInt x - Int32.ofInt x / Int32.ofInt k * Int32.ofInt k).toInt = x % k
  rw [ab_irem h0 h1 h2 h3, z32_of]
  have a := Int.emod_nonneg x (by omega : ¬ k = 0)
  have b := Int.emod_lt_of_pos x (by omega : 0 < k)
  exact ⟨by omega, by omega⟩
theorem zd_c {c : Nat} {x y : Int} (h : z32 x) : zd 2 c x y = x := by
  show (Int64.ofInt x).toInt32.toInt = x
  rw [Int64.toInt_toInt32, z64_of (z32_64 h)]
  have := h.1
  have := h.2
  apply Int.bmod_eq_of_le <;> omega
theorem zd_b {x y : Int} : -128 ≤ zd 0 12 x y ∧ zd 0 12 x y ≤ 127 := by
  show -128 ≤ (Int32.ofInt x).toInt8.toInt32.toInt ∧ (Int32.ofInt x).toInt8.toInt32.toInt ≤ 127
  rw [Int8.toInt_toInt32]
  have h1 := Int8.le_toInt (Int32.ofInt x).toInt8
  have h2 := Int8.toInt_le (Int32.ofInt x).toInt8
  rw [show Int8.maxValue.toInt = 127 by decide] at h2
  exact ⟨by simpa using h1, h2⟩
theorem zF32_ok {ρ : List Int} {k c : Nat} {x y : Int} (hk : ¬ k = 1) : zAk ρ (zd k c x y) zF32 := zd_32 hk
theorem zF64_ok {ρ : List Int} {c : Nat} {x y : Int} : zAk ρ (zd 1 c x y) zF64 := zd_64
theorem zo1_ok {ρ : List Int} {E : ab_E} {p q : Nat × Int} {z w : Int × Int} {n : Int × Int → Bool} {f : zA} {x : Int} (h : ab_ok ρ E) (hz : ab_rg E p = some z) (hw : ab_rg E q = some w) (h1 : n (z.1 + w.1, z.2 + w.2) = true → x = (ρ.getD p.1 0 + p.2) + (ρ.getD q.1 0 + q.2)) (h2 : zAk ρ x f) : zAk ρ x (zo1 p q z w n f) := by
  have a := ab_rg_ok h hz
  have b := ab_rg_ok h hw
  have h00 := h.2.1
  unfold zo1
  cases hn : n (z.1 + w.1, z.2 + w.2) with
  | false => exact h2
  | true =>
    have e := h1 hn
    cases hp : ab_ile z.2 z.1 with
    | true =>
      have := ab_ile_iff.mp hp
      exact ⟨b.1, by rw [e]; dsimp only; omega⟩
    | false =>
      cases hq : ab_ile w.2 w.1 with
      | true =>
        have := ab_ile_iff.mp hq
        exact ⟨a.1, by rw [e]; dsimp only; omega⟩
      | false => exact ⟨by rw [e]; dsimp only; omega, by rw [e]; dsimp only; omega⟩
theorem zo2_ok {ρ : List Int} {E : ab_E} {p q : Nat × Int} {z w : Int × Int} {n : Int × Int → Bool} {f : zA} {x : Int} (h : ab_ok ρ E) (hz : ab_rg E p = some z) (hw : ab_rg E q = some w) (h1 : n (z.1 - w.2, z.2 - w.1) = true → x = (ρ.getD p.1 0 + p.2) - (ρ.getD q.1 0 + q.2)) (h2 : zAk ρ x f) : zAk ρ x (zo2 p q z w n f) := by
  have a := ab_rg_ok h hz
  have b := ab_rg_ok h hw
  have h00 := h.2.1
  unfold zo2
  cases hn : n (z.1 - w.2, z.2 - w.1) with
  | false => exact h2
  | true =>
    have e := h1 hn
    cases hq : ab_ile w.2 w.1 with
    | true =>
      have := ab_ile_iff.mp hq
      exact ⟨a.1, by rw [e]; dsimp only; omega⟩
    | false => exact ⟨by rw [e]; dsimp only; omega, by rw [e]; dsimp only; omega⟩
theorem zo3_ok {ρ : List Int} {E : ab_E} {p q : Nat × Int} {z w : Int × Int} {n : Int × Int → Bool} {f : zA} {x : Int} (h : ab_ok ρ E) (hz : ab_rg E p = some z) (hw : ab_rg E q = some w) (h1 : n (z.1 * w.1, z.2 * w.2) = true → z.1 * w.1 ≤ (ρ.getD p.1 0 + p.2) * (ρ.getD q.1 0 + q.2) → (ρ.getD p.1 0 + p.2) * (ρ.getD q.1 0 + q.2) ≤ z.2 * w.2 → x = (ρ.getD p.1 0 + p.2) * (ρ.getD q.1 0 + q.2)) (h2 : zAk ρ x f) : zAk ρ x (zo3 z w n f) := by
  have a := ab_rg_ok h hz
  have b := ab_rg_ok h hw
  unfold zo3
  cases hn : (ab_ile 0 z.1 && (ab_ile 0 w.1 && n (z.1 * w.1, z.2 * w.2))) with
  | false => exact h2
  | true =>
    obtain ⟨c1, c2, c3⟩ := ab_and3 hn
    have c1 := ab_ile_iff.mp c1
    have c2 := ab_ile_iff.mp c2
    have l1 := Int.mul_le_mul a.2.1 b.2.1 c2 (by omega : 0 ≤ ρ.getD p.1 0 + p.2)
    have l2 := Int.mul_le_mul a.2.2 b.2.2 (by omega : 0 ≤ ρ.getD q.1 0 + q.2) (by omega : 0 ≤ z.2)
    have e := h1 c3 l1 l2
    exact ⟨by rw [e]; exact l1, by rw [e]; exact l2⟩
theorem zop_ok {ρ : List Int} {E : ab_E} {k c : Nat} {p q : Nat × Int} (h : ab_ok ρ E) : zAk ρ (zd k c (ρ.getD p.1 0 + p.2) (ρ.getD q.1 0 + q.2)) (zop k c E p q) := by
  unfold zop
  split
  · next z w hz hw =>
    have a := ab_rg_ok h hz
    have b := ab_rg_ok h hw
    split
    · split
      · refine zo1_ok h hz hw (fun hn => zd_a ?_) (zF32_ok (by decide))
        have := ab_n32_ok hn
        dsimp only at this
        exact ⟨by omega, by omega⟩
      · refine zo2_ok h hz hw (fun hn => zd_s ?_) (zF32_ok (by decide))
        have := ab_n32_ok hn
        dsimp only at this
        exact ⟨by omega, by omega⟩
      · refine zo3_ok h hz hw (fun hn l1 l2 => zd_m ?_) (zF32_ok (by decide))
        have := ab_n32_ok hn
        dsimp only at this
        exact ⟨by omega, by omega⟩
      · unfold zo9
        cases hb : (ab_pos q && (ab_ile 0 z.1 && ab_ile z.2 2147483647)) with
        | false => exact zF32_ok (by decide)
        | true =>
          obtain ⟨c1, c2, c3⟩ := ab_and3 hb
          obtain ⟨d1, d2, d3⟩ := ab_pos_ok c1
          have c2 := ab_ile_iff.mp c2
          have c3 := ab_ile_iff.mp c3
          rw [d1, h.2.1, Int.zero_add, zd_d (by omega) (by omega) d2 d3]
          have e1 := Int.ediv_nonneg (by omega : 0 ≤ ρ.getD p.1 0 + p.2) (by omega : (0 : Int) ≤ q.2)
          have e2 := Int.ediv_le_self q.2 (by omega : 0 ≤ ρ.getD p.1 0 + p.2)
          exact ⟨e1, by dsimp only; omega⟩
      · unfold zo9
        cases hb : (ab_pos q && (ab_ile 0 z.1 && ab_ile z.2 2147483647)) with
        | false => exact zF32_ok (by decide)
        | true =>
          obtain ⟨c1, c2, c3⟩ := ab_and3 hb
          obtain ⟨d1, d2, d3⟩ := ab_pos_ok c1
          have c2 := ab_ile_iff.mp c2
          have c3 := ab_ile_iff.mp c3
          rw [d1, h.2.1, Int.zero_add, zd_r (by omega) (by omega) d2 d3]
          have e1 := Int.emod_nonneg (ρ.getD p.1 0 + p.2) (by omega : ¬ q.2 = 0)
          have e2 := Int.emod_lt_of_pos (ρ.getD p.1 0 + p.2) (by omega : 0 < q.2)
          exact ⟨e1, by dsimp only; omega⟩
      · unfold zo11
        cases hn : ab_n32 (-z.2, -z.1) with
        | false => exact zF32_ok (by decide)
        | true =>
          have := ab_n32_ok hn
          dsimp only at this
          rw [zd_n ⟨by omega, by omega⟩]
          exact ⟨by dsimp only; omega, by dsimp only; omega⟩
      · exact zd_b
      · exact zF32_ok (by decide)
    · split
      · refine zo1_ok h hz hw (fun hn => zd_la ?_) zF64_ok
        have := ab_n64_ok hn
        dsimp only at this
        exact ⟨by omega, by omega⟩
      · refine zo2_ok h hz hw (fun hn => zd_ls ?_) zF64_ok
        have := ab_n64_ok hn
        dsimp only at this
        exact ⟨by omega, by omega⟩
      · refine zo3_ok h hz hw (fun hn l1 l2 => zd_lm ?_) zF64_ok
        have := ab_n64_ok hn
        dsimp only at this
        exact ⟨by omega, by omega⟩
      · exact zF64_ok
    · cases hn : ab_n32 z with
      | false => exact zF32_ok (by decide)
      | true =>
        have := ab_n32_ok hn
        refine ⟨a.1, ?_⟩
        exact zd_c ⟨by omega, by omega⟩
    · next h0 h1 h2 => exact zF32_ok h1
  · cases hb : Nat.beq k 1 with
    | true =>
      rw [Nat.eq_of_beq_eq_true hb]
      exact zF64_ok
    | false => exact zF32_ok (fun w => by rw [w] at hb; cases hb)
