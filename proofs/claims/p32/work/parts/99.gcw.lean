/-! Bytes fed to both. -/
def yf_b (sh a : Int) (s : zE) : zE := yp_inc 0 1 (zup s 1 (s 0 1).toNat (zd 0 12 (zd 0 12 (zd 0 7 a sh) (zd 0 7 a sh)) (zd 0 12 (zd 0 7 a sh) (zd 0 7 a sh))))
def yf_p (a : Int) (s : zE) : zE := yf_b 0 a (yf_b 8 a (yf_b 16 a (yf_b 24 a s)))
def yf_c (a b c d e : Int) (s : zE) : zE := yf_p e (yf_p d (yf_p c (yf_p b (yf_p a s))))
def yf_ar (a b c d e k : Int) : Int := if k < 4 then a else if k < 8 then b else if k < 12 then c else if k < 16 then d else e
def yf_v (a b c d e k : Int) : Int := zd 0 4 (zd 0 7 (yf_ar a b c d e k) (zd 0 2 24 (zd 0 3 8 (zd 0 10 k 4)))) 255
def yf_m (a b c d e : Int) (s : zE) : Nat → zE
  | 0 => zup s 0 2 0
  | k + 1 => zup (yf_m a b c d e s k) 1 (zd 0 1 (yf_m a b c d e s k 0 1) k).toNat (yf_v a b c d e k)
def yf_q (a b c d e : Int) (s : zE) : zE := zup (yf_m a b c d e s 20) 0 1 (zd 0 1 (yf_m a b c d e s 20 0 1) 20)
def yf_g (β : Nat → Int) (s : zE) : Nat → zE
  | 0 => s
  | k + 1 => yp_inc 0 1 (zup (yf_g β s k) 1 (yf_g β s k 0 1).toNat (β k))
def yf_be (a b c d e : Int) (k : Nat) : Int := zd 0 12 (zd 0 12 (zd 0 7 (yf_ar a b c d e k) (24 - 8 * ((k : Int) % 4))) (zd 0 7 (yf_ar a b c d e k) (24 - 8 * ((k : Int) % 4)))) (zd 0 12 (zd 0 7 (yf_ar a b c d e k) (24 - 8 * ((k : Int) % 4))) (zd 0 7 (yf_ar a b c d e k) (24 - 8 * ((k : Int) % 4))))
theorem yf_cg {a b c d e : Int} {s : zE} : yf_c a b c d e s = yf_g (yf_be a b c d e) s 20 := rfl
theorem yf_g1 {β : Nat → Int} {s : zE} (h0 : 0 ≤ s 0 1) : ∀ k : Nat, s 0 1 + k ≤ 700 → yf_g β s k 0 1 = s 0 1 + k ∧ (∀ j : Nat, yf_g β s k 1 j = if s 0 1 ≤ (j : Int) ∧ (j : Int) < s 0 1 + k then β (j - (s 0 1).toNat) else s 1 j) ∧ ∀ r j, ¬ r = 1 → ¬ (r = 0 ∧ j = 1) → yf_g β s k r j = s r j
  | 0, h => by
    rw [yf_g]
    exact ⟨by omega, fun j => by rw [if_neg (by omega)], fun _ _ _ _ => rfl⟩
  | k + 1, h => by
    obtain ⟨i1, i2, i3⟩ := yf_g1 (β := β) h0 k (by omega)
    rw [yf_g]
    unfold yp_inc
    have e : zup (yf_g β s k) 1 (yf_g β s k 0 1).toNat (β k) 0 1 = s 0 1 + k := by rw [zup_ne (fun e _ => absurd e (by decide)), i1]
    rw [e, show zd 0 1 (s 0 1 + (k : Int)) 1 = s 0 1 + (k : Int) + 1 from zd_a ⟨by omega, by omega⟩]
    refine ⟨by rw [zup_eq]; omega, fun j => ?_, fun r j h1 h2 => ?_⟩
    · rw [zup_ne (fun e _ => absurd e (by decide)), i1]
      by_cases q : j = (s 0 1 + (k : Int)).toNat
      · rw [q, zup_eq, if_pos (by omega), show (s 0 1 + (k : Int)).toNat - (s 0 1).toNat = k by omega]
      · rw [zup_ne (fun _ f => q f), i2 j]
        by_cases q2 : s 0 1 ≤ (j : Int) ∧ (j : Int) < s 0 1 + k
        · rw [if_pos q2, if_pos (by omega)]
        · rw [if_neg q2, if_neg (by omega)]
    · rw [zup_ne (fun e f => h2 ⟨e, f⟩), zup_ne (fun e _ => h1 e)]
      exact i3 r j h1 h2
theorem yf_m1 {a b c d e : Int} {m : zE} (h0 : 0 ≤ m 0 1) : ∀ k : Nat, m 0 1 + k ≤ 700 → yf_m a b c d e m k 0 1 = m 0 1 ∧ (∀ j : Nat, yf_m a b c d e m k 1 j = if m 0 1 ≤ (j : Int) ∧ (j : Int) < m 0 1 + k then yf_v a b c d e ((j - (m 0 1).toNat : Nat) : Int) else m 1 j) ∧ ∀ r j, ¬ r = 1 → ¬ (r = 0 ∧ j = 2) → yf_m a b c d e m k r j = m r j
  | 0, h => by
    rw [yf_m]
    exact ⟨rfl, fun j => by rw [if_neg (by omega)]; rfl, fun r j h1 h2 => zup_ne (fun e f => h2 ⟨e, f⟩)⟩
  | k + 1, h => by
    obtain ⟨i1, i2, i3⟩ := yf_m1 (a := a) (b := b) (c := c) (d := d) (e := e) h0 k (by omega)
    rw [yf_m, i1, show zd 0 1 (m 0 1) (k : Int) = m 0 1 + (k : Int) from zd_a ⟨by omega, by omega⟩]
    refine ⟨by rw [zup_ne (fun e _ => absurd e (by decide)), i1], fun j => ?_, fun r j h1 h2 => ?_⟩
    · by_cases q : j = (m 0 1 + (k : Int)).toNat
      · rw [q, zup_eq, if_pos (by omega), show (m 0 1 + (k : Int)).toNat - (m 0 1).toNat = k by omega]
      · rw [zup_ne (fun _ f => q f), i2 j]
        by_cases q2 : m 0 1 ≤ (j : Int) ∧ (j : Int) < m 0 1 + k
        · rw [if_pos q2, if_pos (by omega)]
        · rw [if_neg q2, if_neg (by omega)]
    · rw [zup_ne (fun e _ => h1 e)]
      exact i3 r j h1 h2
theorem zb_by (x : Int32) : zb_r x.toInt8.toInt32.toInt8.toInt32.toInt (x &&& 255).toInt := by
  have e1 : x.toInt8.toInt32.toInt8.toInt32.toInt = x.toInt.bmod 256 := by
    rw [Int8.toInt_toInt32, Int32.toInt_toInt8, Int8.toInt_toInt32, Int32.toInt_toInt8]
    exact Int.bmod_bmod
  have e2 : (x &&& 255).toInt = x.toInt % 256 := by
    have h : (x &&& 255).toBitVec.toNat = x.toBitVec.toNat % 256 := by
      rw [Int32.toBitVec_and, BitVec.toNat_and]
      exact Nat.and_two_pow_sub_one_eq_mod _ 8
    have g : (x &&& 255).toInt = ((x &&& 255).toBitVec.toNat : Int) := by
      show (x &&& 255).toBitVec.toInt = _
      rw [BitVec.toInt_eq_toNat_of_lt (by rw [h]; omega)]
    rw [g, h]
    have : x.toInt = x.toBitVec.toInt := rfl
    rw [this, BitVec.toInt_eq_toNat_bmod, Int.bmod_def]
    split <;> omega
  rw [e1, e2, Int.bmod_def]
  unfold zb_r
  split <;> omega
theorem yf_sh : ∀ k : Nat, k < 20 → zd 0 2 24 (zd 0 3 8 (zd 0 10 (k : Int) 4)) = 24 - 8 * ((k : Int) % 4) := by decide +kernel
theorem yf_zb {a b c d e : Int} {k : Nat} (h : k < 20) : zb_r (yf_be a b c d e k) (yf_v a b c d e k) := by
  unfold yf_be yf_v
  rw [yf_sh k h]
  have z : ∀ x : Int32, zb_r (zd 0 12 (zd 0 12 x.toInt x.toInt) (zd 0 12 x.toInt x.toInt)) (zd 0 4 x.toInt 255) := fun x => by
    have g := zb_by x
    show zb_r ((Int32.ofInt (Int32.ofInt x.toInt).toInt8.toInt32.toInt).toInt8.toInt32).toInt ((Int32.ofInt x.toInt) &&& (Int32.ofInt 255)).toInt
    rw [Int32.ofInt_toInt, Int32.ofInt_toInt]
    exact g
  exact z _
theorem zf_bytes {s m : zE} {a b c d e : Int} (h0 : 0 ≤ s 0 1) (h1 : s 0 1 + 20 ≤ 700) (hN : s 0 1 = m 0 1) (hb : ∀ j : Nat, (j : Int) < s 0 1 → zb_r (s 1 j) (m 1 j)) : yf_c a b c d e s 0 1 = s 0 1 + 20 ∧ yf_q a b c d e m 0 1 = s 0 1 + 20 ∧ ∀ j : Nat, (j : Int) < s 0 1 + 20 → zb_r (yf_c a b c d e s 1 j) (yf_q a b c d e m 1 j) := by
  rw [yf_cg]
  obtain ⟨c1, c2, c3⟩ := yf_g1 (β := yf_be a b c d e) h0 20 (by omega)
  obtain ⟨m1, m2, m3⟩ := yf_m1 (a := a) (b := b) (c := c) (d := d) (e := e) (m := m) (by omega) 20 (by omega)
  have q1 : ∀ j, yf_q a b c d e m 1 j = yf_m a b c d e m 20 1 j := fun j => zup_ne (fun e _ => absurd e (by decide))
  refine ⟨by rw [c1]; rfl, ?_, fun j hj => ?_⟩
  · unfold yf_q
    rw [zup_eq, m1, ← hN]
    exact zd_a ⟨by omega, by omega⟩
  · rw [q1, c2, m2, ← hN]
    by_cases q : s 0 1 ≤ (j : Int) ∧ (j : Int) < s 0 1 + (20 : Nat)
    · rw [if_pos q, if_pos q]
      exact yf_zb (by omega)
    · rw [if_neg q, if_neg q]
      exact hb j (by omega)
