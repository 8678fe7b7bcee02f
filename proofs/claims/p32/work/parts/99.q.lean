/-! The law's state there: numbers, by the tree of what is known. -/
def lu_w (l : List (Nat × Nat)) (r : Nat) : Nat := match l.find? (fun q => Nat.beq q.1 r) with
  | some q => q.2
  | none => 0
def al_c : List (Nat × Nat) := [(nat_lit 0, nat_lit 0), (nat_lit 1, nat_lit 1), (nat_lit 2, nat_lit 2), (nat_lit 3, nat_lit 3), (nat_lit 4, nat_lit 4), (nat_lit 5, nat_lit 5), (nat_lit 6, nat_lit 6), (nat_lit 7, nat_lit 7), (nat_lit 8, nat_lit 8), (nat_lit 9, nat_lit 9), (nat_lit 10, nat_lit 10), (nat_lit 11, nat_lit 11), (nat_lit 12, nat_lit 12), (nat_lit 13, nat_lit 13), (nat_lit 14, nat_lit 14), (nat_lit 15, nat_lit 15), (nat_lit 16, nat_lit 16), (nat_lit 17, nat_lit 17), (nat_lit 18, nat_lit 18), (nat_lit 19, nat_lit 19), (nat_lit 20, nat_lit 20), (nat_lit 21, nat_lit 21), (nat_lit 22, nat_lit 22), (nat_lit 32, nat_lit 23), (nat_lit 33, nat_lit 24), (nat_lit 34, nat_lit 25), (nat_lit 35, nat_lit 26), (nat_lit 36, nat_lit 27), (nat_lit 37, nat_lit 28), (nat_lit 38, nat_lit 29), (nat_lit 39, nat_lit 30), (nat_lit 40, nat_lit 31), (nat_lit 41, nat_lit 32), (nat_lit 42, nat_lit 33), (nat_lit 43, nat_lit 34), (nat_lit 44, nat_lit 35), (nat_lit 45, nat_lit 36), (nat_lit 46, nat_lit 37), (nat_lit 47, nat_lit 38), (nat_lit 48, nat_lit 39), (nat_lit 49, nat_lit 40), (nat_lit 50, nat_lit 41), (nat_lit 51, nat_lit 42), (nat_lit 52, nat_lit 43), (nat_lit 60, nat_lit 44), (nat_lit 61, nat_lit 45), (nat_lit 62, nat_lit 46), (nat_lit 63, nat_lit 47), (nat_lit 70, nat_lit 48), (nat_lit 71, nat_lit 49), (nat_lit 72, nat_lit 50), (nat_lit 73, nat_lit 51), (nat_lit 74, nat_lit 52), (nat_lit 75, nat_lit 53), (nat_lit 76, nat_lit 54), (nat_lit 77, nat_lit 55), (nat_lit 78, nat_lit 56), (nat_lit 79, nat_lit 57), (nat_lit 80, nat_lit 58), (nat_lit 81, nat_lit 59), (nat_lit 82, nat_lit 60), (nat_lit 83, nat_lit 61), (nat_lit 84, nat_lit 62), (nat_lit 85, nat_lit 63), (nat_lit 90, nat_lit 64), (nat_lit 91, nat_lit 65), (nat_lit 92, nat_lit 66), (nat_lit 93, nat_lit 67), (nat_lit 94, nat_lit 68), (nat_lit 95, nat_lit 69), (nat_lit 96, nat_lit 70), (nat_lit 97, nat_lit 71), (nat_lit 98, nat_lit 72), (nat_lit 99, nat_lit 73), (nat_lit 100, nat_lit 74), (nat_lit 101, nat_lit 75)]
def al_m : List (Nat × Nat) := [(nat_lit 0, nat_lit 76), (nat_lit 1, nat_lit 77), (nat_lit 2, nat_lit 78), (nat_lit 3, nat_lit 79), (nat_lit 4, nat_lit 80), (nat_lit 5, nat_lit 81), (nat_lit 6, nat_lit 82), (nat_lit 7, nat_lit 83), (nat_lit 8, nat_lit 84), (nat_lit 9, nat_lit 85), (nat_lit 10, nat_lit 86), (nat_lit 11, nat_lit 87), (nat_lit 12, nat_lit 88), (nat_lit 13, nat_lit 89), (nat_lit 14, nat_lit 90), (nat_lit 15, nat_lit 91), (nat_lit 16, nat_lit 92), (nat_lit 17, nat_lit 93), (nat_lit 18, nat_lit 94), (nat_lit 19, nat_lit 95), (nat_lit 20, nat_lit 96), (nat_lit 21, nat_lit 97), (nat_lit 22, nat_lit 98), (nat_lit 23, nat_lit 99), (nat_lit 24, nat_lit 100), (nat_lit 25, nat_lit 101), (nat_lit 26, nat_lit 102), (nat_lit 27, nat_lit 103), (nat_lit 28, nat_lit 104), (nat_lit 29, nat_lit 105), (nat_lit 30, nat_lit 106), (nat_lit 31, nat_lit 107), (nat_lit 32, nat_lit 108), (nat_lit 33, nat_lit 109), (nat_lit 34, nat_lit 110), (nat_lit 35, nat_lit 111), (nat_lit 36, nat_lit 112), (nat_lit 37, nat_lit 113), (nat_lit 38, nat_lit 114), (nat_lit 39, nat_lit 115), (nat_lit 40, nat_lit 116), (nat_lit 41, nat_lit 117), (nat_lit 42, nat_lit 118)]
def il_c : List (Nat × Nat) := [(nat_lit 0, nat_lit 0), (nat_lit 1, nat_lit 1), (nat_lit 2, nat_lit 2), (nat_lit 3, nat_lit 3), (nat_lit 4, nat_lit 4), (nat_lit 5, nat_lit 5), (nat_lit 6, nat_lit 6), (nat_lit 7, nat_lit 7), (nat_lit 8, nat_lit 8), (nat_lit 9, nat_lit 9), (nat_lit 10, nat_lit 10), (nat_lit 11, nat_lit 11), (nat_lit 12, nat_lit 12), (nat_lit 13, nat_lit 13), (nat_lit 14, nat_lit 14), (nat_lit 15, nat_lit 15), (nat_lit 16, nat_lit 16), (nat_lit 17, nat_lit 17), (nat_lit 18, nat_lit 18), (nat_lit 19, nat_lit 19), (nat_lit 20, nat_lit 20), (nat_lit 21, nat_lit 21), (nat_lit 22, nat_lit 22), (nat_lit 23, nat_lit 32), (nat_lit 24, nat_lit 33), (nat_lit 25, nat_lit 34), (nat_lit 26, nat_lit 35), (nat_lit 27, nat_lit 36), (nat_lit 28, nat_lit 37), (nat_lit 29, nat_lit 38), (nat_lit 30, nat_lit 39), (nat_lit 31, nat_lit 40), (nat_lit 32, nat_lit 41), (nat_lit 33, nat_lit 42), (nat_lit 34, nat_lit 43), (nat_lit 35, nat_lit 44), (nat_lit 36, nat_lit 45), (nat_lit 37, nat_lit 46), (nat_lit 38, nat_lit 47), (nat_lit 39, nat_lit 48), (nat_lit 40, nat_lit 49), (nat_lit 41, nat_lit 50), (nat_lit 42, nat_lit 51), (nat_lit 43, nat_lit 52), (nat_lit 44, nat_lit 60), (nat_lit 45, nat_lit 61), (nat_lit 46, nat_lit 62), (nat_lit 47, nat_lit 63), (nat_lit 48, nat_lit 70), (nat_lit 49, nat_lit 71), (nat_lit 50, nat_lit 72), (nat_lit 51, nat_lit 73), (nat_lit 52, nat_lit 74), (nat_lit 53, nat_lit 75), (nat_lit 54, nat_lit 76), (nat_lit 55, nat_lit 77), (nat_lit 56, nat_lit 78), (nat_lit 57, nat_lit 79), (nat_lit 58, nat_lit 80), (nat_lit 59, nat_lit 81), (nat_lit 60, nat_lit 82), (nat_lit 61, nat_lit 83), (nat_lit 62, nat_lit 84), (nat_lit 63, nat_lit 85), (nat_lit 64, nat_lit 90), (nat_lit 65, nat_lit 91), (nat_lit 66, nat_lit 92), (nat_lit 67, nat_lit 93), (nat_lit 68, nat_lit 94), (nat_lit 69, nat_lit 95), (nat_lit 70, nat_lit 96), (nat_lit 71, nat_lit 97), (nat_lit 72, nat_lit 98), (nat_lit 73, nat_lit 99), (nat_lit 74, nat_lit 100), (nat_lit 75, nat_lit 101)]
def il_m : List (Nat × Nat) := [(nat_lit 76, nat_lit 0), (nat_lit 77, nat_lit 1), (nat_lit 78, nat_lit 2), (nat_lit 79, nat_lit 3), (nat_lit 80, nat_lit 4), (nat_lit 81, nat_lit 5), (nat_lit 82, nat_lit 6), (nat_lit 83, nat_lit 7), (nat_lit 84, nat_lit 8), (nat_lit 85, nat_lit 9), (nat_lit 86, nat_lit 10), (nat_lit 87, nat_lit 11), (nat_lit 88, nat_lit 12), (nat_lit 89, nat_lit 13), (nat_lit 90, nat_lit 14), (nat_lit 91, nat_lit 15), (nat_lit 92, nat_lit 16), (nat_lit 93, nat_lit 17), (nat_lit 94, nat_lit 18), (nat_lit 95, nat_lit 19), (nat_lit 96, nat_lit 20), (nat_lit 97, nat_lit 21), (nat_lit 98, nat_lit 22), (nat_lit 99, nat_lit 23), (nat_lit 100, nat_lit 24), (nat_lit 101, nat_lit 25), (nat_lit 102, nat_lit 26), (nat_lit 103, nat_lit 27), (nat_lit 104, nat_lit 28), (nat_lit 105, nat_lit 29), (nat_lit 106, nat_lit 30), (nat_lit 107, nat_lit 31), (nat_lit 108, nat_lit 32), (nat_lit 109, nat_lit 33), (nat_lit 110, nat_lit 34), (nat_lit 111, nat_lit 35), (nat_lit 112, nat_lit 36), (nat_lit 113, nat_lit 37), (nat_lit 114, nat_lit 38), (nat_lit 115, nat_lit 39), (nat_lit 116, nat_lit 40), (nat_lit 117, nat_lit 41), (nat_lit 118, nat_lit 42)]
def sl_l : List (Nat × Nat) := [(nat_lit 0, nat_lit 1), (nat_lit 1, nat_lit 1), (nat_lit 2, nat_lit 1), (nat_lit 3, nat_lit 1), (nat_lit 4, nat_lit 1), (nat_lit 5, nat_lit 1), (nat_lit 6, nat_lit 1), (nat_lit 7, nat_lit 1), (nat_lit 8, nat_lit 1), (nat_lit 9, nat_lit 1), (nat_lit 10, nat_lit 1), (nat_lit 11, nat_lit 1), (nat_lit 12, nat_lit 1), (nat_lit 13, nat_lit 1), (nat_lit 14, nat_lit 1), (nat_lit 15, nat_lit 1), (nat_lit 16, nat_lit 1), (nat_lit 17, nat_lit 1), (nat_lit 18, nat_lit 1), (nat_lit 19, nat_lit 1), (nat_lit 20, nat_lit 1), (nat_lit 21, nat_lit 1), (nat_lit 22, nat_lit 1), (nat_lit 23, nat_lit 1), (nat_lit 24, nat_lit 1), (nat_lit 25, nat_lit 1), (nat_lit 26, nat_lit 1), (nat_lit 27, nat_lit 1), (nat_lit 28, nat_lit 1), (nat_lit 29, nat_lit 1), (nat_lit 30, nat_lit 1), (nat_lit 31, nat_lit 1), (nat_lit 32, nat_lit 1), (nat_lit 33, nat_lit 1), (nat_lit 34, nat_lit 1), (nat_lit 35, nat_lit 1), (nat_lit 36, nat_lit 1), (nat_lit 37, nat_lit 1), (nat_lit 38, nat_lit 1), (nat_lit 39, nat_lit 1), (nat_lit 40, nat_lit 1), (nat_lit 41, nat_lit 1), (nat_lit 42, nat_lit 1), (nat_lit 43, nat_lit 1), (nat_lit 44, nat_lit 1), (nat_lit 45, nat_lit 1), (nat_lit 46, nat_lit 1), (nat_lit 47, nat_lit 1), (nat_lit 48, nat_lit 1), (nat_lit 49, nat_lit 1), (nat_lit 50, nat_lit 1), (nat_lit 51, nat_lit 1), (nat_lit 52, nat_lit 1), (nat_lit 53, nat_lit 1), (nat_lit 54, nat_lit 1), (nat_lit 55, nat_lit 1), (nat_lit 56, nat_lit 1), (nat_lit 57, nat_lit 1), (nat_lit 58, nat_lit 1), (nat_lit 59, nat_lit 1), (nat_lit 60, nat_lit 1), (nat_lit 61, nat_lit 1), (nat_lit 62, nat_lit 1), (nat_lit 63, nat_lit 1), (nat_lit 64, nat_lit 1), (nat_lit 65, nat_lit 1), (nat_lit 66, nat_lit 1), (nat_lit 67, nat_lit 1), (nat_lit 68, nat_lit 1), (nat_lit 69, nat_lit 1), (nat_lit 70, nat_lit 1), (nat_lit 71, nat_lit 1), (nat_lit 72, nat_lit 1), (nat_lit 73, nat_lit 1), (nat_lit 74, nat_lit 1), (nat_lit 75, nat_lit 1), (nat_lit 76, nat_lit 2), (nat_lit 77, nat_lit 2), (nat_lit 78, nat_lit 2), (nat_lit 79, nat_lit 2), (nat_lit 80, nat_lit 2), (nat_lit 81, nat_lit 2), (nat_lit 82, nat_lit 2), (nat_lit 83, nat_lit 2), (nat_lit 84, nat_lit 2), (nat_lit 85, nat_lit 2), (nat_lit 86, nat_lit 2), (nat_lit 87, nat_lit 2), (nat_lit 88, nat_lit 2), (nat_lit 89, nat_lit 2), (nat_lit 90, nat_lit 2), (nat_lit 91, nat_lit 2), (nat_lit 92, nat_lit 2), (nat_lit 93, nat_lit 2), (nat_lit 94, nat_lit 2), (nat_lit 95, nat_lit 2), (nat_lit 96, nat_lit 2), (nat_lit 97, nat_lit 2), (nat_lit 98, nat_lit 2), (nat_lit 99, nat_lit 2), (nat_lit 100, nat_lit 2), (nat_lit 101, nat_lit 2), (nat_lit 102, nat_lit 2), (nat_lit 103, nat_lit 2), (nat_lit 104, nat_lit 2), (nat_lit 105, nat_lit 2), (nat_lit 106, nat_lit 2), (nat_lit 107, nat_lit 2), (nat_lit 108, nat_lit 2), (nat_lit 109, nat_lit 2), (nat_lit 110, nat_lit 2), (nat_lit 111, nat_lit 2), (nat_lit 112, nat_lit 2), (nat_lit 113, nat_lit 2), (nat_lit 114, nat_lit 2), (nat_lit 115, nat_lit 2), (nat_lit 116, nat_lit 2), (nat_lit 117, nat_lit 2), (nat_lit 118, nat_lit 2)]
def ad_c : Nat → Nat := lu_w al_c
def ad_m : Nat → Nat := lu_w al_m
noncomputable def vi_w (t : ab_H) (a j : Nat) : Int := match ab_get t a with
  | some (_, _, .inl ft) => (match ab_get ft j with
    | some (.inl q) => q.2
    | some (.inr (.inl q)) => q.2
    | _ => 0)
  | some (_, _, .inr z) => z.1
  | none => 0
def kbw (ty : Nat) (z : Int) : Bool := match ty with
  | 0 => ab_ile (-2147483648) z && ab_ile z 2147483647
  | 1 => ab_ile 0 z && ab_ile z 1
  | 2 => ab_ile (-9223372036854775808) z && ab_ile z 9223372036854775807
  | 4 => ab_ile (-128) z && ab_ile z 127
  | _ => false
theorem kbw_ok {ty : Nat} {z : Int} (h : kbw ty z = true) : zok ty z := by
  unfold kbw at h
  split at h
  · have g := (Bool.and_eq_true _ _).mp h
    exact ⟨ab_ile_iff.mp g.1, ab_ile_iff.mp g.2⟩
  · have g := (Bool.and_eq_true _ _).mp h
    exact ⟨ab_ile_iff.mp g.1, ab_ile_iff.mp g.2⟩
  · have g := (Bool.and_eq_true _ _).mp h
    exact ⟨ab_ile_iff.mp g.1, ab_ile_iff.mp g.2⟩
  · have g := (Bool.and_eq_true _ _).mp h
    exact ⟨ab_ile_iff.mp g.1, ab_ile_iff.mp g.2⟩
  · cases h
noncomputable def ce_w (rf : zRt) (ad : Nat → Nat) (r ty : Nat) (j : Nat) (ct : Lean.RArray (Nat × ab_V) ⊕ (Int × Int)) : Bool := match ct with
  | .inr z => ab_ile z.2 z.1 && (!(Nat.beq ty 2) && kbw ty z.1)
  | .inl ft => (match ab_get ft j with
    | some (.inl q) => Nat.beq q.1 0 && (!(Nat.beq ty 2) && kbw ty q.2)
    | some (.inr (.inl q)) => Nat.beq q.1 0 && (Nat.beq ty 2 && kbw ty q.2)
    | some (.inr (.inr (.inl b))) => Nat.beq ty 9 || (Nat.beq ty 3 && (match zrt rf r j with
      | some t => Nat.beq b (ad t)
      | none => true))
    | _ => Nat.beq ty 9 || (Nat.beq ty 3 && (zrt rf r j).isNone))
noncomputable def ck_w (t : ab_H) (rf : zRt) (ad : Nat → Nat) (hn r : Nat) (c : zCl) : Bool := match ab_get t (ad r) with
  | some (kd, ln, ct) => Nat.ble (ad r + 1) hn && (Nat.beq kd c.1 && (Nat.beq ln c.2.1 && (List.range c.2.1).all (fun j => ce_w rf ad r (zty c j) j ct)))
  | none => false
theorem vi_r {t : ab_H} {a j kd ln : Nat} {z : Int × Int} (ha : ab_get t a = some (kd, ln, .inr z)) : vi_w t a j = z.1 := by
  unfold vi_w
  rw [ha]
theorem vi_l1 {t : ab_H} {a j kd ln : Nat} {ft : Lean.RArray (Nat × ab_V)} {q : Nat × Int} (ha : ab_get t a = some (kd, ln, .inl ft)) (hb : ab_get ft j = some (.inl q)) : vi_w t a j = q.2 := by
  unfold vi_w
  rw [ha]
  dsimp only
  rw [hb]
theorem vi_l2 {t : ab_H} {a j kd ln : Nat} {ft : Lean.RArray (Nat × ab_V)} {q : Nat × Int} (ha : ab_get t a = some (kd, ln, .inl ft)) (hb : ab_get ft j = some (.inr (.inl q))) : vi_w t a j = q.2 := by
  unfold vi_w
  rw [ha]
  dsimp only
  rw [hb]
theorem vl_w {vs : List Value} {j : Nat} (h : j < vs.length) : vs[j]? = some (vs.getD j .null) := by
  rw [List.getD_eq_getElem?_getD, List.getElem?_eq_getElem h]
  rfl
theorem zval_i {ty : Nat} {z : Int} (h : (!(Nat.beq ty 2)) = true) : zval ty z = .int (Int32.ofInt z) := by
  unfold zval
  split
  · cases h
  · rfl
theorem zhp_w {T : zTm} {rf : zRt} {ad : Nat → Nat} {t : ab_H} {hn : Nat} (hk : (ab_lvs T).all (fun q => ck_w t rf ad hn q.1 q.2) = true) {ρ : List Int} {h : List sm_C} (h0 : ρ.getD 0 0 = 0) (hh : ab_hR ρ t hn h) : zHp T ad rf (fun r j => vi_w t (ad r) j) h := fun r c hr => by
  have g := List.all_eq_true.mp hk _ (ab_lvs_mem hr)
  unfold ck_w at g
  dsimp only at g
  split at g
  · next kd ln ct ha =>
    obtain ⟨g1, g2, g3, g4⟩ := ab_and4 g
    have g1 := Nat.ble_eq.mp g1
    have g2 := Nat.eq_of_beq_eq_true g2
    have g3 := Nat.eq_of_beq_eq_true g3
    obtain ⟨q, hq⟩ : ∃ q, h[ad r]? = some q := ⟨h[ad r]'(by rw [hh.1]; omega), List.getElem?_eq_getElem _⟩
    obtain ⟨a, a1, a2, a3, a4⟩ := hh.2 _ q hq
    rw [ha] at a1
    cases a1
    refine ⟨q, hq, a2.trans g2, a3.trans g3, fun j hj => ?_⟩
    have w := List.all_eq_true.mp g4 j (List.mem_range.mpr hj)
    have hj2 : j < q.2.length := by rw [a3]; dsimp only; omega
    have hv := vl_w hj2
    have hjl : j < ln := by omega
    unfold ce_w at w
    cases ct with
    | inr z =>
      dsimp only at w
      obtain ⟨w1, w2, w3⟩ := ab_and3 w
      obtain ⟨x, b1, b2, b3⟩ := a4 j hjl
      have w1 := ab_ile_iff.mp w1
      have e : x = z.1 := by
        have b2 : z.1 ≤ x := b2
        have b3 : x ≤ z.2 := b3
        omega
      have ev : vi_w t (ad r) j = z.1 := vi_r ha
      refine ⟨fun _ _ => ⟨?_, ?_⟩, fun t1 _ h3 => ?_⟩
      · show zok (zty c j) (vi_w t (ad r) j)
        rw [ev]
        exact kbw_ok w3
      · show q.2[j]? = some (zval (zty c j) (vi_w t (ad r) j))
        rw [ev, zval_i w2, hv, b1, e]
      · rw [h3] at w3
        cases w3
    | inl ft =>
      obtain ⟨b, b1, b2⟩ := a4 j hjl
      dsimp only at w
      rw [b1] at w
      match b, b1, w, b2 with
      | .inl q1, b1, w, b2 =>
        obtain ⟨w1, w2, w3⟩ := ab_and3 w
        have b2 : q1.1 < ρ.length ∧ q.2.getD j .null = .int (Int32.ofInt (ρ.getD q1.1 0 + q1.2)) := b2
        have ev : vi_w t (ad r) j = q1.2 := vi_l1 ha b1
        rw [Nat.eq_of_beq_eq_true w1, h0, Int.zero_add] at b2
        refine ⟨fun _ _ => ⟨?_, ?_⟩, fun t1 _ h3 => ?_⟩
        · show zok (zty c j) (vi_w t (ad r) j)
          rw [ev]
          exact kbw_ok w3
        · show q.2[j]? = some (zval (zty c j) (vi_w t (ad r) j))
          rw [ev, zval_i w2, hv, b2.2]
        · rw [h3] at w3
          cases w3
      | .inr (.inl q1), b1, w, b2 =>
        obtain ⟨w1, w2, w3⟩ := ab_and3 w
        have b2 : q1.1 < ρ.length ∧ q.2.getD j .null = .long (Int64.ofInt (ρ.getD q1.1 0 + q1.2)) := b2
        have ev : vi_w t (ad r) j = q1.2 := vi_l2 ha b1
        have w2 := Nat.eq_of_beq_eq_true w2
        rw [Nat.eq_of_beq_eq_true w1, h0, Int.zero_add] at b2
        refine ⟨fun _ _ => ⟨?_, ?_⟩, fun t1 _ h3 => ?_⟩
        · show zok (zty c j) (vi_w t (ad r) j)
          rw [ev]
          exact kbw_ok w3
        · show q.2[j]? = some (zval (zty c j) (vi_w t (ad r) j))
          rw [ev, w2, hv, b2.2]
          rfl
        · rw [h3] at w2
          cases w2
      | .inr (.inr (.inl b3)), b1, w, b2 =>
        have b2 : q.2.getD j .null = .ref b3 := b2
        refine ⟨fun n3 n9 => ?_, fun t1 ht h3 => ?_⟩
        · exfalso
          rcases (Bool.or_eq_true _ _).mp w with w | w
          · exact n9 (Nat.eq_of_beq_eq_true w)
          · exact n3 (Nat.eq_of_beq_eq_true ((Bool.and_eq_true _ _).mp w).1)
        · rcases (Bool.or_eq_true _ _).mp w with w | w
          · rw [h3] at w
            cases w
          · have w := ((Bool.and_eq_true _ _).mp w).2
            rw [ht] at w
            rw [hv, b2, Nat.eq_of_beq_eq_true w]
      | .inr (.inr (.inr b3)), b1, w, b2 =>
        refine ⟨fun n3 n9 => ?_, fun t1 ht h3 => ?_⟩
        · exfalso
          rcases (Bool.or_eq_true _ _).mp w with w | w
          · exact n9 (Nat.eq_of_beq_eq_true w)
          · exact n3 (Nat.eq_of_beq_eq_true ((Bool.and_eq_true _ _).mp w).1)
        · exfalso
          rcases (Bool.or_eq_true _ _).mp w with w | w
          · rw [h3] at w
            cases w
          · have w := ((Bool.and_eq_true _ _).mp w).2
            rw [ht] at w
            cases w
  · cases g
noncomputable def bd_w (t : ab_H) (ad : Nat → Nat) (L : wL) : Bool := L.all (fun q => (List.range (q.2.2.1 - q.2.1)).all (fun j => ab_ile q.2.2.2.1 (vi_w t (ad q.1) (q.2.1 + j)) && ab_ile (vi_w t (ad q.1) (q.2.1 + j)) q.2.2.2.2))
theorem bd_w_ok {t : ab_H} {ad : Nat → Nat} {L : wL} (h : bd_w t ad L = true) : ∀ q ∈ L, ∀ j, q.2.1 ≤ j → j < q.2.2.1 → q.2.2.2.1 ≤ vi_w t (ad q.1) j ∧ vi_w t (ad q.1) j ≤ q.2.2.2.2 := fun q hq j h1 h2 => by
  have g := List.all_eq_true.mp (List.all_eq_true.mp h q hq) (j - q.2.1) (List.mem_range.mpr (by omega))
  have g := (Bool.and_eq_true _ _).mp g
  rw [show q.2.1 + (j - q.2.1) = j by omega] at g
  exact ⟨ab_ile_iff.mp g.1, ab_ile_iff.mp g.2⟩
noncomputable def e0_c : zE := fun r j => vi_w rn_t1 (ad_c r) j
noncomputable def e0_m : zE := fun r j => vi_w rn_t1 (ad_m r) j
noncomputable def inj_b (T : zTm) (ad : Nat → Nat) (il : List (Nat × Nat)) (n : Nat) : Bool := (ab_lvs T).all (fun q => Nat.beq (lu_w il (ad q.1)) q.1 && Nat.beq (lu_w sl_l (ad q.1)) n)
theorem inj_w {T : zTm} {ad : Nat → Nat} {il : List (Nat × Nat)} {n : Nat} (h : inj_b T ad il n = true) : zInj T ad ∧ ∀ r c, ab_get T r = some c → lu_w sl_l (ad r) = n := by
  refine ⟨fun r r' c c' hr hr' e => ?_, fun r c hr => ?_⟩
  · have a := Nat.eq_of_beq_eq_true ((Bool.and_eq_true _ _).mp (List.all_eq_true.mp h _ (ab_lvs_mem hr))).1
    have b := Nat.eq_of_beq_eq_true ((Bool.and_eq_true _ _).mp (List.all_eq_true.mp h _ (ab_lvs_mem hr'))).1
    dsimp only at a b
    rw [← a, ← b, e]
  · exact Nat.eq_of_beq_eq_true ((Bool.and_eq_true _ _).mp (List.all_eq_true.mp h _ (ab_lvs_mem hr))).2
theorem ij_c : inj_b tm_c ad_c il_c 1 = true := by decide +kernel
theorem ij_m : inj_b tm_m ad_m il_m 2 = true := by decide +kernel
theorem hp_c : (ab_lvs tm_c).all (fun q => ck_w rn_t1 rf_c ad_c 120 q.1 q.2) = true := by decide +kernel
theorem hp_m : (ab_lvs tm_m).all (fun q => ck_w rn_t1 rf_m ad_m 120 q.1 q.2) = true := by decide +kernel
theorem bd_c : bd_w rn_t1 ad_c wl_c = true := by decide +kernel
theorem bd_m : bd_w rn_t1 ad_m wl_m = true := by decide +kernel
theorem gc0_w : e0_c 17 1 = 0 ∧ ∀ k, k < 3 → e0_c 20 k ≤ e0_c 17 1 := by decide +kernel
theorem gr0_w : e0_c 60 6 = 21 ∧ e0_c 60 8 = 0 ∧ e0_c 0 1 = 0 := by decide +kernel
theorem gm0_w : (e0_m 0 7 ≤ e0_m 0 6 ∧ e0_m 0 8 = 0 ∧ e0_m 0 1 = 0) ∧ (∀ j, j < 104 → e0_m 2 j = wd_k.getD j 0) ∧ (∀ i, i < 128 → e0_m 19 i = 0) ∧ (∀ k, k < 3 → e0_m 16 k = 0) ∧ (∀ i, i < 20 → e0_m 40 (3 * i + 1) = 0) ∧ ∀ i, i < 24 → e0_m 38 (3 * i + 1) = 0 := by decide +kernel
theorem wk0_w : ∀ i, i < 20 → e0_c 62 i = yp_wd.getD i 0 := by decide +kernel
theorem ft0_w : (e0_c 0 2 = e0_m 0 4 ∧ e0_c 0 3 = e0_m 0 5) ∧ e0_c 95 0 = e0_m 0 74 := by decide +kernel
theorem ks0_w : (e0_c 2 1 = 0 ∧ e0_m 0 12 = 0 ∧ e0_c 2 2 = 0 ∧ e0_m 0 13 = 0 ∧ e0_c 2 3 = 0 ∧ e0_m 0 14 = 0) ∧ (∀ g, g < 12 → e0_c 5 g = -1) ∧ e0_c 2 4 = e0_m 4 0 ∧ e0_c 2 5 = e0_m 4 1 ∧ e0_c 2 6 = e0_m 4 3 ∧ e0_c 2 7 = e0_m 4 2 ∧ (0 ≤ e0_c 2 5 ∧ e0_c 2 5 ≤ 99) ∧ 0 ≤ e0_c 2 6 ∧ e0_c 2 6 ≤ 9 := by decide +kernel
theorem kx0_w : KX_w e0_c e0_m := by
  obtain ⟨⟨a1, a2, a3, a4, a5, a6⟩, b, c1, c2, c3, c4, c5⟩ := ks0_w
  have u1 : sh_w e0_c 32 1 = 0 := a1
  have u2 : sh_w e0_c 32 2 = 0 := a3
  have u3 : sh_w e0_c 32 3 = 0 := a5
  have m1 : un_w e0_m 0 16 = 0 := (un_0 (j := 12)).trans a2
  have m2 : un_w e0_m 0 17 = 0 := (un_0 (j := 13)).trans a4
  have m3 : un_w e0_m 0 18 = 0 := (un_0 (j := 14)).trans a6
  refine ⟨⟨by rw [u1]; decide, by rw [u1]; decide, by rw [u1, m1], fun j hj => by rw [u1] at hj; omega⟩, ⟨by rw [u2]; decide, by rw [u2]; decide, by rw [u2, m2], fun j hj => by rw [u2] at hj; omega, fun g hg => ?_⟩, ⟨by rw [u3]; decide, by rw [u3]; decide, by rw [u3, m3], fun j hj => by rw [u3] at hj; omega⟩, ⟨?_, ?_, ?_, ?_, c5⟩⟩
  · rw [u2]
    exact b g (by omega)
  · exact c1.trans (un_4 (r := 4) (j := 0) (by decide)).symm
  · exact c2.trans (un_4 (r := 4) (j := 1) (by decide)).symm
  · exact c3.trans (un_4 (r := 4) (j := 3) (by decide)).symm
  · exact c4.trans (un_4 (r := 4) (j := 2) (by decide)).symm
theorem sl_0 {ρ : List Int} {h : List sm_C} (h0 : ρ.getD 0 0 = 0) (hh : ab_hR ρ rn_t1 120 h) : SL PB_w 0 76 119 h := by
  have ic := inj_w ij_c
  have im := inj_w ij_m
  obtain ⟨⟨m1, m2, m3⟩, m4, m5, m6, m7, m8⟩ := gm0_w
  refine ⟨ad_c, e0_c, ad_m, e0_m, ⟨ic.1, zhp_w hp_c h0 hh, ⟨bd_w_ok bd_c, fun i hi => ?_, gc0_w.2⟩, ?_⟩, ⟨im.1, zhp_w hp_m h0 hh, ⟨bd_w_ok bd_m, trivial⟩, ⟨⟨m1, ⟨fun w => ?_, fun w => ?_⟩, m4⟩, fun i hi => ?_, fun k hk w => ?_⟩, fun i hi => ?_, fun i hi => ?_⟩, ⟨⟨by decide +kernel, by decide +kernel⟩, ?_, fun r c hr e => ?_, fun r c hr e => ?_, fun r c r' c' hr hr' e => ?_⟩, ⟨fun i hi => wk0_w i hi, ft0_w.1, kx0_w, ft0_w.2⟩, gr0_w.2.2.trans m3.symm, fun j hj => ?_⟩
  · rw [gc0_w.1] at hi
    exact absurd hi (by omega)
  · refine ⟨fun w => ?_, fun w => ?_, fun w => ?_⟩ <;> (rw [gr0_w.1] at w; exact absurd w (by decide))
  · rw [m2] at w
    exact absurd w (by decide)
  · rw [m2] at w
    exact absurd w (by decide)
  · rw [m5 i hi]
    exact ⟨fun w => absurd w (by decide), fun w => absurd rfl w, fun w => absurd rfl w⟩
  · rw [m6 k hk] at w
    exact absurd w (by decide)
  · rw [m7 i hi]
    exact ⟨by decide, by decide⟩
  · rw [m8 i hi]
    exact ⟨by decide, by decide⟩
  · obtain ⟨q, hq⟩ : ∃ q, h[119]? = some q := ⟨h[119]'(by rw [hh.1]; decide), List.getElem?_eq_getElem _⟩
    obtain ⟨a, a1, a2, a3, a4⟩ := hh.2 _ q hq
    cases a1
    obtain ⟨k, vs⟩ := q
    match vs, a3 with
    | [v], _ => exact ⟨v, by rw [hq, show k = 103 from a2]⟩
  · have w := ic.2 r c hr
    rw [e] at w
    exact absurd w (by decide +kernel)
  · have w := im.2 r c hr
    rw [e] at w
    exact absurd w (by decide +kernel)
  · have w1 := ic.2 r c hr
    have w2 := im.2 r' c' hr'
    rw [e, w2] at w1
    exact absurd w1 (by decide)
  · rw [gr0_w.2.2] at hj
    omega
/-- from the law's start to its end -/
theorem rn_cu {ro : Nat → List Int32} (hro : ro 2 = [0, 1, 2, 3, 4, 4, 4, 4, 4, 4, 5, 5, 6, 6]) (hL : (ro 1).length ≤ 3072) (ρ : List Int) : cu_H pr_P pr_K pr_df ro 1 6 601024 7293034 rn_R ρ rn_Y := by
  refine ⟨(fun m z q => by cases q), fun hn xs hx hok _ mi lv st hh cs hS => ?_⟩
  obtain ⟨s1, s2, s3, s4, s5, s6, s7, s8⟩ := hS
  have hst : st = [] := by
    cases st with
    | nil => rfl
    | cons a b => exact s6.elim
  have hcs : cs = [] := by
    cases cs with
    | nil => rfl
    | cons a b => exact s7.elim
  subst hst
  subst hcs
  have S := sl_0 s1.2.1 s3
  have lk : ∀ k a, ab_lk rn_l1 k = some a → ∃ v, sm_lk lv k = some v ∧ ab_R _ a v := fun k a hk => ab_lk_ok s5 hk
  have l0 : LV lv 0 76 119 (Int32.ofInt (6 * ((0 : Nat) : Int))) := by
    obtain ⟨v0, a0, b0⟩ := lk 0 _ rfl
    obtain ⟨v1, a1, b1⟩ := lk 1 _ rfl
    obtain ⟨v2, a2, b2⟩ := lk 2 _ rfl
    obtain ⟨v3, a3, b3⟩ := lk 3 _ rfl
    obtain ⟨v4, a4, b4⟩ := lk 4 _ rfl
    cases b0
    cases b1
    cases b2
    cases b3
    refine ⟨a0, a1, a2, a3, ?_⟩
    rw [a4, b4.2]
    congr 2
    rw [s1.2.1]
    rfl
  have F := lw_loop (C := 601024) (D := 7293034) hro hL 512 0 (by omega) (by omega) lv hh 120 3630 l0 S (by decide) (by decide)
  exact F
