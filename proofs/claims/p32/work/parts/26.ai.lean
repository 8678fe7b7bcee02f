/-- an index in reach of a length -/
def ab_ix (E : ab_E) (i : Nat × Int) (len : Nat) : Bool := match ab_rg E i with
  | some z => ab_ile 0 z.1 && (ab_ile (z.2 + 1) (len : Int) && Nat.ble len 2147483647)
  | none => false
theorem ab_ix_ok {ρ : List Int} {E : ab_E} {i : Nat × Int} {len : Nat} (h : ab_ok ρ E) (hi : ab_ix E i len = true) : 0 ≤ ρ.getD i.1 0 + i.2 ∧ ρ.getD i.1 0 + i.2 < (len : Int) ∧ ¬ (Int32.ofInt (ρ.getD i.1 0 + i.2) < 0 ∨ len ≤ (Int32.ofInt (ρ.getD i.1 0 + i.2)).toNatClampNeg) ∧ (Int32.ofInt (ρ.getD i.1 0 + i.2)).toNatClampNeg = (ρ.getD i.1 0 + i.2).toNat := by
  unfold ab_ix at hi
  split at hi
  · next z hz =>
    have h1 := (Bool.and_eq_true _ _).mp hi
    have h2 := (Bool.and_eq_true _ _).mp h1.2
    have a := ab_ile_iff.mp h1.1
    have b := ab_ile_iff.mp h2.1
    have c := Nat.ble_eq.mp h2.2
    obtain ⟨_, d, e⟩ := ab_rg_ok h hz
    have f := ab_toInt (x := ρ.getD i.1 0 + i.2) (by omega) (by omega)
    have g : (Int32.ofInt (ρ.getD i.1 0 + i.2)).toNatClampNeg = (ρ.getD i.1 0 + i.2).toNat := by
      unfold Int32.toNatClampNeg
      rw [f]
    refine ⟨by omega, by omega, ?_, g⟩
    rw [g]
    rintro (q | q)
    · rw [Int32.lt_iff_toInt_lt, f] at q
      have : (0 : Int32).toInt = 0 := rfl
      omega
    · omega
  · cases hi
/-- bounds of a stored int, by the kind of its array -/
def ab_sb (E : ab_E) (kd : Nat) (p : Nat × Int) : Int × Int := bif Nat.beq kd 101 then (-128, 127) else bif Nat.beq kd 102 then (0, 1) else match ab_rg E p with
  | some z => bif ab_n32 z then z else (-2147483648, 2147483647)
  | none => (-2147483648, 2147483647)
theorem ab_sb_ok {ρ : List Int} {E : ab_E} {kd : Nat} {p : Nat × Int} (h : ab_ok ρ E) : ∃ x : Int, sm_nar kd (Int32.ofInt (ρ.getD p.1 0 + p.2)) = Int32.ofInt x ∧ (ab_sb E kd p).1 ≤ x ∧ x ≤ (ab_sb E kd p).2 := by
  unfold ab_sb sm_nar
  by_cases h1 : kd = 101
  · rw [if_pos h1, (by rw [h1]; rfl : Nat.beq kd 101 = true)]
    refine ⟨(vp_nar .byte (Int32.ofInt (ρ.getD p.1 0 + p.2))).toInt, (Int32.ofInt_toInt _).symm, ?_⟩
    show _ ≤ (Int32.ofInt (ρ.getD p.1 0 + p.2)).toInt8.toInt32.toInt ∧ (Int32.ofInt (ρ.getD p.1 0 + p.2)).toInt8.toInt32.toInt ≤ _
    rw [Int8.toInt_toInt32]
    have h1 := Int8.le_toInt (Int32.ofInt (ρ.getD p.1 0 + p.2)).toInt8
    have h2 := Int8.toInt_le (Int32.ofInt (ρ.getD p.1 0 + p.2)).toInt8
    rw [show Int8.maxValue.toInt = 127 by decide] at h2
    exact ⟨by simpa using h1, h2⟩
  · rw [if_neg h1, (Bool.eq_false_iff.mpr (fun q => h1 (Nat.eq_of_beq_eq_true q)) : Nat.beq kd 101 = false)]
    dsimp only [cond_false]
    by_cases h2 : kd = 102
    · rw [if_pos h2, (by rw [h2]; rfl : Nat.beq kd 102 = true)]
      show ∃ x : Int, Int32.ofInt (ρ.getD p.1 0 + p.2) &&& 1 = Int32.ofInt x ∧ 0 ≤ x ∧ x ≤ 1
      generalize Int32.ofInt (ρ.getD p.1 0 + p.2) = y
      have : y &&& 1 = 0 ∨ y &&& 1 = 1 := by
        rcases y with ⟨⟨y⟩⟩
        by_cases hb : y.getLsbD 0 = true
        · right
          apply Int32.toBitVec_inj.mp
          show y &&& 1#32 = 1#32
          apply BitVec.eq_of_getLsbD_eq
          intro i hi
          rw [BitVec.getLsbD_and]
          by_cases h0 : i = 0
          · subst h0; rw [hb]; rfl
          · rw [show (1#32).getLsbD i = false by simp [BitVec.getLsbD_one, h0]]
            simp
        · left
          apply Int32.toBitVec_inj.mp
          show y &&& 1#32 = 0#32
          apply BitVec.eq_of_getLsbD_eq
          intro i hi
          rw [BitVec.getLsbD_and]
          by_cases h0 : i = 0
          · subst h0
            rw [Bool.eq_false_iff.mpr hb]
            simp
          · rw [show (1#32).getLsbD i = false by simp [BitVec.getLsbD_one, h0]]
            simp
      rcases this with q | q
      · exact ⟨0, by rw [q]; rfl, by omega, by omega⟩
      · exact ⟨1, by rw [q]; rfl, by omega, by omega⟩
    · rw [if_neg h2, (Bool.eq_false_iff.mpr (fun q => h2 (Nat.eq_of_beq_eq_true q)) : Nat.beq kd 102 = false)]
      dsimp only [cond_false]
      split
      · next z hz =>
        cases hb : ab_n32 z with
        | true =>
          have h4 := ab_rg_ok h hz
          exact ⟨_, rfl, h4.2⟩
        | false => exact ⟨_, (Int32.ofInt_toInt _).symm, ab_full32 _⟩
      · exact ⟨_, (Int32.ofInt_toInt _).symm, ab_full32 _⟩
/-- may a stored int stay as it is -/
def ab_st (E : ab_E) (kd : Nat) (p : Nat × Int) : Bool := Nat.beq kd 100 || (match ab_rg E p with
  | some z => (Nat.beq kd 101 && (ab_ile (-128) z.1 && ab_ile z.2 127)) || (Nat.beq kd 102 && (ab_ile 0 z.1 && ab_ile z.2 1))
  | none => false)
theorem ab_st_ok {ρ : List Int} {E : ab_E} {kd : Nat} {p : Nat × Int} (h : ab_ok ρ E) (hs : ab_st E kd p = true) : sm_nar kd (Int32.ofInt (ρ.getD p.1 0 + p.2)) = Int32.ofInt (ρ.getD p.1 0 + p.2) := by
  unfold ab_st at hs
  unfold sm_nar
  rcases Bool.or_eq_true_iff.mp hs with h1 | h1
  · have := Nat.eq_of_beq_eq_true h1
    rw [if_neg (by omega), if_neg (by omega)]
  · split at h1
    · next z hz =>
      have h4 := ab_rg_ok h hz
      rcases Bool.or_eq_true_iff.mp h1 with h2 | h2
      · have h3 := (Bool.and_eq_true _ _).mp h2
        have h5 := (Bool.and_eq_true _ _).mp h3.2
        have a := ab_ile_iff.mp h5.1
        have b := ab_ile_iff.mp h5.2
        rw [if_pos (Nat.eq_of_beq_eq_true h3.1)]
        show (Int32.ofInt (ρ.getD p.1 0 + p.2)).toInt8.toInt32 = _
        apply Int32.toInt_inj.mp
        rw [Int8.toInt_toInt32, Int32.toInt_toInt8, ab_toInt (by omega) (by omega)]
        exact Int.bmod_eq_of_le (by omega) (by omega)
      · have h3 := (Bool.and_eq_true _ _).mp h2
        have h5 := (Bool.and_eq_true _ _).mp h3.2
        have a := ab_ile_iff.mp h5.1
        have b := ab_ile_iff.mp h5.2
        have e := Nat.eq_of_beq_eq_true h3.1
        rw [if_neg (by omega), if_pos e]
        show Int32.ofInt (ρ.getD p.1 0 + p.2) &&& 1 = _
        rcases (by omega : ρ.getD p.1 0 + p.2 = 0 ∨ ρ.getD p.1 0 + p.2 = 1) with q | q
        · rw [q]; rfl
        · rw [q]; rfl
    · cases h1
/-- what is only read: the first of its numbers, how many -/
abbrev ab_Ro : Type := List ab_V × (Nat × Int)
/-- what a store leaves: the number's own bounds, where it isn't cut -/
def ab_sc (E : ab_E) (kd : Nat) (p : Nat × Int) : Int × Int := match ab_rg E p with
  | some z => bif ab_st E kd p && ab_n32 z then z else ab_sb E kd p
  | none => ab_sb E kd p
theorem ab_sc_ok {ρ : List Int} {E : ab_E} {kd : Nat} {p : Nat × Int} (h : ab_ok ρ E) : ∃ x : Int, sm_nar kd (Int32.ofInt (ρ.getD p.1 0 + p.2)) = Int32.ofInt x ∧ (ab_sc E kd p).1 ≤ x ∧ x ≤ (ab_sc E kd p).2 := by
  unfold ab_sc
  split
  · next z hz =>
    cases hb : (ab_st E kd p && ab_n32 z) with
    | false => exact ab_sb_ok h
    | true =>
      have h1 := (Bool.and_eq_true _ _).mp hb
      exact ⟨_, ab_st_ok h h1.1, (ab_rg_ok h hz).2⟩
  · exact ab_sb_ok h
def ab_roR (ρ : List Int) (R : ab_Ro) (xs : List Int32) : Prop := R.2.1 < ρ.length ∧ (xs.length : Int) = ρ.getD R.2.1 0 + R.2.2 ∧ (xs.length < 2147483648) ∧ ∀ (k : Nat) (a : ab_V), R.1[k]? = some a → k < xs.length → ab_R ρ a (.int (xs.getD k 0))
theorem ab_roR_app {ρ x : List Int} {R : ab_Ro} {xs : List Int32} (h : ab_roR ρ R xs) : ab_roR (ρ ++ x) R xs := ⟨by rw [List.length_append]; have := h.1; omega, by rw [ab_getD_app h.1]; exact h.2.1, h.2.2.1, fun k a h1 h2 => ab_R_app (h.2.2.2 k a h1 h2)⟩
noncomputable def ab_ia (R : ab_Ro) (ks : List Nat) (pc : Nat) (E : ab_E) (n : Nat) (t : ab_H) (hn : Nat) (sa : List ab_V) : ab_Th := match sa with
  | .inl i :: .inr (.inr (.inl a)) :: r => match ab_get t a with
    | some (kd, len, c) => bif ks.any (fun z => Nat.beq kd z) && (Nat.ble (a + 1) hn && ab_ix E i len) then (match c with
      | .inl ft => (match i.1 with
        | 0 => (match ab_get ft i.2.toNat with
          | some (.inl q) => some (E, n, pc + 1, .inl q :: r, .inl ())
          | _ => none)
        | _ => none)
      | .inr z => bif ab_ile z.2 z.1 then some (E, n, pc + 1, .inl (0, z.1) :: r, .inl ()) else some (((n, z.1, z.2) :: E.1, E.2), n + 1, pc + 1, .inl (n, 0) :: r, .inl ())) else none
    | none => none
  | .inl i :: .inr (.inr (.inr (.inl j))) :: r => bif Nat.beq j 1 && (ks.any (fun z => Nat.beq 100 z) && (Nat.beq i.1 0 && (ab_ile 0 i.2 && ab_le E (0, i.2 + 1) R.2))) then (match R.1[i.2.toNat]? with
    | some v => some (E, n, pc + 1, v :: r, .inl ())
    | none => none) else none
  | _ => none
noncomputable def ab_is (ks : List Nat) (pc : Nat) (E : ab_E) (n : Nat) (t : ab_H) (hn : Nat) (sa : List ab_V) : ab_Th := match sa with
  | .inl x :: .inl i :: .inr (.inr (.inl a)) :: r => match ab_get t a with
    | some (kd, len, c) => bif ks.any (fun z => Nat.beq kd z) && (Nat.ble (a + 1) hn && ab_ix E i len) then (match c with
      | .inl ft => (match i.1 with
        | 0 => bif ab_st E kd x then (match ab_get ft i.2.toNat with
          | some _ => some (E, n, pc + 1, r, .inr (a, kd, len, .inl (ft, i.2.toNat, .inl x)))
          | none => none) else none
        | _ => none)
      | .inr z => some (E, n, pc + 1, r, .inr (a, kd, len, .inr (ab_min z.1 (ab_sc E kd x).1, ab_max z.2 (ab_sc E kd x).2)))) else none
    | none => none
  | _ => none
noncomputable def ab_ja (pc : Nat) (E : ab_E) (n : Nat) (t : ab_H) (hn : Nat) (sa : List ab_V) : ab_Th := match sa with
  | .inl i :: .inr (.inr (.inl a)) :: r => match ab_get t a with
    | some (kd, len, .inl ft) => bif Nat.beq kd 103 && (Nat.ble (a + 1) hn && (Nat.beq i.1 0 && ab_ix E i len)) then (match ab_get ft i.2.toNat with
      | some (.inr (.inl q)) => some (E, n, pc + 1, .inr (.inl q) :: r, .inl ())
      | _ => none) else none
    | _ => none
  | _ => none
noncomputable def ab_js (pc : Nat) (E : ab_E) (n : Nat) (t : ab_H) (hn : Nat) (sa : List ab_V) : ab_Th := match sa with
  | .inr (.inl x) :: .inl i :: .inr (.inr (.inl a)) :: r => match ab_get t a with
    | some (kd, len, .inl ft) => bif Nat.beq kd 103 && (Nat.ble (a + 1) hn && (Nat.beq i.1 0 && ab_ix E i len)) then (match ab_get ft i.2.toNat with
      | some _ => some (E, n, pc + 1, r, .inr (a, kd, len, .inl (ft, i.2.toNat, .inr (.inl x))))
      | _ => none) else none
    | _ => none
  | _ => none
noncomputable def ab_aa (pc : Nat) (E : ab_E) (n : Nat) (t : ab_H) (hn : Nat) (sa : List ab_V) : ab_Th := match sa with
  | .inl i :: .inr (.inr (.inl a)) :: r => match ab_get t a with
    | some (kd, len, .inl ft) => bif Nat.beq kd 104 && (Nat.ble (a + 1) hn && (Nat.beq i.1 0 && ab_ix E i len)) then (match ab_get ft i.2.toNat with
      | some (.inr (.inr (.inl q))) => some (E, n, pc + 1, .inr (.inr (.inl q)) :: r, .inl ())
      | _ => none) else none
    | _ => none
  | _ => none
noncomputable def ab_al (R : ab_Ro) (pc : Nat) (E : ab_E) (n : Nat) (t : ab_H) (hn : Nat) (sa : List ab_V) : ab_Th := match sa with
  | .inr (.inr (.inl a)) :: r => match ab_get t a with
    | some (kd, len, _) => bif Nat.ble 100 kd && (Nat.ble kd 104 && (Nat.ble (a + 1) hn && Nat.ble len 2147483647)) then some (E, n, pc + 1, .inl (0, (len : Int)) :: r, .inl ()) else none
    | none => none
  | .inr (.inr (.inr (.inl j))) :: r => bif Nat.beq j 1 then some (E, n, pc + 1, .inl R.2 :: r, .inl ()) else none
  | _ => none
def ab_ko (dt : List Nat) (pc k : Nat) (E : ab_E) (n : Nat) (sa : List ab_V) : ab_Th := match dt with
  | [0, x] => some (E, n, pc + k, .inl (0, bif Nat.ble x 2147483647 then (x : Int) else (x : Int) - 4294967296) :: sa, .inl ())
  | [1, x] => some (E, n, pc + k, .inr (.inr (.inr (.inl x))) :: sa, .inl ())
  | [2, x] => some (E, n, pc + k, .inr (.inl (0, bif Nat.ble x 9223372036854775807 then (x : Int) else (x : Int) - 18446744073709551616)) :: sa, .inl ())
  | _ => none
noncomputable def ab_hp (R : ab_Ro) (i : Instr) (dt : List Nat) (pc : Nat) (E : ab_E) (n : Nat) (t : ab_H) (hn : Nat) (sa : List ab_V) : ab_Th := match i with
  | .getfield _ => ab_gf dt pc E n t hn sa
  | .putfield _ => ab_pf dt pc E n t hn sa
  | .iaload => ab_ia R [100] pc E n t hn sa
  | .baload => ab_ia R [101, 102] pc E n t hn sa
  | .laload => ab_ja pc E n t hn sa
  | .aaload => ab_aa pc E n t hn sa
  | .iastore => ab_is [100] pc E n t hn sa
  | .bastore => ab_is [101, 102] pc E n t hn sa
  | .lastore => ab_js pc E n t hn sa
  | .arraylength => ab_al R pc E n t hn sa
  | .ldc _ => ab_ko dt pc 2 E n sa
  | .ldc2_w _ => ab_ko dt pc 3 E n sa
  | _ => none
