theorem ab_idiv {x k : Int} (h0 : 0 ≤ x) (h1 : x ≤ 2147483647) (h2 : 1 ≤ k) (h3 : k ≤ 2147483647) : Int32.ofInt x / Int32.ofInt k = Int32.ofInt (x / k) := by
  have e1 := ab_toInt (x := x) (by omega) h1
  have e2 := ab_toInt (x := k) (by omega) h3
  have h4 : 0 ≤ x / k := Int.ediv_nonneg h0 (by omega)
  have h5 : x / k ≤ x := Int.ediv_le_self _ h0
  have e3 := ab_toInt (x := x / k) (by omega) (by omega)
  apply Int32.toInt_inj.mp
  rw [Int32.toInt_div_of_ne_left _ _ (fun q => by rw [q] at e1; have : Int32.minValue.toInt = -2147483648 := by decide
                                                  omega), e1, e2, e3, Int.tdiv_eq_ediv_of_nonneg h0]
theorem ab_irem {x k : Int} (h0 : 0 ≤ x) (h1 : x ≤ 2147483647) (h2 : 1 ≤ k) (h3 : k ≤ 2147483647) : Int32.ofInt x - Int32.ofInt x / Int32.ofInt k * Int32.ofInt k = Int32.ofInt (x % k) := by
  rw [ab_idiv h0 h1 h2 h3, ← Int32.ofInt_mul, ← Int32.ofInt_sub]
  congr 1
  have := Int.emod_def x k
  rw [Int.mul_comm] at this
  omega
def ab_pos (q : Nat × Int) : Bool := Nat.beq q.1 0 && (ab_ile 1 q.2 && ab_ile q.2 2147483647)
theorem ab_pos_ok {q : Nat × Int} (h : ab_pos q = true) : q.1 = 0 ∧ 1 ≤ q.2 ∧ q.2 ≤ 2147483647 := by
  have h1 := (Bool.and_eq_true _ _).mp h
  have h2 := (Bool.and_eq_true _ _).mp h1.2
  exact ⟨Nat.eq_of_beq_eq_true h1.1, ab_ile_iff.mp h2.1, ab_ile_iff.mp h2.2⟩
/-- a number in reach that isn't below 0 -/
def ab_nn (E : ab_E) (p : Nat × Int) : Option (Int × Int) := match ab_rg E p with
  | some z => bif ab_ile 0 z.1 && ab_ile z.2 2147483647 then some z else none
  | none => none
theorem ab_nn_ok {ρ : List Int} {E : ab_E} {p : Nat × Int} {z : Int × Int} (h : ab_ok ρ E) (hz : ab_nn E p = some z) : p.1 < ρ.length ∧ 0 ≤ z.1 ∧ z.1 ≤ ρ.getD p.1 0 + p.2 ∧ ρ.getD p.1 0 + p.2 ≤ z.2 ∧ z.2 ≤ 2147483647 := by
  unfold ab_nn at hz
  split at hz
  · next w hw =>
    cases hb : (ab_ile 0 w.1 && ab_ile w.2 2147483647) with
    | false => rw [hb] at hz; cases hz
    | true =>
      rw [hb] at hz
      cases hz
      have h1 := (Bool.and_eq_true _ _).mp hb
      have h2 := ab_rg_ok h hw
      exact ⟨h2.1, ab_ile_iff.mp h1.1, h2.2.1, h2.2.2, ab_ile_iff.mp h1.2⟩
  · cases hz
def ab_div (E : ab_E) (n : Nat) (p q : Nat × Int) : Option ab_Q := bif ab_pos q then (match ab_nn E p with
  | none => some (ab_fl E n)
  | some z => match p.1 with
    | 0 => some (E, n, (0, p.2 / q.2))
    | _ => bif ab_ile q.2 1 then some (E, n, p) else some (((n, z.1 / q.2, z.2 / q.2) :: E.1, E.2.1, (n, p.1, p.2, q.2) :: E.2.2), n + 1, (n, 0))) else none
def ab_rem (E : ab_E) (n : Nat) (p q : Nat × Int) : Option ab_Q := bif ab_pos q then (match ab_nn E p with
  | none => some (ab_fl E n)
  | some z => match p.1 with
    | 0 => some (E, n, (0, p.2 % q.2))
    | _ => bif ab_ile (z.2 + 1) q.2 then some (E, n, p) else some (ab_fr E n 0 (q.2 - 1))) else none
theorem ab_ne0 {ρ : List Int} {E : ab_E} {q : Nat × Int} (h : ab_ok ρ E) (hq : ab_pos q = true) : ¬ Int32.ofInt (ρ.getD q.1 0 + q.2) = 0 := by
  obtain ⟨h1, h2, h3⟩ := ab_pos_ok hq
  rw [h1, h.2.1, Int.zero_add]
  intro h4
  have h5 := congrArg Int32.toInt h4
  rw [ab_toInt (by omega) h3] at h5
  have : (0 : Int32).toInt = 0 := rfl
  omega
theorem ab_div_ok {ρ : List Int} {E : ab_E} {n : Nat} {p q : Nat × Int} {r : ab_Q} (h : ab_ok ρ E) (hn : n = ρ.length) (hp : p.1 < ρ.length) (hr : ab_div E n p q = some r) : ¬ Int32.ofInt (ρ.getD q.1 0 + q.2) = 0 ∧ ab_sp ρ (Int32.ofInt (ρ.getD p.1 0 + p.2) / Int32.ofInt (ρ.getD q.1 0 + q.2)) r := by
  unfold ab_div at hr
  cases hq : ab_pos q with
  | false => rw [hq] at hr; cases hr
  | true =>
    rw [hq] at hr
    refine ⟨ab_ne0 h hq, ?_⟩
    obtain ⟨h1, h2, h3⟩ := ab_pos_ok hq
    dsimp only [cond_true] at hr
    split at hr
    · cases hr
      exact ab_sp_fl h hn
    · next z hz =>
      obtain ⟨z0, z1, z2, z3, z4⟩ := ab_nn_ok h hz
      rw [h1, h.2.1, Int.zero_add, ab_idiv (by omega) (by omega) h2 h3]
      split at hr
      · next hp0 =>
        cases hr
        exact ab_sp_ex h hn h.1 (by rw [hp0, h.2.1, Int.zero_add]; rw [Int.zero_add])
      · cases hb : ab_ile q.2 1 with
        | true =>
          rw [hb] at hr
          cases hr
          have := ab_ile_iff.mp hb
          have e1 : q.2 = 1 := by omega
          exact ab_sp_ex h hn hp (by rw [e1, Int.ediv_one])
        | false =>
          rw [hb] at hr
          cases hr
          subst hn
          have k1 : z.1 / q.2 ≤ (ρ.getD p.1 0 + p.2) / q.2 := Int.ediv_le_ediv (by omega) z2
          have k2 : (ρ.getD p.1 0 + p.2) / q.2 ≤ z.2 / q.2 := Int.ediv_le_ediv (by omega) z3
          obtain ⟨g0, g1, g2, g3, g4⟩ := ab_ok_new h k1 k2
          refine ⟨[(ρ.getD p.1 0 + p.2) / q.2], ⟨g0, g1, g2, g3, fun d hd => ?_⟩, by simp, by simp, ?_⟩
          · rcases List.mem_cons.mp hd with rfl | hd
            · rw [ab_getD_new]
              dsimp only
              rw [ab_getD_app hp, List.length_append]
              exact ⟨by simp, by omega, by omega, by omega, rfl⟩
            · exact g4 d hd
          · show _ = Int32.ofInt ((ρ ++ [_]).getD ρ.length 0 + 0)
            rw [ab_getD_new, Int.add_zero]
theorem ab_rem_ok {ρ : List Int} {E : ab_E} {n : Nat} {p q : Nat × Int} {r : ab_Q} (h : ab_ok ρ E) (hn : n = ρ.length) (hp : p.1 < ρ.length) (hr : ab_rem E n p q = some r) : ¬ Int32.ofInt (ρ.getD q.1 0 + q.2) = 0 ∧ ab_sp ρ (Int32.ofInt (ρ.getD p.1 0 + p.2) - Int32.ofInt (ρ.getD p.1 0 + p.2) / Int32.ofInt (ρ.getD q.1 0 + q.2) * Int32.ofInt (ρ.getD q.1 0 + q.2)) r := by
  unfold ab_rem at hr
  cases hq : ab_pos q with
  | false => rw [hq] at hr; cases hr
  | true =>
    rw [hq] at hr
    refine ⟨ab_ne0 h hq, ?_⟩
    obtain ⟨h1, h2, h3⟩ := ab_pos_ok hq
    dsimp only [cond_true] at hr
    split at hr
    · cases hr
      exact ab_sp_fl h hn
    · next z hz =>
      obtain ⟨z0, z1, z2, z3, z4⟩ := ab_nn_ok h hz
      rw [h1, h.2.1, Int.zero_add, ab_irem (by omega) (by omega) h2 h3]
      split at hr
      · next hp0 =>
        cases hr
        exact ab_sp_ex h hn h.1 (by rw [hp0, h.2.1, Int.zero_add]; rw [Int.zero_add])
      · cases hb : ab_ile (z.2 + 1) q.2 with
        | true =>
          rw [hb] at hr
          cases hr
          have := ab_ile_iff.mp hb
          exact ab_sp_ex h hn hp (by rw [Int.emod_eq_of_lt (by omega) (by omega)])
        | false =>
          rw [hb] at hr
          cases hr
          have k1 := Int.emod_nonneg (ρ.getD p.1 0 + p.2) (show q.2 ≠ 0 by omega)
          have k2 := Int.emod_lt_of_pos (ρ.getD p.1 0 + p.2) (show 0 < q.2 by omega)
          have e3 := ab_toInt (x := (ρ.getD p.1 0 + p.2) % q.2) (by omega) (by omega)
          exact ab_sp_fr h hn (by rw [e3]; exact k1) (by rw [e3]; omega)
abbrev ab_T : Type := Option (ab_E × Nat × Nat × ab_L × List ab_V)
def ab_pu (r : ab_Q) (pc : Nat) (la : ab_L) (sa : List ab_V) : ab_T := some (r.1, r.2.1, pc, la, .inl r.2.2 :: sa)
def ab_pul (r : ab_Q) (pc : Nat) (la : ab_L) (sa : List ab_V) : ab_T := some (r.1, r.2.1, pc, la, .inr (.inl r.2.2) :: sa)
def ab_ii (g : ab_E → Nat → Nat × Int → Nat × Int → ab_Q) (E : ab_E) (n pc : Nat) (la : ab_L) (sa : List ab_V) : ab_T := match sa with
  | .inl q :: .inl p :: r => ab_pu (g E n p q) pc la r
  | _ => none
def ab_ll (g : ab_E → Nat → Nat × Int → Nat × Int → ab_Q) (E : ab_E) (n pc : Nat) (la : ab_L) (sa : List ab_V) : ab_T := match sa with
  | .inr (.inl q) :: .inr (.inl p) :: r => ab_pul (g E n p q) pc la r
  | _ => none
def ab_iid (g : ab_E → Nat → Nat × Int → Nat × Int → Option ab_Q) (E : ab_E) (n pc : Nat) (la : ab_L) (sa : List ab_V) : ab_T := match sa with
  | .inl q :: .inl p :: r => match g E n p q with
    | some z => ab_pu z pc la r
    | none => none
  | _ => none
/-- quotients of longs: of numbers alone -/
def ab_lld (f : Int64 → Int64 → Int64) (E : ab_E) (n pc : Nat) (la : ab_L) (sa : List ab_V) : ab_T := match sa with
  | .inr (.inl q) :: .inr (.inl p) :: r => bif Nat.beq q.1 0 && !(decide (Int64.ofInt q.2 = 0)) then ab_pul (ab_csl f E n p q) pc la r else none
  | _ => none
def ab_i1 (f : Int32 → Int32) (a b : Int) (E : ab_E) (n pc : Nat) (la : ab_L) (sa : List ab_V) : ab_T := match sa with
  | .inl p :: r => match p.1 with
    | 0 => ab_pu (E, n, (0, (f (Int32.ofInt p.2)).toInt)) pc la r
    | _ => ab_pu (ab_fr E n a b) pc la r
  | _ => none
def ab_ln (E : ab_E) (n pc : Nat) (la : ab_L) (sa : List ab_V) : ab_T := match sa with
  | .inr (.inl p) :: r => match p.1 with
    | 0 => ab_pul (E, n, (0, (-(Int64.ofInt p.2)).toInt)) pc la r
    | _ => ab_pul (ab_fll E n) pc la r
  | _ => none
def ab_il (E : ab_E) (n pc : Nat) (la : ab_L) (sa : List ab_V) : ab_T := match sa with
  | .inl p :: r => match ab_rg E p with
    | some z => bif ab_n32 z then some (E, n, pc, la, .inr (.inl p) :: r) else none
    | none => none
  | _ => none
def ab_li (E : ab_E) (n pc : Nat) (la : ab_L) (sa : List ab_V) : ab_T := match sa with
  | .inr (.inl p) :: r => some (E, n, pc, la, .inl p :: r)
  | _ => none
def ab_cp (E : ab_E) (n pc : Nat) (la : ab_L) (sa : List ab_V) : ab_T := match sa with
  | .inr (.inl q) :: .inr (.inl p) :: r => match p.1, q.1 with
    | 0, 0 => ab_pu (E, n, (0, (lg_cmp (Int64.ofInt p.2) (Int64.ofInt q.2)).toInt)) pc la r
    | _, _ => ab_pu (ab_fr E n (-1) 1) pc la r
  | _ => none
def ab_ldI (E : ab_E) (n : Nat) (la : ab_L) (k pc : Nat) (sa : List ab_V) : ab_T := match ab_lk la k with
  | some (.inl q) => some (E, n, pc, la, .inl q :: sa)
  | _ => none
def ab_ldL (E : ab_E) (n : Nat) (la : ab_L) (k pc : Nat) (sa : List ab_V) : ab_T := match ab_lk la k with
  | some (.inr (.inl q)) => some (E, n, pc, la, .inr (.inl q) :: sa)
  | _ => none
def ab_ldA (E : ab_E) (n : Nat) (la : ab_L) (k pc : Nat) (sa : List ab_V) : ab_T := match ab_lk la k with
  | some (.inr (.inr (.inl q))) => some (E, n, pc, la, .inr (.inr (.inl q)) :: sa)
  | some (.inr (.inr (.inr (.inl q)))) => some (E, n, pc, la, .inr (.inr (.inr (.inl q))) :: sa)
  | _ => none
def ab_stI (ml : Nat) (E : ab_E) (n : Nat) (la : ab_L) (k pc : Nat) (sa : List ab_V) : ab_T := match sa with
  | .inl q :: r => bif Nat.ble (k + 1) ml then some (E, n, pc, ab_s1 la k (.inl q), r) else none
  | _ => none
def ab_stL (ml : Nat) (E : ab_E) (n : Nat) (la : ab_L) (k pc : Nat) (sa : List ab_V) : ab_T := match sa with
  | .inr (.inl q) :: r => bif Nat.ble (k + 2) ml then some (E, n, pc, ab_s2 la k (.inr (.inl q)), r) else none
  | _ => none
def ab_stA (ml : Nat) (E : ab_E) (n : Nat) (la : ab_L) (k pc : Nat) (sa : List ab_V) : ab_T := match sa with
  | .inr (.inr (.inl q)) :: r => bif Nat.ble (k + 1) ml then some (E, n, pc, ab_s1 la k (.inr (.inr (.inl q))), r) else none
  | _ => none
def ab_inc (ml : Nat) (E : ab_E) (n : Nat) (la : ab_L) (k pc : Nat) (d : Int) (sa : List ab_V) : ab_T := match ab_lk la k with
  | some (.inl q) => bif Nat.ble (k + 1) ml then some (E, n, pc, ab_s1 la k (.inl (q.1, q.2 + d)), sa) else none
  | _ => none
def ab_du (E : ab_E) (n pc : Nat) (la : ab_L) (sa : List ab_V) : ab_T := match sa with
  | v :: r => bif ab_is2 v then none else some (E, n, pc, la, v :: v :: r)
  | _ => none
def ab_po (E : ab_E) (n pc : Nat) (la : ab_L) (sa : List ab_V) : ab_T := match sa with
  | v :: r => bif ab_is2 v then none else some (E, n, pc, la, r)
  | _ => none
def ab_d2 (E : ab_E) (n pc : Nat) (la : ab_L) (sa : List ab_V) : ab_T := match sa with
  | v :: r => bif ab_is2 v then some (E, n, pc, la, v :: v :: r) else match r with
    | w :: r2 => bif ab_is2 w then none else some (E, n, pc, la, v :: w :: v :: w :: r2)
    | _ => none
  | _ => none
def ab_lo (ml : Nat) (i : Instr) (pc : Nat) (E : ab_E) (n : Nat) (la : ab_L) (sa : List ab_V) : ab_T := match i with
  | .iload k => ab_ldI E n la k (pc + 2) sa
  | .iload_n k => ab_ldI E n la k.val (pc + 1) sa
  | .lload k => ab_ldL E n la k (pc + 2) sa
  | .lload_n k => ab_ldL E n la k.val (pc + 1) sa
  | .aload k => ab_ldA E n la k (pc + 2) sa
  | .aload_n k => ab_ldA E n la k.val (pc + 1) sa
  | .istore k => ab_stI ml E n la k (pc + 2) sa
  | .istore_n k => ab_stI ml E n la k.val (pc + 1) sa
  | .lstore k => ab_stL ml E n la k (pc + 2) sa
  | .lstore_n k => ab_stL ml E n la k.val (pc + 1) sa
  | .astore k => ab_stA ml E n la k (pc + 2) sa
  | .astore_n k => ab_stA ml E n la k.val (pc + 1) sa
  | .iinc k d => ab_inc ml E n la k (pc + 3) d sa
  | .iconst z => some (E, n, pc + 1, la, .inl (0, z) :: sa)
  | .bipush z => bif ab_ile (-128) z && ab_ile z 127 then some (E, n, pc + 2, la, .inl (0, z) :: sa) else none
  | .sipush z => bif ab_ile (-32768) z && ab_ile z 32767 then some (E, n, pc + 3, la, .inl (0, z) :: sa) else none
  | .lconst z => some (E, n, pc + 1, la, .inr (.inl (0, (z.val : Int))) :: sa)
  | .iadd => ab_ii ab_add E n (pc + 1) la sa
  | .isub => ab_ii ab_sub E n (pc + 1) la sa
  | .imul => ab_ii ab_mul E n (pc + 1) la sa
  | .iand => ab_ii (ab_cs (fun x y => x &&& y)) E n (pc + 1) la sa
  | .ior => ab_ii (ab_cs (fun x y => x ||| y)) E n (pc + 1) la sa
  | .ishl => ab_ii (ab_cs (fun x y => x <<< (y &&& 31))) E n (pc + 1) la sa
  | .ishr => ab_ii (ab_cs (fun x y => x >>> (y &&& 31))) E n (pc + 1) la sa
  | .iushr => ab_ii (ab_cs (fun x y => (x.toUInt32 >>> (y.toUInt32 &&& Int32.toUInt32 31)).toInt32)) E n (pc + 1) la sa
  | .idiv => ab_iid ab_div E n (pc + 1) la sa
  | .irem => ab_iid ab_rem E n (pc + 1) la sa
  | .ladd => ab_ll ab_addl E n (pc + 1) la sa
  | .lsub => ab_ll ab_subl E n (pc + 1) la sa
  | .lmul => ab_ll ab_mull E n (pc + 1) la sa
  | .land => ab_ll (ab_csl (fun x y => x &&& y)) E n (pc + 1) la sa
  | .ldiv => ab_lld (fun x y => x / y) E n (pc + 1) la sa
  | .lrem => ab_lld (fun x y => x - x / y * y) E n (pc + 1) la sa
  | .ineg => ab_i1 (fun x => -x) (-2147483648) 2147483647 E n (pc + 1) la sa
  | .i2b => ab_i1 (fun x => x.toInt8.toInt32) (-128) 127 E n (pc + 1) la sa
  | .i2c => ab_i1 (fun x => (x.toUInt32 % 65536).toInt32) (-2147483648) 2147483647 E n (pc + 1) la sa
  | .lneg => ab_ln E n (pc + 1) la sa
  | .i2l => ab_il E n (pc + 1) la sa
  | .l2i => ab_li E n (pc + 1) la sa
  | .lcmp => ab_cp E n (pc + 1) la sa
  | .dup => ab_du E n (pc + 1) la sa
  | .pop => ab_po E n (pc + 1) la sa
  | .dup2 => ab_d2 E n (pc + 1) la sa
  | .goto off => bif ab_ile 0 ((pc : Int) + off) then some (E, n, ((pc : Int) + off).toNat, la, sa) else none
  | _ => none
