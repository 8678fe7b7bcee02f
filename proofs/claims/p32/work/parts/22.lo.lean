/-! Steps that touch no cell, over what is known. -/
def ab_all2 {α β : Type} (R : α → β → Prop) : List α → List β → Prop
  | [], [] => True
  | a :: as, b :: bs => R a b ∧ ab_all2 R as bs
  | _, _ => False
theorem ab_all2_mono {α β : Type} {R S : α → β → Prop} (h : ∀ a b, R a b → S a b) : ∀ (as : List α) (bs : List β), ab_all2 R as bs → ab_all2 S as bs
  | [], [], _ => trivial
  | _ :: as, _ :: bs, q => ⟨h _ _ q.1, ab_all2_mono h as bs q.2⟩
  | [], _ :: _, q => q.elim
  | _ :: _, [], q => q.elim
abbrev ab_L : Type := List (Nat × ab_V)
def ab_sR (ρ : List Int) (sa : List ab_V) (st : List Value) : Prop := ab_all2 (ab_R ρ) sa st
def ab_lR (ρ : List Int) (la : ab_L) (lv : sm_L) : Prop := ab_all2 (fun a b => a.1 = b.1 ∧ ab_R ρ a.2 b.2) la lv
theorem ab_sR_app {ρ x : List Int} {sa : List ab_V} {st : List Value} (h : ab_sR ρ sa st) : ab_sR (ρ ++ x) sa st := ab_all2_mono (fun _ _ q => ab_R_app q) sa st h
theorem ab_lR_app {ρ x : List Int} {la : ab_L} {lv : sm_L} (h : ab_lR ρ la lv) : ab_lR (ρ ++ x) la lv := ab_all2_mono (fun _ _ q => ⟨q.1, ab_R_app q.2⟩) la lv h
def ab_is2 (a : ab_V) : Bool := match a with
  | .inr (.inl _) => true
  | _ => false
theorem ab_R_cat {ρ : List Int} {a : ab_V} {v : Value} (h : ab_R ρ a v) : (v.category == 2) = ab_is2 a := by
  unfold ab_R at h
  split at h
  · rw [h.2]; rfl
  · rw [h.2]; rfl
  · rw [h]; rfl
  · rw [h]; rfl
  · rw [h]; rfl
theorem ab_R_cat1 {ρ : List Int} {a : ab_V} {v : Value} (h : ab_R ρ a v) (h2 : ab_is2 a = false) : v.category = 1 := by
  have h1 := ab_R_cat h
  rw [h2] at h1
  rcases lv_cat v with q | q
  · exact q
  · rw [q] at h1; cases h1
theorem ab_R_cat2 {ρ : List Int} {a : ab_V} {v : Value} (h : ab_R ρ a v) (h2 : ab_is2 a = true) : v.category = 2 := by
  have h1 := ab_R_cat h
  rw [h2] at h1
  exact eq_of_beq h1
def ab_lk (la : ab_L) (k : Nat) : Option ab_V := match la.find? (fun q => Nat.beq q.1 k) with
  | some q => some q.2
  | none => none
def ab_s1 (la : ab_L) (k : Nat) (v : ab_V) : ab_L := (k, v) :: la.filter (fun q => !(Nat.beq q.1 k) && !(Nat.beq (q.1 + 1) k && ab_is2 q.2))
def ab_s2 (la : ab_L) (k : Nat) (v : ab_V) : ab_L := (k, v) :: la.filter (fun q => !(Nat.beq q.1 k) && (!(Nat.beq q.1 (k + 1)) && !(Nat.beq (q.1 + 1) k && ab_is2 q.2)))
theorem ab_beq (a b : Nat) : (a == b) = Nat.beq a b := Bool.eq_iff_iff.mpr (by rw [beq_iff_eq, Nat.beq_eq])
theorem ab_lk_ok {ρ : List Int} {k : Nat} {a : ab_V} : ∀ {la : ab_L} {lv : sm_L}, ab_lR ρ la lv → ab_lk la k = some a → ∃ v, sm_lk lv k = some v ∧ ab_R ρ a v
  | [], [], _, h => by cases h
  | [], _ :: _, q, _ => q.elim
  | _ :: _, [], q, _ => q.elim
  | (j, b) :: la, (j2, w) :: lv, q, h => by
    obtain ⟨⟨e, hR⟩, hr⟩ := q
    dsimp only at e hR
    subst e
    unfold ab_lk at h
    unfold sm_lk
    rw [List.find?_cons] at h ⊢
    dsimp only at h ⊢
    rw [ab_beq]
    cases hb : Nat.beq j k with
    | true =>
      rw [hb] at h
      cases h
      exact ⟨w, rfl, hR⟩
    | false =>
      rw [hb] at h
      exact ab_lk_ok (la := la) (lv := lv) hr h
theorem ab_fil {ρ : List Int} {f : Nat × ab_V → Bool} {g : Nat × Value → Bool} (hfg : ∀ a b, a.1 = b.1 ∧ ab_R ρ a.2 b.2 → f a = g b) : ∀ {la : ab_L} {lv : sm_L}, ab_lR ρ la lv → ab_lR ρ (la.filter f) (lv.filter g)
  | [], [], _ => trivial
  | [], _ :: _, q => q.elim
  | _ :: _, [], q => q.elim
  | a :: la, b :: lv, q => by
    have h1 := hfg a b q.1
    have h2 := ab_fil hfg (la := la) (lv := lv) q.2
    rw [List.filter_cons, List.filter_cons, h1]
    cases g b with
    | true => exact ⟨q.1, h2⟩
    | false => exact h2
theorem ab_s1_ok {ρ : List Int} {la : ab_L} {lv : sm_L} {k : Nat} {a : ab_V} {v : Value} (h : ab_lR ρ la lv) (hv : ab_R ρ a v) : ab_lR ρ (ab_s1 la k a) (sm_s1 lv k v) :=
  ⟨⟨rfl, hv⟩, ab_fil (fun a b q => by rw [ab_beq, ab_beq, q.1, ab_R_cat q.2]) h⟩
theorem ab_s2_ok {ρ : List Int} {la : ab_L} {lv : sm_L} {k : Nat} {a : ab_V} {v : Value} (h : ab_lR ρ la lv) (hv : ab_R ρ a v) : ab_lR ρ (ab_s2 la k a) (sm_s2 lv k v) :=
  ⟨⟨rfl, hv⟩, ab_fil (fun a b q => by rw [ab_beq, ab_beq, ab_beq, q.1, ab_R_cat q.2]) h⟩
/-- a computed int: what is known, how many names, its name -/
abbrev ab_Q : Type := ab_E × Nat × (Nat × Int)
def ab_sp (ρ : List Int) (z : Int32) (r : ab_Q) : Prop := ∃ x : List Int, ab_ok (ρ ++ x) r.1 ∧ r.2.1 = (ρ ++ x).length ∧ r.2.2.1 < (ρ ++ x).length ∧ z = Int32.ofInt ((ρ ++ x).getD r.2.2.1 0 + r.2.2.2)
def ab_spl (ρ : List Int) (z : Int64) (r : ab_Q) : Prop := ∃ x : List Int, ab_ok (ρ ++ x) r.1 ∧ r.2.1 = (ρ ++ x).length ∧ r.2.2.1 < (ρ ++ x).length ∧ z = Int64.ofInt ((ρ ++ x).getD r.2.2.1 0 + r.2.2.2)
def ab_fr (E : ab_E) (n : Nat) (a b : Int) : ab_Q := (((n, a, b) :: E.1, E.2), n + 1, (n, 0))
theorem ab_ok_new {ρ : List Int} {E : ab_E} {z a b : Int} (h : ab_ok ρ E) (h1 : a ≤ z) (h2 : z ≤ b) : ab_ok (ρ ++ [z]) ((ρ.length, a, b) :: E.1, E.2) := by
  obtain ⟨g0, g1, g2, g3, g4⟩ := ab_ok_app (x := [z]) h
  refine ⟨g0, g1, fun q hq => ?_, g3, g4⟩
  rcases List.mem_cons.mp hq with rfl | hq
  · rw [ab_getD_new, List.length_append]
    exact ⟨by simp, h1, h2⟩
  · exact g2 q hq
theorem ab_sp_ex {ρ : List Int} {E : ab_E} {n : Nat} {z : Int32} {q : Nat × Int} (h : ab_ok ρ E) (hn : n = ρ.length) (h1 : q.1 < ρ.length) (h2 : z = Int32.ofInt (ρ.getD q.1 0 + q.2)) : ab_sp ρ z (E, n, q) := ⟨[], by rw [List.append_nil]; exact h, by rw [List.append_nil]; exact hn, by rw [List.append_nil]; exact h1, by rw [List.append_nil]; exact h2⟩
theorem ab_spl_ex {ρ : List Int} {E : ab_E} {n : Nat} {z : Int64} {q : Nat × Int} (h : ab_ok ρ E) (hn : n = ρ.length) (h1 : q.1 < ρ.length) (h2 : z = Int64.ofInt (ρ.getD q.1 0 + q.2)) : ab_spl ρ z (E, n, q) := ⟨[], by rw [List.append_nil]; exact h, by rw [List.append_nil]; exact hn, by rw [List.append_nil]; exact h1, by rw [List.append_nil]; exact h2⟩
theorem ab_sp_fr {ρ : List Int} {E : ab_E} {n : Nat} {z : Int32} {a b : Int} (h : ab_ok ρ E) (hn : n = ρ.length) (h1 : a ≤ z.toInt) (h2 : z.toInt ≤ b) : ab_sp ρ z (ab_fr E n a b) := by
  subst hn
  refine ⟨[z.toInt], ab_ok_new h h1 h2, by simp [ab_fr], by simp [ab_fr], ?_⟩
  show z = Int32.ofInt ((ρ ++ [z.toInt]).getD ρ.length 0 + 0)
  rw [ab_getD_new, Int.add_zero, Int32.ofInt_toInt]
theorem ab_spl_fr {ρ : List Int} {E : ab_E} {n : Nat} {z : Int64} {a b : Int} (h : ab_ok ρ E) (hn : n = ρ.length) (h1 : a ≤ z.toInt) (h2 : z.toInt ≤ b) : ab_spl ρ z (ab_fr E n a b) := by
  subst hn
  refine ⟨[z.toInt], ab_ok_new h h1 h2, by simp [ab_fr], by simp [ab_fr], ?_⟩
  show z = Int64.ofInt ((ρ ++ [z.toInt]).getD ρ.length 0 + 0)
  rw [ab_getD_new, Int.add_zero, Int64.ofInt_toInt]
def ab_fl (E : ab_E) (n : Nat) : ab_Q := ab_fr E n (-2147483648) 2147483647
def ab_fll (E : ab_E) (n : Nat) : ab_Q := ab_fr E n (-9223372036854775808) 9223372036854775807
theorem ab_sp_fl {ρ : List Int} {E : ab_E} {n : Nat} {z : Int32} (h : ab_ok ρ E) (hn : n = ρ.length) : ab_sp ρ z (ab_fl E n) := ab_sp_fr h hn (by have := Int32.le_toInt z; simpa using this) (by have := Int32.toInt_le z; rwa [show Int32.maxValue.toInt = 2147483647 by decide] at this)
theorem ab_spl_fl {ρ : List Int} {E : ab_E} {n : Nat} {z : Int64} (h : ab_ok ρ E) (hn : n = ρ.length) : ab_spl ρ z (ab_fll E n) := ab_spl_fr h hn (by have := Int64.le_toInt z; simpa using this) (by have := Int64.toInt_le z; rwa [show Int64.maxValue.toInt = 9223372036854775807 by decide] at this)
def ab_add (E : ab_E) (n : Nat) (p q : Nat × Int) : ab_Q := match p.1, q.1 with
  | 0, _ => (E, n, (q.1, p.2 + q.2))
  | _, 0 => (E, n, (p.1, p.2 + q.2))
  | _, _ => ab_fl E n
def ab_addl (E : ab_E) (n : Nat) (p q : Nat × Int) : ab_Q := match p.1, q.1 with
  | 0, _ => (E, n, (q.1, p.2 + q.2))
  | _, 0 => (E, n, (p.1, p.2 + q.2))
  | _, _ => ab_fll E n
def ab_sub (E : ab_E) (n : Nat) (p q : Nat × Int) : ab_Q := match q.1 with
  | 0 => (E, n, (p.1, p.2 - q.2))
  | _ => bif Nat.beq p.1 q.1 then (E, n, (0, p.2 - q.2)) else ab_fl E n
def ab_subl (E : ab_E) (n : Nat) (p q : Nat × Int) : ab_Q := match q.1 with
  | 0 => (E, n, (p.1, p.2 - q.2))
  | _ => bif Nat.beq p.1 q.1 then (E, n, (0, p.2 - q.2)) else ab_fll E n
def ab_cs (f : Int32 → Int32 → Int32) (E : ab_E) (n : Nat) (p q : Nat × Int) : ab_Q := match p.1, q.1 with
  | 0, 0 => (E, n, (0, (f (Int32.ofInt p.2) (Int32.ofInt q.2)).toInt))
  | _, _ => ab_fl E n
def ab_csl (f : Int64 → Int64 → Int64) (E : ab_E) (n : Nat) (p q : Nat × Int) : ab_Q := match p.1, q.1 with
  | 0, 0 => (E, n, (0, (f (Int64.ofInt p.2) (Int64.ofInt q.2)).toInt))
  | _, _ => ab_fll E n
theorem ab_add_ok {ρ : List Int} {E : ab_E} {n : Nat} {p q : Nat × Int} (h : ab_ok ρ E) (hn : n = ρ.length) (hp : p.1 < ρ.length) (hq : q.1 < ρ.length) : ab_sp ρ (Int32.ofInt (ρ.getD p.1 0 + p.2) + Int32.ofInt (ρ.getD q.1 0 + q.2)) (ab_add E n p q) := by
  unfold ab_add
  split
  · next h0 => exact ab_sp_ex h hn hq (by rw [h0, h.2.1, ← Int32.ofInt_add]; congr 1; dsimp only; omega)
  · next h0 _ => exact ab_sp_ex h hn hp (by rw [h0, h.2.1, ← Int32.ofInt_add]; congr 1; dsimp only; omega)
  · exact ab_sp_fl h hn
theorem ab_addl_ok {ρ : List Int} {E : ab_E} {n : Nat} {p q : Nat × Int} (h : ab_ok ρ E) (hn : n = ρ.length) (hp : p.1 < ρ.length) (hq : q.1 < ρ.length) : ab_spl ρ (Int64.ofInt (ρ.getD p.1 0 + p.2) + Int64.ofInt (ρ.getD q.1 0 + q.2)) (ab_addl E n p q) := by
  unfold ab_addl
  split
  · next h0 => exact ab_spl_ex h hn hq (by rw [h0, h.2.1, ← Int64.ofInt_add]; congr 1; dsimp only; omega)
  · next h0 _ => exact ab_spl_ex h hn hp (by rw [h0, h.2.1, ← Int64.ofInt_add]; congr 1; dsimp only; omega)
  · exact ab_spl_fl h hn
theorem ab_sub_ok {ρ : List Int} {E : ab_E} {n : Nat} {p q : Nat × Int} (h : ab_ok ρ E) (hn : n = ρ.length) (hp : p.1 < ρ.length) : ab_sp ρ (Int32.ofInt (ρ.getD p.1 0 + p.2) - Int32.ofInt (ρ.getD q.1 0 + q.2)) (ab_sub E n p q) := by
  unfold ab_sub
  split
  · next h0 => exact ab_sp_ex h hn hp (by rw [h0, h.2.1, ← Int32.ofInt_sub]; congr 1; dsimp only; omega)
  · cases hb : Nat.beq p.1 q.1 with
    | true => exact ab_sp_ex h hn h.1 (by rw [Nat.eq_of_beq_eq_true hb, ← Int32.ofInt_sub]; congr 1; dsimp only; rw [h.2.1]; omega)
    | false => exact ab_sp_fl h hn
theorem ab_subl_ok {ρ : List Int} {E : ab_E} {n : Nat} {p q : Nat × Int} (h : ab_ok ρ E) (hn : n = ρ.length) (hp : p.1 < ρ.length) : ab_spl ρ (Int64.ofInt (ρ.getD p.1 0 + p.2) - Int64.ofInt (ρ.getD q.1 0 + q.2)) (ab_subl E n p q) := by
  unfold ab_subl
  split
  · next h0 => exact ab_spl_ex h hn hp (by rw [h0, h.2.1, ← Int64.ofInt_sub]; congr 1; dsimp only; omega)
  · cases hb : Nat.beq p.1 q.1 with
    | true => exact ab_spl_ex h hn h.1 (by rw [Nat.eq_of_beq_eq_true hb, ← Int64.ofInt_sub]; congr 1; dsimp only; rw [h.2.1]; omega)
    | false => exact ab_spl_fl h hn
theorem ab_cs_ok {ρ : List Int} {E : ab_E} {n : Nat} {p q : Nat × Int} (f : Int32 → Int32 → Int32) (h : ab_ok ρ E) (hn : n = ρ.length) : ab_sp ρ (f (Int32.ofInt (ρ.getD p.1 0 + p.2)) (Int32.ofInt (ρ.getD q.1 0 + q.2))) (ab_cs f E n p q) := by
  unfold ab_cs
  split
  · next h0 h1 => exact ab_sp_ex h hn h.1 (by rw [h0, h1, h.2.1]; rw [Int.zero_add, Int.zero_add, Int.zero_add, Int32.ofInt_toInt])
  · exact ab_sp_fl h hn
theorem ab_csl_ok {ρ : List Int} {E : ab_E} {n : Nat} {p q : Nat × Int} (f : Int64 → Int64 → Int64) (h : ab_ok ρ E) (hn : n = ρ.length) : ab_spl ρ (f (Int64.ofInt (ρ.getD p.1 0 + p.2)) (Int64.ofInt (ρ.getD q.1 0 + q.2))) (ab_csl f E n p q) := by
  unfold ab_csl
  split
  · next h0 h1 => exact ab_spl_ex h hn h.1 (by rw [h0, h1, h.2.1]; rw [Int.zero_add, Int.zero_add, Int.zero_add, Int64.ofInt_toInt])
  · exact ab_spl_fl h hn
/-- nothing times anything is nothing -/
def ab_z0 (q : Nat × Int) : Bool := Nat.beq q.1 0 && (ab_ile 0 q.2 && ab_ile q.2 0)
theorem ab_z0_ok {ρ : List Int} {E : ab_E} {q : Nat × Int} (h : ab_ok ρ E) (hz : ab_z0 q = true) : ρ.getD q.1 0 + q.2 = 0 := by
  unfold ab_z0 at hz
  have h1 := (Bool.and_eq_true _ _).mp hz
  have h2 := (Bool.and_eq_true _ _).mp h1.2
  have a := ab_ile_iff.mp h2.1
  have b := ab_ile_iff.mp h2.2
  rw [Nat.eq_of_beq_eq_true h1.1, h.2.1]
  omega
def ab_mul (E : ab_E) (n : Nat) (p q : Nat × Int) : ab_Q := bif ab_z0 p || ab_z0 q then (E, n, (0, 0)) else ab_cs (fun x y => x * y) E n p q
def ab_mull (E : ab_E) (n : Nat) (p q : Nat × Int) : ab_Q := bif ab_z0 p || ab_z0 q then (E, n, (0, 0)) else ab_csl (fun x y => x * y) E n p q
theorem ab_mul_ok {ρ : List Int} {E : ab_E} {n : Nat} {p q : Nat × Int} (h : ab_ok ρ E) (hn : n = ρ.length) : ab_sp ρ (Int32.ofInt (ρ.getD p.1 0 + p.2) * Int32.ofInt (ρ.getD q.1 0 + q.2)) (ab_mul E n p q) := by
  unfold ab_mul
  cases hb : (ab_z0 p || ab_z0 q) with
  | false => exact ab_cs_ok _ h hn
  | true =>
    refine ab_sp_ex h hn h.1 ?_
    rw [h.2.1, Int.zero_add]
    rcases Bool.or_eq_true_iff.mp hb with h1 | h1
    · rw [ab_z0_ok h h1]
      exact Int32.zero_mul
    · rw [ab_z0_ok h h1]
      exact Int32.mul_zero
theorem ab_mull_ok {ρ : List Int} {E : ab_E} {n : Nat} {p q : Nat × Int} (h : ab_ok ρ E) (hn : n = ρ.length) : ab_spl ρ (Int64.ofInt (ρ.getD p.1 0 + p.2) * Int64.ofInt (ρ.getD q.1 0 + q.2)) (ab_mull E n p q) := by
  unfold ab_mull
  cases hb : (ab_z0 p || ab_z0 q) with
  | false => exact ab_csl_ok _ h hn
  | true =>
    refine ab_spl_ex h hn h.1 ?_
    rw [h.2.1, Int.zero_add]
    rcases Bool.or_eq_true_iff.mp hb with h1 | h1
    · rw [ab_z0_ok h h1]
      exact Int64.zero_mul
    · rw [ab_z0_ok h h1]
      exact Int64.mul_zero
