/-! Symbolic runs of one method: names stand for numbers in reach, a heap is a table of numbers by register and place. First values, locals. -/
abbrev zE : Type := Nat → Nat → Int
abbrev zK : Type := Nat × Nat × List (Nat × Int)
def zn (ρ : List Int) (q : Nat × Int) : Int := bif Nat.beq q.1 0 then q.2 else ρ.getD q.1 0
def z32 (z : Int) : Prop := -2147483648 ≤ z ∧ z ≤ 2147483647
def z64 (z : Int) : Prop := -9223372036854775808 ≤ z ∧ z ≤ 9223372036854775807
theorem z32_64 {z : Int} (h : z32 z) : z64 z := by unfold z32 at h; unfold z64; omega
theorem z32_to (x : Int32) : z32 x.toInt := by
  have h1 := Int32.le_toInt x
  have h2 := Int32.toInt_le x
  rw [show Int32.maxValue.toInt = 2147483647 by decide] at h2
  exact ⟨by simpa using h1, h2⟩
theorem z64_to (x : Int64) : z64 x.toInt := by
  have h1 := Int64.le_toInt x
  have h2 := Int64.toInt_le x
  rw [show Int64.maxValue.toInt = 9223372036854775807 by decide] at h2
  exact ⟨by simpa using h1, h2⟩
theorem z32_of {z : Int} (h : z32 z) : (Int32.ofInt z).toInt = z := ab_toInt h.1 h.2
theorem z64_of {z : Int} (h : z64 z) : (Int64.ofInt z).toInt = z := Int64.toInt_ofInt_of_le (by simpa using h.1) (by have := h.2; simpa using (show z < 9223372036854775808 by omega))
def zR (α : Nat → Nat) (ρ : List Int) (a : ab_V) (v : Value) : Prop := match a with
  | .inl q => q.1 < ρ.length ∧ z32 (zn ρ q) ∧ v = .int (Int32.ofInt (zn ρ q))
  | .inr (.inl q) => q.1 < ρ.length ∧ z64 (zn ρ q) ∧ v = .long (Int64.ofInt (zn ρ q))
  | .inr (.inr (.inl r)) => v = .ref (α r)
  | .inr (.inr (.inr (.inl j))) => v = .retAddr j
  | .inr (.inr (.inr (.inr _))) => v.category = 1
theorem zn_app {ρ x : List Int} {q : Nat × Int} (h : q.1 < ρ.length) : zn (ρ ++ x) q = zn ρ q := by
  unfold zn
  rw [ab_getD_app h]
theorem zR_app {α : Nat → Nat} {ρ x : List Int} {a : ab_V} {v : Value} (h : zR α ρ a v) : zR α (ρ ++ x) a v := by
  unfold zR at h ⊢
  split
  · exact ⟨by rw [List.length_append]; omega, by rw [zn_app h.1]; exact h.2⟩
  · exact ⟨by rw [List.length_append]; omega, by rw [zn_app h.1]; exact h.2⟩
  · exact h
  · exact h
  · exact h
theorem zR_cat {α : Nat → Nat} {ρ : List Int} {a : ab_V} {v : Value} (h : zR α ρ a v) : (v.category == 2) = ab_is2 a := by
  unfold zR at h
  split at h
  · rw [h.2.2]; rfl
  · rw [h.2.2]; rfl
  · rw [h]; rfl
  · rw [h]; rfl
  · rw [h]; rfl
theorem zR_cat1 {α : Nat → Nat} {ρ : List Int} {a : ab_V} {v : Value} (h : zR α ρ a v) (h2 : ab_is2 a = false) : v.category = 1 := by
  have h1 := zR_cat h
  rw [h2] at h1
  rcases lv_cat v with q | q
  · exact q
  · rw [q] at h1; cases h1
theorem zR_cat2 {α : Nat → Nat} {ρ : List Int} {a : ab_V} {v : Value} (h : zR α ρ a v) (h2 : ab_is2 a = true) : v.category = 2 := by
  have h1 := zR_cat h
  rw [h2] at h1
  exact eq_of_beq h1
def zS (α : Nat → Nat) (ρ : List Int) (sa : List ab_V) (st : List Value) : Prop := ab_all2 (zR α ρ) sa st
def zL (α : Nat → Nat) (ρ : List Int) (la : ab_L) (lv : sm_L) : Prop := ∀ q ∈ la, ∃ v, sm_lk lv q.1 = some v ∧ zR α ρ q.2 v
theorem zS_app {α : Nat → Nat} {ρ x : List Int} {sa : List ab_V} {st : List Value} (h : zS α ρ sa st) : zS α (ρ ++ x) sa st := ab_all2_mono (fun _ _ q => zR_app q) sa st h
theorem zL_app {α : Nat → Nat} {ρ x : List Int} {la : ab_L} {lv : sm_L} (h : zL α ρ la lv) : zL α (ρ ++ x) la lv := fun q hq => by
  obtain ⟨v, h1, h2⟩ := h q hq
  exact ⟨v, h1, zR_app h2⟩
theorem zS_cons {α : Nat → Nat} {ρ : List Int} {a : ab_V} {sa : List ab_V} {st : List Value} (hs : zS α ρ (a :: sa) st) : ∃ v st2, st = v :: st2 ∧ zR α ρ a v ∧ zS α ρ sa st2 := by
  cases st with
  | nil => exact hs.elim
  | cons v st2 => exact ⟨v, st2, rfl, hs.1, hs.2⟩
theorem zL_lk {α : Nat → Nat} {ρ : List Int} {k : Nat} {a : ab_V} {la : ab_L} {lv : sm_L} (h : zL α ρ la lv) (hk : ab_lk la k = some a) : ∃ v, sm_lk lv k = some v ∧ zR α ρ a v := by
  unfold ab_lk at hk
  split at hk
  · next q hq =>
    cases hk
    have h0 := List.find?_some hq
    have h1 : q.1 = k := Nat.eq_of_beq_eq_true h0
    have h2 := h q (List.mem_of_find?_eq_some hq)
    rw [h1] at h2
    exact h2
  · cases hk
theorem sm_lk_fil {f : Nat × Value → Bool} {k : Nat} {v : Value} : ∀ {lv : sm_L}, sm_lk lv k = some v → f (k, v) = true → sm_lk (lv.filter f) k = some v
  | [], h, _ => by cases h
  | (j, w) :: lv, h, hf => by
    unfold sm_lk at h
    rw [List.find?_cons] at h
    dsimp only at h
    cases hb : (j == k) with
    | true =>
      rw [hb] at h
      have e1 : j = k := eq_of_beq hb
      have e2 : w = v := by simpa using h
      subst e1; subst e2
      rw [List.filter_cons, if_pos hf]
      unfold sm_lk
      rw [List.find?_cons]
      dsimp only
      rw [hb]
      rfl
    | false =>
      rw [hb] at h
      have ih := sm_lk_fil (lv := lv) (f := f) h hf
      rw [List.filter_cons]
      split
      · unfold sm_lk
        rw [List.find?_cons]
        dsimp only
        rw [hb]
        exact ih
      · exact ih
theorem sm_lk_head {lv : sm_L} {k : Nat} {v : Value} : sm_lk ((k, v) :: lv) k = some v := by
  unfold sm_lk
  rw [List.find?_cons]
  simp
theorem sm_lk_tail {lv : sm_L} {k j : Nat} {v w : Value} (h : ¬ j = k) (hk : sm_lk lv k = some w) : sm_lk ((j, v) :: lv) k = some w := by
  unfold sm_lk
  rw [List.find?_cons]
  dsimp only
  rw [show (j == k) = false from beq_eq_false_iff_ne.mpr h]
  exact hk
theorem zL_s1 {α : Nat → Nat} {ρ : List Int} {la : ab_L} {lv : sm_L} {k : Nat} {a : ab_V} {v : Value} (h : zL α ρ la lv) (hv : zR α ρ a v) : zL α ρ (ab_s1 la k a) (sm_s1 lv k v) := by
  intro q hq
  rcases List.mem_cons.mp hq with rfl | hq
  · exact ⟨v, sm_lk_head, hv⟩
  · obtain ⟨h1, h2⟩ := List.mem_filter.mp hq
    obtain ⟨w, h3, h4⟩ := h q h1
    have h5 := (Bool.and_eq_true _ _).mp h2
    have h6 : ¬ q.1 = k := fun e => by
      have := h5.1
      rw [e] at this
      rw [show Nat.beq k k = true from Nat.beq_refl k] at this
      cases this
    refine ⟨w, sm_lk_tail (fun e => h6 e.symm) (sm_lk_fil h3 ?_), h4⟩
    dsimp only
    rw [ab_beq, ab_beq, zR_cat h4]
    exact h2
theorem zL_s2 {α : Nat → Nat} {ρ : List Int} {la : ab_L} {lv : sm_L} {k : Nat} {a : ab_V} {v : Value} (h : zL α ρ la lv) (hv : zR α ρ a v) : zL α ρ (ab_s2 la k a) (sm_s2 lv k v) := by
  intro q hq
  rcases List.mem_cons.mp hq with rfl | hq
  · exact ⟨v, sm_lk_head, hv⟩
  · obtain ⟨h1, h2⟩ := List.mem_filter.mp hq
    obtain ⟨w, h3, h4⟩ := h q h1
    have h5 := (Bool.and_eq_true _ _).mp h2
    have h6 : ¬ q.1 = k := fun e => by
      have := h5.1
      rw [e] at this
      rw [show Nat.beq k k = true from Nat.beq_refl k] at this
      cases this
    refine ⟨w, sm_lk_tail (fun e => h6 e.symm) (sm_lk_fil h3 ?_), h4⟩
    dsimp only
    rw [ab_beq, ab_beq, ab_beq, zR_cat h4]
    exact h2
/-! what an operation answers -/
def zf (c : Nat) (x y : Int32) : Int32 := match c with
  | 1 => x + y
  | 2 => x - y
  | 3 => x * y
  | 4 => x &&& y
  | 5 => x ||| y
  | 6 => x <<< (y &&& 31)
  | 7 => x >>> (y &&& 31)
  | 8 => (x.toUInt32 >>> (y.toUInt32 &&& Int32.toUInt32 31)).toInt32
  | 9 => x / y
  | 10 => x - x / y * y
  | 11 => -x
  | 12 => x.toInt8.toInt32
  | 13 => (x.toUInt32 % 65536).toInt32
  | _ => x
def zg (c : Nat) (x y : Int64) : Int64 := match c with
  | 1 => x + y
  | 2 => x - y
  | 3 => x * y
  | 4 => x &&& y
  | 9 => x / y
  | 10 => x - x / y * y
  | 11 => -x
  | _ => x
/-- kinds of makings: 0 of two ints, 1 of two longs, 2 a long cut, 3 a comparing of longs -/
def zd (k c : Nat) (x y : Int) : Int := match k with
  | 0 => (zf c (Int32.ofInt x) (Int32.ofInt y)).toInt
  | 1 => (zg c (Int64.ofInt x) (Int64.ofInt y)).toInt
  | 2 => (Int64.ofInt x).toInt32.toInt
  | _ => (lg_cmp (Int64.ofInt x) (Int64.ofInt y)).toInt
/-- numbers of a type: 0 int, 1 truth, 2 long, 4 byte -/
def zok (t : Nat) (z : Int) : Prop := match t with
  | 0 => z32 z
  | 1 => 0 ≤ z ∧ z ≤ 1
  | 2 => z64 z
  | 4 => -128 ≤ z ∧ z ≤ 127
  | _ => True
def zval (t : Nat) (z : Int) : Value := match t with
  | 2 => .long (Int64.ofInt z)
  | _ => .int (Int32.ofInt z)
theorem zok32 {t : Nat} {z : Int} (h : zok t z) (ht : t = 0 ∨ t = 1 ∨ t = 4) : z32 z := by
  rcases ht with rfl | rfl | rfl
  · exact h
  · have h : 0 ≤ z ∧ z ≤ 1 := h
    unfold z32
    omega
  · have h : -128 ≤ z ∧ z ≤ 127 := h
    unfold z32
    omega
