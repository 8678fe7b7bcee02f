/-! trees -/
noncomputable def ab_get {α : Type} (t : Lean.RArray (Nat × α)) (j : Nat) : Option α := Lean.RArray.rec (motive := fun _ => Option α) (fun x => Bool.rec (motive := fun _ => Option α) none (some x.2) (Nat.beq x.1 j)) (fun p _ _ l r => Bool.rec (motive := fun _ => Option α) l r (Nat.ble p j)) t
noncomputable def ab_set {α : Type} (t : Lean.RArray (Nat × α)) (j : Nat) (v : α) : Lean.RArray (Nat × α) := Lean.RArray.rec (motive := fun _ => Lean.RArray (Nat × α)) (fun x => Bool.rec (motive := fun _ => Lean.RArray (Nat × α)) (.leaf x) (.leaf (j, v)) (Nat.beq x.1 j)) (fun p l0 r0 l r => Bool.rec (motive := fun _ => Lean.RArray (Nat × α)) (.branch p l r0) (.branch p l0 r) (Nat.ble p j)) t
noncomputable def ab_setK {α : Type} (t : Lean.RArray (Nat × α)) (j : Nat) (v : α) : (Lean.RArray (Nat × α) → Bool) → Bool := Lean.RArray.rec (motive := fun _ => (Lean.RArray (Nat × α) → Bool) → Bool) (fun x k => Bool.rec (motive := fun _ => Bool) (k (.leaf x)) (k (.leaf (j, v))) (Nat.beq x.1 j)) (fun p l0 r0 l r k => Bool.rec (motive := fun _ => Bool) (l (fun l1 => k (.branch p l1 r0))) (r (fun r1 => k (.branch p l0 r1))) (Nat.ble p j)) t
theorem ab_setK_eq {α : Type} (t : Lean.RArray (Nat × α)) (j : Nat) (v : α) (k : Lean.RArray (Nat × α) → Bool) : ab_setK t j v k = k (ab_set t j v) := by
  induction t generalizing k with
  | leaf x =>
    show Bool.rec _ _ (Nat.beq x.1 j) = k (Bool.rec _ _ (Nat.beq x.1 j))
    cases Nat.beq x.1 j <;> rfl
  | branch p l r ihl ihr =>
    show Bool.rec (ab_setK l j v fun l1 => k (.branch p l1 r)) (ab_setK r j v fun r1 => k (.branch p l r1)) (Nat.ble p j) = k (Bool.rec (.branch p (ab_set l j v) r) (.branch p l (ab_set r j v)) (Nat.ble p j))
    rw [ihl, ihr]
    cases Nat.ble p j <;> rfl
theorem ab_get_leaf {α : Type} (x : Nat × α) (j : Nat) : ab_get (.leaf x) j = if x.1 = j then some x.2 else none := by
  show Bool.rec (motive := fun _ => Option α) none (some x.2) (Nat.beq x.1 j) = _
  by_cases h : x.1 = j
  · rw [if_pos h, (by rw [h]; exact Nat.beq_refl j : Nat.beq x.1 j = true)]
  · rw [if_neg h, (Bool.eq_false_iff.mpr (fun q => h (Nat.eq_of_beq_eq_true q)) : Nat.beq x.1 j = false)]
theorem ab_get_branch {α : Type} (p : Nat) (l r : Lean.RArray (Nat × α)) (j : Nat) : ab_get (.branch p l r) j = if p ≤ j then ab_get r j else ab_get l j := by
  show Bool.rec (motive := fun _ => Option α) (ab_get l j) (ab_get r j) (Nat.ble p j) = _
  by_cases h : p ≤ j
  · rw [if_pos h, Nat.ble_eq.mpr h]
  · rw [if_neg h, (Bool.eq_false_iff.mpr (fun q => h (Nat.ble_eq.mp q)) : Nat.ble p j = false)]
theorem ab_get_set {α : Type} (t : Lean.RArray (Nat × α)) (j : Nat) (v : α) (k : Nat) : ab_get (ab_set t j v) k = if k = j ∧ (ab_get t j).isSome = true then some v else ab_get t k := by
  induction t with
  | leaf x =>
    show ab_get (Bool.rec (motive := fun _ => Lean.RArray (Nat × α)) (.leaf x) (.leaf (j, v)) (Nat.beq x.1 j)) k = _
    rw [ab_get_leaf]
    by_cases h : x.1 = j
    · rw [(by rw [h]; exact Nat.beq_refl j : Nat.beq x.1 j = true)]
      show ab_get (.leaf (j, v)) k = _
      rw [ab_get_leaf, ab_get_leaf, if_pos h, h]
      by_cases hk : k = j
      · rw [if_pos hk.symm, if_pos ⟨hk, rfl⟩]
      · rw [if_neg (fun q => hk q.symm), if_neg (fun q => hk q.1), if_neg (fun q => hk q.symm)]
    · rw [(Bool.eq_false_iff.mpr (fun q => h (Nat.eq_of_beq_eq_true q)) : Nat.beq x.1 j = false)]
      show ab_get (.leaf x) k = _
      rw [if_neg h, if_neg (fun q => by cases q.2)]
  | branch p l r ihl ihr =>
    show ab_get (Bool.rec (motive := fun _ => Lean.RArray (Nat × α)) (.branch p (ab_set l j v) r) (.branch p l (ab_set r j v)) (Nat.ble p j)) k = _
    rw [ab_get_branch, ab_get_branch]
    by_cases h : p ≤ j
    · rw [Nat.ble_eq.mpr h, if_pos h]
      show ab_get (.branch p l (ab_set r j v)) k = _
      rw [ab_get_branch, ihr]
      by_cases hk : p ≤ k
      · rw [if_pos hk, if_pos hk]
      · rw [if_neg hk, if_neg hk, if_neg (fun q => hk (by omega))]
    · rw [(Bool.eq_false_iff.mpr (fun q => h (Nat.ble_eq.mp q)) : Nat.ble p j = false), if_neg h]
      show ab_get (.branch p (ab_set l j v) r) k = _
      rw [ab_get_branch, ihl]
      by_cases hk : p ≤ k
      · rw [if_pos hk, if_pos hk, if_neg (fun q => h (by omega))]
      · rw [if_neg hk, if_neg hk]
/-- an instruction (is it watched, of which group, itself, its length, its numbers); a method (how many it is given, how called, of which kind, locals, what it answers, its code) -/
abbrev ab_I : Type := Bool × Nat × Instr × Nat × List Nat
abbrev ab_M : Type := Nat × Nat × Nat × Nat × Nat × Lean.RArray (Nat × ab_I)
