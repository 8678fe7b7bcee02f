/-! The tables say what the code says. -/
noncomputable def ab_lvs {α : Type} (t : Lean.RArray (Nat × α)) : List (Nat × α) := Lean.RArray.rec (motive := fun _ => List (Nat × α) → List (Nat × α)) (fun x r => x :: r) (fun _ _ _ l r z => l (r z)) t []
theorem ab_lvs_mem0 {α : Type} (t : Lean.RArray (Nat × α)) : ∀ (z : List (Nat × α)) (x : Nat × α), (x ∈ z → x ∈ Lean.RArray.rec (motive := fun _ => List (Nat × α) → List (Nat × α)) (fun x r => x :: r) (fun _ _ _ l r z => l (r z)) t z) ∧ ∀ v, ab_get t x.1 = some v → (x.1, v) ∈ Lean.RArray.rec (motive := fun _ => List (Nat × α) → List (Nat × α)) (fun x r => x :: r) (fun _ _ _ l r z => l (r z)) t z := by
  induction t with
  | leaf y =>
    intro z x
    refine ⟨fun h => List.mem_cons_of_mem _ h, fun v h => ?_⟩
    rw [ab_get_leaf] at h
    split at h
    · next e =>
      cases h
      rw [← e]
      exact List.mem_cons_self
    · cases h
  | branch p l r ihl ihr =>
    intro z x
    refine ⟨fun h => (ihl _ _).1 ((ihr _ _).1 h), fun v h => ?_⟩
    rw [ab_get_branch] at h
    split at h
    · exact (ihl _ _).1 ((ihr _ x).2 v h)
    · exact (ihl _ x).2 v h
theorem ab_lvs_mem {α : Type} {t : Lean.RArray (Nat × α)} {j : Nat} {v : α} (h : ab_get t j = some v) : (j, v) ∈ ab_lvs t := (ab_lvs_mem0 t [] (j, v)).2 v h
def pr_dk (c : ByteArray) (l : List (Nat × ab_I)) : Prop := ∀ e ∈ l, decode c e.1 = .ok (e.2.2.2.1, e.2.2.2.2.1) ∧ (sm_len e.2.2.2.1 = 0 ∨ e.2.2.2.2.1 = sm_len e.2.2.2.1)
/-- a long method by hundreds -/
noncomputable def pr_dr (l : List (Nat × ab_I)) (n : Nat) : List (Nat × ab_I) := Nat.rec (motive := fun _ => List (Nat × ab_I)) l (fun _ x => x.drop 60) n
theorem pr_dk_cut {c : ByteArray} {l : List (Nat × ab_I)} (n : Nat) (h1 : pr_dk c ((pr_dr l n).take 60)) (h2 : pr_dk c (pr_dr l (n + 1))) : pr_dk c (pr_dr l n) := by
  intro e he
  rw [← List.take_append_drop 60 (pr_dr l n)] at he
  rcases List.mem_append.mp he with h | h
  · exact h1 e h
  · exact h2 e h
