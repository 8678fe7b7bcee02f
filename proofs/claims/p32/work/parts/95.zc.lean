/-! Cells by registers; what a path of tokens says. -/
abbrev zCl : Type := Nat × Nat × List Nat
abbrev zTm : Type := Lean.RArray (Nat × zCl)
abbrev zRt : Type := List (Nat × Nat × Nat)
def zty (c : zCl) (j : Nat) : Nat := bif Nat.ble 100 c.1 then (match c.1 with
  | 100 => 0
  | 101 => 4
  | 102 => 1
  | 103 => 2
  | _ => 3) else c.2.2.getD j 9
def zrt (rt : zRt) (r j : Nat) : Option Nat := match rt.find? (fun q => Nat.beq q.1 r && Nat.beq q.2.1 j) with
  | some q => some q.2.2
  | none => none
def zC (α : Nat → Nat) (rt : zRt) (η : zE) (r : Nat) (c : zCl) (q : sm_C) : Prop := q.1 = c.1 ∧ q.2.length = c.2.1 ∧ ∀ j, j < c.2.1 → (zty c j ≠ 3 → zty c j ≠ 9 → zok (zty c j) (η r j) ∧ q.2[j]? = some (zval (zty c j) (η r j))) ∧ ∀ t, zrt rt r j = some t → zty c j = 3 → q.2[j]? = some (.ref (α t))
def zHp (T : zTm) (α : Nat → Nat) (rt : zRt) (η : zE) (h : List sm_C) : Prop := ∀ r c, ab_get T r = some c → ∃ q, h[α r]? = some q ∧ zC α rt η r c q
def zInj (T : zTm) (α : Nat → Nat) : Prop := ∀ r r' c c', ab_get T r = some c → ab_get T r' = some c' → α r = α r' → r = r'
def zFr (T : zTm) (α : Nat → Nat) (h h' : List sm_C) : Prop := h'.length = h.length ∧ ∀ b, (∀ r c, ab_get T r = some c → α r ≠ b) → h'[b]? = h[b]?
def zup (η : zE) (r j : Nat) (z : Int) : zE := fun r' j' => if r' = r ∧ j' = j then z else η r' j'
theorem zFr_rf {T : zTm} {α : Nat → Nat} {h : List sm_C} : zFr T α h h := ⟨rfl, fun _ _ => rfl⟩
theorem zFr_tr {T : zTm} {α : Nat → Nat} {h h1 h2 : List sm_C} (a : zFr T α h h1) (b : zFr T α h1 h2) : zFr T α h h2 := ⟨b.1.trans a.1, fun x hx => (b.2 x hx).trans (a.2 x hx)⟩
theorem zFr_set {T : zTm} {α : Nat → Nat} {h : List sm_C} {r : Nat} {c : zCl} {q : sm_C} (hr : ab_get T r = some c) : zFr T α h (h.set (α r) q) := ⟨List.length_set, fun b hb => by rw [List.getElem?_set, if_neg (hb r c hr)]⟩
theorem zHp_st {T : zTm} {α : Nat → Nat} {rt : zRt} {η : zE} {h : List sm_C} {r j : Nat} {c : zCl} {q : sm_C} {z : Int} (hh : zHp T α rt η h) (hi : zInj T α) (hr : ab_get T r = some c) (hq : h[α r]? = some q) (hj : j < c.2.1) (h3 : zty c j ≠ 3) (h9 : zty c j ≠ 9) (hz : zok (zty c j) z) : zHp T α rt (zup η r j z) (h.set (α r) (c.1, q.2.set j (zval (zty c j) z))) := by
  intro r' c' hr'
  obtain ⟨q', g1, g2⟩ := hh r' c' hr'
  have hlt : α r < h.length := (List.getElem?_eq_some_iff.mp hq).1
  by_cases e : r' = r
  · subst e
    rw [hr] at hr'
    cases hr'
    rw [hq] at g1
    cases g1
    refine ⟨_, by rw [List.getElem?_set, if_pos rfl, if_pos hlt], rfl, by rw [List.length_set]; exact g2.2.1, fun k hk => ?_⟩
    obtain ⟨a, b⟩ := g2.2.2 k hk
    refine ⟨fun k3 k9 => ?_, fun t ht k3 => ?_⟩
    · unfold zup
      dsimp only
      by_cases e2 : k = j
      · subst e2
        rw [if_pos ⟨rfl, rfl⟩]
        refine ⟨hz, ?_⟩
        rw [List.getElem?_set, if_pos rfl, if_pos (by rw [g2.2.1]; exact hk)]
      · rw [if_neg (fun w => e2 w.2)]
        refine ⟨(a k3 k9).1, ?_⟩
        rw [List.getElem?_set, if_neg (fun w => e2 w.symm)]
        exact (a k3 k9).2
    · have e2 : ¬ k = j := fun w => by rw [w] at k3; exact h3 k3
      dsimp only
      rw [List.getElem?_set, if_neg (fun w => e2 w.symm)]
      exact b t ht k3
  · have e3 : ¬ α r = α r' := fun w => e (hi r' r c' c hr' hr w.symm)
    refine ⟨q', by rw [List.getElem?_set, if_neg e3]; exact g1, g2.1, g2.2.1, fun k hk => ?_⟩
    obtain ⟨a, b⟩ := g2.2.2 k hk
    refine ⟨fun k3 k9 => ?_, b⟩
    unfold zup
    rw [if_neg (fun w => e w.1)]
    exact a k3 k9
theorem zHp_rf {T : zTm} {α : Nat → Nat} {rt : zRt} {η : zE} {h : List sm_C} {r j t0 : Nat} {c : zCl} {q : sm_C} (hh : zHp T α rt η h) (hi : zInj T α) (hr : ab_get T r = some c) (hq : h[α r]? = some q) (hj : j < c.2.1) (h3 : zty c j = 3) : zHp T α ((r, j, t0) :: rt) η (h.set (α r) (c.1, q.2.set j (.ref (α t0)))) := by
  intro r' c' hr'
  obtain ⟨q', g1, g2⟩ := hh r' c' hr'
  have hlt : α r < h.length := (List.getElem?_eq_some_iff.mp hq).1
  have old : ∀ k t, ¬ (r = r' ∧ j = k) → zrt ((r, j, t0) :: rt) r' k = some t → zrt rt r' k = some t := fun k t hne ht => by
    unfold zrt at ht ⊢
    rw [List.find?_cons] at ht
    dsimp only at ht
    cases hb : (Nat.beq r r' && Nat.beq j k) with
    | true =>
      have h1 := (Bool.and_eq_true _ _).mp hb
      exact absurd ⟨Nat.eq_of_beq_eq_true h1.1, Nat.eq_of_beq_eq_true h1.2⟩ hne
    | false =>
      rw [hb] at ht
      exact ht
  by_cases e : r' = r
  · subst e
    rw [hr] at hr'
    cases hr'
    rw [hq] at g1
    cases g1
    refine ⟨_, by rw [List.getElem?_set, if_pos rfl, if_pos hlt], rfl, by rw [List.length_set]; exact g2.2.1, fun k hk => ?_⟩
    obtain ⟨a, b⟩ := g2.2.2 k hk
    dsimp only
    by_cases e2 : k = j
    · subst e2
      refine ⟨fun k3 _ => absurd h3 k3, fun t ht _ => ?_⟩
      have : t = t0 := by
        unfold zrt at ht
        rw [List.find?_cons] at ht
        dsimp only at ht
        rw [show Nat.beq r' r' = true from Nat.beq_refl _, show Nat.beq k k = true from Nat.beq_refl _] at ht
        simpa using ht.symm
      subst this
      rw [List.getElem?_set, if_pos rfl, if_pos (by rw [g2.2.1]; exact hk)]
    · rw [List.getElem?_set, if_neg (fun w => e2 w.symm)]
      exact ⟨a, fun t ht k3 => b t (old k t (fun w => e2 w.2.symm) ht) k3⟩
  · have e3 : ¬ α r = α r' := fun w => e (hi r' r c' c hr' hr w.symm)
    refine ⟨q', by rw [List.getElem?_set, if_neg e3]; exact g1, g2.1, g2.2.1, fun k hk => ?_⟩
    obtain ⟨a, b⟩ := g2.2.2 k hk
    exact ⟨a, fun t ht k3 => b t (old k t (fun w => e w.1.symm) ht) k3⟩
/-! paths -/
def za (vs : List (Nat × Int)) (i : Nat) : Nat × Int := vs.getD i (0, 0)
def zcd (c : Nat) (x y : Int) : Prop := match c with
  | 0 => x = y
  | 1 => ¬ x = y
  | 2 => x < y
  | 3 => y ≤ x
  | 4 => y < x
  | _ => x ≤ y
/-- what must be so: 0 a place, 1 no 0, 2 a truth, 4 a place of what is only read -/
def zas (ro : Nat → List Int32) (c : Nat) (ρ : List Int) (vs : List (Nat × Int)) : Prop := match c with
  | 0 => 0 ≤ zn ρ (za vs 0) ∧ zn ρ (za vs 0) < zn ρ (za vs 1)
  | 1 => ¬ zn ρ (za vs 0) = 0
  | 2 => 0 ≤ zn ρ (za vs 0) ∧ zn ρ (za vs 0) ≤ 1
  | 4 => 0 ≤ zn ρ (za vs 0) ∧ zn ρ (za vs 0) < ((ro (za vs 1).1).length : Int)
  | _ => False
abbrev zCt : Type := Nat → (List Int → zE → Prop) × (List Int → zE → Int → zE → Prop)
def zden (ro : Nat → List Int32) (C : zCt) (I : Nat → List Int → zE → Prop) (M : Nat → List Int → zE → Nat) (Q : Nat → Int → zE → Prop) (μ : Nat) : List zK → List Int → zE → Prop
  | [], _, _ => True
  | (k, c, vs) :: r, ρ, η => match k with
    | 0 => ∀ x, x = zd 0 c (zn ρ (za vs 0)) (zn ρ (za vs 1)) → zden ro C I M Q μ r (ρ ++ [x]) η
    | 1 => ∀ x, x = zd 1 c (zn ρ (za vs 0)) (zn ρ (za vs 1)) → zden ro C I M Q μ r (ρ ++ [x]) η
    | 2 => ∀ x, x = zd 2 c (zn ρ (za vs 0)) (zn ρ (za vs 1)) → zden ro C I M Q μ r (ρ ++ [x]) η
    | 3 => ∀ x, x = zd 3 c (zn ρ (za vs 0)) (zn ρ (za vs 1)) → zden ro C I M Q μ r (ρ ++ [x]) η
    | 4 => ∀ x, x = η (za vs 0).1 (zn ρ (za vs 1)).toNat → zok c x → zden ro C I M Q μ r (ρ ++ [x]) η
    | 5 => ∀ η', η' = zup η (za vs 0).1 (zn ρ (za vs 1)).toNat (zn ρ (za vs 2)) → zden ro C I M Q μ r ρ η'
    | 6 => zcd c (zn ρ (za vs 0)) (zn ρ (za vs 1)) → zden ro C I M Q μ r ρ η
    | 7 => zas ro c ρ vs
    | 8 => ∀ y η', (C c).2 (vs.map (zn ρ)) η y η' → zden ro C I M Q μ r (ρ ++ [y]) η'
    | 9 => ∀ x, x = ((ro (za vs 1).1).getD (zn ρ (za vs 0)).toNat 0).toInt → zden ro C I M Q μ r (ρ ++ [x]) η
    | 10 => I c (vs.map (zn ρ)) η ∧ M c (vs.map (zn ρ)) η < μ
    | 11 => Q c (zn ρ (za vs 0)) η
    | 12 => I c (vs.map (zn ρ)) η
    | 13 => (C c).1 (vs.map (zn ρ)) η
    | _ => False
