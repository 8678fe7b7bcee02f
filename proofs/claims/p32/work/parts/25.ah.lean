/-! Cells, over what is known: a kind, a length, the contents one by one (a tree), or bounds of them all. -/
abbrev ab_C : Type := Nat × Nat × (Lean.RArray (Nat × ab_V) ⊕ (Int × Int))
abbrev ab_H : Type := Lean.RArray (Nat × ab_C)
def ab_in (ρ : List Int) (n : Nat) (c : Lean.RArray (Nat × ab_V) ⊕ (Int × Int)) (vs : List Value) : Prop := match c with
  | .inl t => ∀ j, j < n → ∃ b, ab_get t j = some b ∧ ab_R ρ b (vs.getD j .null)
  | .inr z => ∀ j, j < n → ∃ x : Int, vs.getD j .null = .int (Int32.ofInt x) ∧ z.1 ≤ x ∧ x ≤ z.2
def ab_cR (ρ : List Int) (a : ab_C) (q : sm_C) : Prop := q.1 = a.1 ∧ q.2.length = a.2.1 ∧ ab_in ρ a.2.1 a.2.2 q.2
def ab_hR (ρ : List Int) (t : ab_H) (hn : Nat) (h : List sm_C) : Prop := h.length = hn ∧ ∀ (k : Nat) (q : sm_C), h[k]? = some q → ∃ a, ab_get t k = some a ∧ ab_cR ρ a q
theorem ab_in_app {ρ x : List Int} {n : Nat} {c : Lean.RArray (Nat × ab_V) ⊕ (Int × Int)} {vs : List Value} (h : ab_in ρ n c vs) : ab_in (ρ ++ x) n c vs := by
  unfold ab_in at h ⊢
  split
  · intro j hj
    obtain ⟨b, h1, h2⟩ := h j hj
    exact ⟨b, h1, ab_R_app h2⟩
  · exact h
theorem ab_hR_app {ρ x : List Int} {t : ab_H} {hn : Nat} {h : List sm_C} (hh : ab_hR ρ t hn h) : ab_hR (ρ ++ x) t hn h := ⟨hh.1, fun k q hk => by
  obtain ⟨a, h1, h2, h3, h4⟩ := hh.2 k q hk
  exact ⟨a, h1, h2, h3, ab_in_app h4⟩⟩
/-- the cell at an address -/
theorem ab_cell {ρ : List Int} {t : ab_H} {hn a : Nat} {h : List sm_C} {kd len : Nat} {c : Lean.RArray (Nat × ab_V) ⊕ (Int × Int)} (hh : ab_hR ρ t hn h) (hg : ab_get t a = some (kd, len, c)) (ha : Nat.ble (a + 1) hn = true) : ∃ vs, h[a]? = some (kd, vs) ∧ vs.length = len ∧ ab_in ρ len c vs := by
  have h1 : a < h.length := by rw [hh.1]; exact Nat.ble_eq.mp ha
  obtain ⟨b, g1, g2, g3, g4⟩ := hh.2 a _ (List.getElem?_eq_getElem h1)
  rw [hg] at g1
  cases g1
  exact ⟨h[a].2, by rw [List.getElem?_eq_getElem h1]; exact congrArg some (Prod.ext g2 rfl), g3, g4⟩
/-- what is written: nothing; at a cell one of its contents; at a cell the bounds -/
abbrev ab_W : Type := Unit ⊕ (Nat × Nat × Nat × ((Lean.RArray (Nat × ab_V) × Nat × ab_V) ⊕ (Int × Int)))
noncomputable def ab_aw (t : ab_H) (w : ab_W) : ab_H := match w with
  | .inl _ => t
  | .inr (a, kd, len, .inl (ft, j, v)) => ab_set t a (kd, len, .inl (ab_set ft j v))
  | .inr (a, kd, len, .inr z) => ab_set t a (kd, len, .inr z)
noncomputable def ab_awK (t : ab_H) (w : ab_W) (k : ab_H → Bool) : Bool := match w with
  | .inl _ => k t
  | .inr (a, kd, len, .inl (ft, j, v)) => ab_setK ft j v (fun ft' => ab_setK t a (kd, len, .inl ft') k)
  | .inr (a, kd, len, .inr z) => ab_setK t a (kd, len, .inr z) k
theorem ab_awK_eq (t : ab_H) (w : ab_W) (k : ab_H → Bool) : ab_awK t w k = k (ab_aw t w) := by
  unfold ab_awK ab_aw
  split
  · rfl
  · rw [ab_setK_eq, ab_setK_eq]
  · rw [ab_setK_eq]
theorem ab_hset {ρ : List Int} {t : ab_H} {hn a : Nat} {h : List sm_C} {c0 c1 : ab_C} {q1 : sm_C} (hh : ab_hR ρ t hn h) (hg : ab_get t a = some c0) (hc : ab_cR ρ c1 q1) : ab_hR ρ (ab_set t a c1) hn (h.set a q1) := by
  refine ⟨by rw [List.length_set]; exact hh.1, fun k q hk => ?_⟩
  rw [List.getElem?_set] at hk
  rw [ab_get_set]
  by_cases he : a = k
  · subst he
    rw [if_pos rfl] at hk
    split at hk
    · cases hk
      exact ⟨c1, if_pos ⟨rfl, by rw [hg]; rfl⟩, hc⟩
    · cases hk
  · rw [if_neg he] at hk
    rw [if_neg (fun z => he z.1.symm)]
    exact hh.2 k q hk
theorem ab_in_set {ρ : List Int} {n j : Nat} {ft : Lean.RArray (Nat × ab_V)} {vs : List Value} {b0 b : ab_V} {v : Value} (h : ab_in ρ n (.inl ft) vs) (hl : vs.length = n) (hg : ab_get ft j = some b0) (hv : ab_R ρ b v) : ab_in ρ n (.inl (ab_set ft j b)) (vs.set j v) := by
  intro k hk
  rw [ab_get_set, List.getD_eq_getElem?_getD, List.getElem?_set]
  by_cases he : j = k
  · subst he
    rw [if_pos ⟨rfl, by rw [hg]; rfl⟩, if_pos rfl, if_pos (by omega)]
    exact ⟨b, rfl, hv⟩
  · rw [if_neg (fun z => he z.1.symm), if_neg he, ← List.getD_eq_getElem?_getD]
    exact h k hk
theorem ab_in_hull {ρ : List Int} {n j : Nat} {z w : Int × Int} {vs : List Value} {x : Int} (h : ab_in ρ n (.inr z) vs) (hl : vs.length = n) (h1 : w.1 ≤ x) (h2 : x ≤ w.2) : ab_in ρ n (.inr (ab_min z.1 w.1, ab_max z.2 w.2)) (vs.set j (.int (Int32.ofInt x))) := by
  have m1 : ab_min z.1 w.1 ≤ z.1 ∧ ab_min z.1 w.1 ≤ w.1 := by
    unfold ab_min
    cases hb : ab_ile z.1 w.1 with
    | true => exact ⟨Int.le_refl _, ab_ile_iff.mp hb⟩
    | false => exact ⟨by have : ¬ z.1 ≤ w.1 := fun q => by rw [ab_ile_iff.mpr q] at hb; cases hb
                         show w.1 ≤ z.1
                         omega, Int.le_refl _⟩
  have m2 : z.2 ≤ ab_max z.2 w.2 ∧ w.2 ≤ ab_max z.2 w.2 := by
    unfold ab_max
    cases hb : ab_ile z.2 w.2 with
    | true => exact ⟨ab_ile_iff.mp hb, Int.le_refl _⟩
    | false => exact ⟨Int.le_refl _, by have : ¬ z.2 ≤ w.2 := fun q => by rw [ab_ile_iff.mpr q] at hb; cases hb
                                        show w.2 ≤ z.2
                                        omega⟩
  intro k hk
  rw [List.getD_eq_getElem?_getD, List.getElem?_set]
  by_cases he : j = k
  · subst he
    rw [if_pos rfl, if_pos (by omega)]
    exact ⟨x, rfl, by dsimp only; omega, by dsimp only; omega⟩
  · rw [if_neg he, ← List.getD_eq_getElem?_getD]
    obtain ⟨y, a, b, c⟩ := h k hk
    exact ⟨y, a, by dsimp only; omega, by dsimp only; omega⟩
abbrev ab_Th : Type := Option (ab_E × Nat × Nat × List ab_V × ab_W)
def ab_lt100 (k : Nat) : Bool := Nat.ble k 99
noncomputable def ab_gf (dt : List Nat) (pc : Nat) (E : ab_E) (n : Nat) (t : ab_H) (hn : Nat) (sa : List ab_V) : ab_Th := match dt, sa with
  | [ci, k, _], .inr (.inr (.inl a)) :: r => match ab_get t a with
    | some (kd, len, .inl ft) => bif Nat.beq kd ci && (ab_lt100 ci && (Nat.ble (k + 1) len && Nat.ble (a + 1) hn)) then (match ab_get ft k with
      | some v => some (E, n, pc + 3, v :: r, .inl ())
      | none => none) else none
    | _ => none
  | _, _ => none
def ab_fit (E : ab_E) (t : Nat) (v : ab_V) : Bool := match v with
  | .inl q => Nat.beq t 0 || (Nat.beq t 1 && (match ab_rg E q with
    | some z => ab_ile 0 z.1 && ab_ile z.2 1
    | none => false))
  | .inr (.inl _) => Nat.beq t 2
  | .inr (.inr (.inl _)) => Nat.beq t 3
  | .inr (.inr (.inr (.inl _))) => false
  | .inr (.inr (.inr (.inr _))) => Nat.beq t 3
noncomputable def ab_pf (dt : List Nat) (pc : Nat) (E : ab_E) (n : Nat) (t : ab_H) (hn : Nat) (sa : List ab_V) : ab_Th := match dt, sa with
  | [ci, k, ty], v :: .inr (.inr (.inl a)) :: r => match ab_get t a with
    | some (kd, len, .inl ft) => bif Nat.beq kd ci && (ab_lt100 ci && (Nat.ble (k + 1) len && (Nat.ble (a + 1) hn && ab_fit E ty v))) then (match ab_get ft k with
      | some _ => some (E, n, pc + 3, r, .inr (a, kd, len, .inl (ft, k, v)))
      | none => none) else none
    | _ => none
  | _, _ => none
theorem ab_fit_ok {ρ : List Int} {E : ab_E} {t : Nat} {a : ab_V} {v : Value} (h : ab_ok ρ E) (hv : ab_R ρ a v) (hf : ab_fit E t a = true) : sm_fit t v = true := by
  unfold ab_R at hv
  split at hv
  · next q =>
    obtain ⟨_, rfl⟩ := hv
    unfold ab_fit at hf
    dsimp only at hf
    unfold sm_fit
    dsimp only
    rw [ab_beq, ab_beq]
    rcases Bool.or_eq_true_iff.mp hf with h1 | h1
    · rw [h1]; rfl
    · have h2 := (Bool.and_eq_true _ _).mp h1
      rw [h2.1]
      have h3 := h2.2
      split at h3
      · next z hz =>
        have h4 := (Bool.and_eq_true _ _).mp h3
        have h5 := ab_ile_iff.mp h4.1
        have h6 := ab_ile_iff.mp h4.2
        have h7 := ab_rg_ok h hz
        rcases (by omega : ρ.getD q.1 0 + q.2 = 0 ∨ ρ.getD q.1 0 + q.2 = 1) with h8 | h8
        · rw [h8, show Int32.ofInt 0 = 0 from rfl]; simp
        · rw [h8, show Int32.ofInt 1 = 1 from rfl]; simp
      · cases h3
  · obtain ⟨_, rfl⟩ := hv
    show (t == 2) = true
    rw [ab_beq]
    exact hf
  · subst hv
    show (t == 3) = true
    rw [ab_beq]
    exact hf
  · cases hf
  · subst hv
    show (t == 3) = true
    rw [ab_beq]
    exact hf
section ABH
variable {ρ : List Int} {E E' : ab_E} {n n' pc pc' hn : Nat} {sa sa' : List ab_V} {st : List Value} {t : ab_H} {h : List sm_C} {w : ab_W} {dt : List Nat} {ro : Nat → List Int32}
/-- what an abstract step at cells must give -/
def ab_Gh (ρ : List Int) (E' : ab_E) (n' : Nat) (sa' : List ab_V) (t' : ab_H) (hn : Nat) (st' : List Value) (h' : List sm_C) : Prop := ∃ x : List Int, ab_ok (ρ ++ x) E' ∧ n' = (ρ ++ x).length ∧ ab_sR (ρ ++ x) sa' st' ∧ ab_hR (ρ ++ x) t' hn h'
theorem ab_Gh_same (ho : ab_ok ρ E) (hn0 : n = ρ.length) {st' : List Value} {t' : ab_H} {h' : List sm_C} (hs : ab_sR ρ sa' st') (hh : ab_hR ρ t' hn h') : ab_Gh ρ E n sa' t' hn st' h' := ⟨[], by rw [List.append_nil]; exact ⟨ho, hn0, hs, hh⟩⟩
theorem ab_and4 {a b c d : Bool} (h : (a && (b && (c && d))) = true) : a = true ∧ b = true ∧ c = true ∧ d = true := by
  cases a <;> cases b <;> cases c <;> cases d <;> simp_all
theorem ab_gf_ok (ho : ab_ok ρ E) (hn0 : n = ρ.length) (hs : ab_sR ρ sa st) (hh : ab_hR ρ t hn h) (hq : ab_gf dt pc E n t hn sa = some (E', n', pc', sa', w)) : ∃ st' h', sm_gf dt pc st h = some (pc', st', h') ∧ ab_Gh ρ E' n' sa' (ab_aw t w) hn st' h' := by
  unfold ab_gf at hq
  split at hq
  · next ci k ty a r =>
    obtain ⟨v, s1, rfl, h1, hs1⟩ := ab_s_cons hs
    obtain rfl := h1
    split at hq
    · next kd len ft hg =>
      cases hb : (Nat.beq kd ci && (ab_lt100 ci && (Nat.ble (k + 1) len && Nat.ble (a + 1) hn))) with
      | false => rw [hb] at hq; cases hq
      | true =>
        rw [hb] at hq
        obtain ⟨b1, b2, b3, b4⟩ := ab_and4 hb
        have e1 := Nat.eq_of_beq_eq_true b1
        have e2 : ci < 100 := by have := Nat.ble_eq.mp b2; omega
        have e3 : k < len := Nat.ble_eq.mp b3
        obtain ⟨vs, g1, g2, g3⟩ := ab_cell hh hg b4
        dsimp only [cond_true] at hq
        split at hq
        · next b hb2 =>
          cases hq
          obtain ⟨b3, g4, g5⟩ := g3 k e3
          rw [hb2] at g4
          cases g4
          refine ⟨vs.getD k .null :: s1, h, ?_, ab_Gh_same ho hn0 ⟨g5, hs1⟩ hh⟩
          unfold sm_gf
          dsimp only
          rw [g1]
          dsimp only
          rw [if_pos ⟨e1, e2⟩, List.getD_eq_getElem?_getD, List.getElem?_eq_getElem (by omega : k < vs.length)]
          rfl
        · cases hq
    · cases hq
  · cases hq
theorem ab_pf_ok (ho : ab_ok ρ E) (hn0 : n = ρ.length) (hs : ab_sR ρ sa st) (hh : ab_hR ρ t hn h) (hq : ab_pf dt pc E n t hn sa = some (E', n', pc', sa', w)) : ∃ st' h', sm_pf dt pc st h = some (pc', st', h') ∧ ab_Gh ρ E' n' sa' (ab_aw t w) hn st' h' := by
  unfold ab_pf at hq
  split at hq
  · next ci k ty v a r =>
    obtain ⟨v1, s1, rfl, h1, hs1⟩ := ab_s_cons hs
    obtain ⟨v2, s2, rfl, h2, hs2⟩ := ab_s_cons hs1
    obtain rfl := h2
    split at hq
    · next kd len ft hg =>
      cases hb : (Nat.beq kd ci && (ab_lt100 ci && (Nat.ble (k + 1) len && (Nat.ble (a + 1) hn && ab_fit E ty v)))) with
      | false => rw [hb] at hq; cases hq
      | true =>
        rw [hb] at hq
        obtain ⟨b1, b2, b3, b45⟩ := ab_and4 hb
        obtain ⟨b4, b5⟩ := (Bool.and_eq_true _ _).mp b45
        have e1 := Nat.eq_of_beq_eq_true b1
        have e2 : ci < 100 := by have := Nat.ble_eq.mp b2; omega
        have e3 : k < len := Nat.ble_eq.mp b3
        obtain ⟨vs, g1, g2, g3⟩ := ab_cell hh hg b4
        dsimp only [cond_true] at hq
        split at hq
        · next b0 hb0 =>
          cases hq
          subst e1
          refine ⟨s2, h.set a (kd, vs.set k v1), ?_, ab_Gh_same ho hn0 hs2 (ab_hset hh hg ⟨rfl, by rw [List.length_set]; exact g2, ab_in_set g3 g2 hb0 h1⟩)⟩
          unfold sm_pf
          dsimp only
          rw [g1]
          dsimp only
          rw [if_pos ⟨rfl, e2, by omega, ab_fit_ok ho h1 b5⟩]
        · cases hq
    · cases hq
  · cases hq
end ABH
