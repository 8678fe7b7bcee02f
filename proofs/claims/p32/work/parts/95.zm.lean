/-! What bounds say of a path: cells, tokens. -/
abbrev wL : Type := List (Nat × Nat × Nat × Int × Int)
abbrev zAl : Type := List (Nat × Nat × Int)
abbrev zMm : Type := List (Nat × Nat × Nat × Int)
abbrev zFc : Type := List (Nat × Nat × Int × Int)
/-- bounds of cells: register, first place, behind the last one, least, most -/
def wB (L : wL) (G : zE → Prop) (η : zE) : Prop := (∀ q ∈ L, ∀ j, q.2.1 ≤ j → j < q.2.2.1 → q.2.2.2.1 ≤ η q.1 j ∧ η q.1 j ≤ q.2.2.2.2) ∧ G η
/-- a register (its second number 0) or one place of it (its place, and one) -/
abbrev zCe : Type := Nat × Nat
def zin2 (l : List zCe) (r j : Nat) : Bool := l.any (fun q => Nat.beq q.1 r && (Nat.beq q.2 0 || Nat.beq q.2 (j + 1)))
def zinr (l : List zCe) (r : Nat) : Bool := l.any (fun q => Nat.beq q.1 r)
theorem zin2_not {l : List zCe} {r j : Nat} (h : (!(zin2 l r j)) = true) : zin2 l r j = false := by
  cases hb : zin2 l r j with
  | true => rw [hb] at h; cases h
  | false => rfl
theorem zin2_mem {l : List zCe} {r j : Nat} (h : zin2 l r j = true) : ∃ q ∈ l, q.1 = r ∧ (q.2 = 0 ∨ q.2 = j + 1) := by
  obtain ⟨q, h1, h2⟩ := List.any_eq_true.mp h
  have g := (Bool.and_eq_true _ _).mp h2
  refine ⟨q, h1, Nat.eq_of_beq_eq_true g.1, ?_⟩
  rcases (Bool.or_eq_true _ _).mp g.2 with g | g
  · exact Or.inl (Nat.eq_of_beq_eq_true g)
  · exact Or.inr (Nat.eq_of_beq_eq_true g)
theorem zin2_of {l : List zCe} {r j : Nat} {q : zCe} (h1 : q ∈ l) (h2 : q.1 = r) (h3 : q.2 = 0 ∨ q.2 = j + 1) : zin2 l r j = true := by
  refine List.any_eq_true.mpr ⟨q, h1, ?_⟩
  rw [h2, Nat.beq_refl]
  rcases h3 with h | h
  · rw [h]; rfl
  · rw [h]
    show (Nat.beq (j + 1) 0 || Nat.beq (j + 1) (j + 1)) = true
    rw [Nat.beq_refl, Bool.or_true]
theorem zinr_not {l : List zCe} {r j : Nat} (h : (!(zinr l r)) = true) : zin2 l r j = false := by
  cases hb : zin2 l r j with
  | false => rfl
  | true =>
    obtain ⟨q, h1, h2, h3⟩ := zin2_mem hb
    have : zinr l r = true := List.any_eq_true.mpr ⟨q, h1, by rw [h2]; exact Nat.beq_refl r⟩
    rw [this] at h
    cases h
/-- it hangs on some registers alone -/
def zGk (G : zE → Prop) (GR : List zCe) : Prop := ∀ η η' : zE, (∀ r j, zin2 GR r j = true → η' r j = η r j) → G η → G η'
def wf (L : wL) (r a b : Nat) : Option (Int × Int) := match L.find? (fun q => Nat.beq q.1 r && (Nat.ble q.2.1 a && Nat.ble (b + 1) q.2.2.1)) with
  | some q => some q.2.2.2
  | none => none
theorem wf_ok {L : wL} {G : zE → Prop} {η : zE} {r a b : Nat} {z : Int × Int} (h : wB L G η) (hf : wf L r a b = some z) {j : Nat} (h1 : a ≤ j) (h2 : j ≤ b) : z.1 ≤ η r j ∧ η r j ≤ z.2 := by
  unfold wf at hf
  split at hf
  · next q hq =>
    cases hf
    have g := List.find?_some hq
    obtain ⟨g1, g2, g3⟩ := ab_and3 g
    have := h.1 q (List.mem_of_find?_eq_some hq) j (by have := Nat.ble_eq.mp g2; omega) (by have := Nat.ble_eq.mp g3; omega)
    rw [Nat.eq_of_beq_eq_true g1] at this
    exact this
  · cases hf
def wk (L : wL) (GR : List zCe) (r a b : Nat) (z : Int × Int) : Bool := GR.all (fun g => !(Nat.beq g.1 r) || (!(Nat.beq g.2 0) && (Nat.ble g.2 a || Nat.ble (b + 2) g.2))) && L.all (fun q => !(Nat.beq q.1 r) || (Nat.ble q.2.2.1 a || (Nat.ble (b + 1) q.2.1 || (ab_ile q.2.2.2.1 z.1 && ab_ile z.2 q.2.2.2.2))))
theorem wk_ok {L : wL} {G : zE → Prop} {GR : List zCe} {η : zE} {r a b : Nat} {z : Int × Int} (hG : zGk G GR) (h : wB L G η) (hk : wk L GR r a b z = true) {j : Nat} {x : Int} (h1 : a ≤ j) (h2 : j ≤ b) (h3 : z.1 ≤ x) (h4 : x ≤ z.2) : wB L G (zup η r j x) := by
  have hk := (Bool.and_eq_true _ _).mp hk
  refine ⟨?_, hG η _ (fun r' j2 hr' => ?_) h.2⟩
  · intro q hq j' g1 g2
    unfold zup
    by_cases e : q.1 = r ∧ j' = j
    · rw [if_pos e]
      have g := List.all_eq_true.mp hk.2 q hq
      rw [e.1, show Nat.beq r r = true from Nat.beq_refl _] at g
      rcases (Bool.or_eq_true _ _).mp g with g | g
      · cases g
      rcases (Bool.or_eq_true _ _).mp g with g | g
      · have := Nat.ble_eq.mp g
        omega
      rcases (Bool.or_eq_true _ _).mp g with g | g
      · have := Nat.ble_eq.mp g
        omega
      have g := (Bool.and_eq_true _ _).mp g
      have := ab_ile_iff.mp g.1
      have := ab_ile_iff.mp g.2
      omega
    · rw [if_neg e]
      exact h.1 q hq j' g1 g2
  · unfold zup
    rw [if_neg (fun e => by
      obtain ⟨g, m1, m2, m3⟩ := zin2_mem hr'
      have k := List.all_eq_true.mp hk.1 g m1
      rw [m2, e.1, Nat.beq_refl] at k
      rcases (Bool.or_eq_true _ _).mp k with k | k
      · cases k
      have k := (Bool.and_eq_true _ _).mp k
      rcases m3 with m3 | m3
      · rw [m3] at k
        cases k.1
      · rcases (Bool.or_eq_true _ _).mp k.2 with k | k
        · have := Nat.ble_eq.mp k
          have := e.2
          omega
        · have := Nat.ble_eq.mp k
          have := e.2
          omega)]
def zt (al : zAl) (q : Nat × Int) : Nat × Int := bif Nat.beq q.1 0 then (0, q.2) else (match al.find? (fun a => Nat.beq a.1 q.1) with
  | some a => a.2
  | none => (q.1, 0))
/-- what is known -/
def zJ (L : wL) (G : zE → Prop) (ηs : zE) (ρ : List Int) (η : zE) (E : ab_E) (al : zAl) (n : Nat) (m : zMm) (F : zFc) (m0 : zMm) (dr : List zCe) : Prop :=
  ab_ok ρ E ∧ n = ρ.length ∧ (∀ a ∈ al, a.1 < ρ.length ∧ a.2.1 < ρ.length ∧ ρ.getD a.1 0 = ρ.getD a.2.1 0 + a.2.2) ∧ (∀ e ∈ m, e.2.2.1 < ρ.length ∧ η e.1 e.2.1 = ρ.getD e.2.2.1 0 + e.2.2.2) ∧ wB L G η ∧ (∀ f ∈ F, f.2.2.1 ≤ η f.1 f.2.1 ∧ η f.1 f.2.1 ≤ f.2.2.2) ∧ (∀ e ∈ m0, e.2.2.1 < ρ.length ∧ ηs e.1 e.2.1 = ρ.getD e.2.2.1 0 + e.2.2.2) ∧ ∀ r j, zin2 dr r j = false → η r j = ηs r j
section ZM2
variable {L : wL} {G : zE → Prop} {ηs : zE} {ρ : List Int} {η : zE} {E : ab_E} {al : zAl} {n : Nat} {m : zMm} {F : zFc} {m0 : zMm} {dr : List zCe}
theorem zt_ok (h : zJ L G ηs ρ η E al n m F m0 dr) (q : Nat × Int) : zn ρ q = ρ.getD (zt al q).1 0 + (zt al q).2 := by
  unfold zn zt
  cases hb : Nat.beq q.1 0 with
  | true =>
    show q.2 = ρ.getD 0 0 + q.2
    rw [h.1.2.1, Int.zero_add]
  | false =>
    show ρ.getD q.1 0 = _
    dsimp only [cond_false]
    split
    · next a ha =>
      have h1 := List.find?_some ha
      have := (h.2.2.1 a (List.mem_of_find?_eq_some ha)).2.2
      rw [← Nat.eq_of_beq_eq_true h1]
      exact this
    · exact (Int.add_zero _).symm
/-- a new name -/
def zpE (E : ab_E) (n : Nat) (a : zA) : ab_E := match a with
  | .inl _ => E
  | .inr z => ((n, z.1, z.2) :: E.1, E.2)
def zpA (al : zAl) (n : Nat) (a : zA) : zAl := match a with
  | .inl p => (n, p) :: al
  | .inr _ => al
theorem zp_ok {x : Int} {a : zA} (h : zJ L G ηs ρ η E al n m F m0 dr) (ha : zAk ρ x a) : zJ L G ηs (ρ ++ [x]) η (zpE E n a) (zpA al n a) (n + 1) m F m0 dr := by
  obtain ⟨h1, h2, h3, h4, h5, h6, h7, h8⟩ := h
  have up : ∀ {k : Nat}, k < ρ.length → k < (ρ ++ [x]).length ∧ (ρ ++ [x]).getD k 0 = ρ.getD k 0 := fun g => ⟨by rw [List.length_append]; omega, ab_getD_app g⟩
  refine ⟨?_, by rw [List.length_append, h2]; rfl, ?_, fun e he => ?_, h5, h6, fun e he => ?_, h8⟩
  · cases a with
    | inl p => exact ab_ok_app h1
    | inr z =>
      show ab_ok (ρ ++ [x]) ((n, z.1, z.2) :: E.1, E.2)
      rw [h2]
      exact ab_ok_new h1 ha.1 ha.2
  · have old : ∀ b ∈ al, b.1 < (ρ ++ [x]).length ∧ b.2.1 < (ρ ++ [x]).length ∧ (ρ ++ [x]).getD b.1 0 = (ρ ++ [x]).getD b.2.1 0 + b.2.2 := fun b hb => by
      obtain ⟨g1, g2, g3⟩ := h3 b hb
      exact ⟨(up g1).1, (up g2).1, by rw [(up g1).2, (up g2).2]; exact g3⟩
    cases a with
    | inr z => exact old
    | inl p =>
      intro b hb
      rcases List.mem_cons.mp hb with rfl | hb
      · dsimp only
        refine ⟨by rw [List.length_append, h2]; exact Nat.lt_succ_self _, (up ha.1).1, ?_⟩
        rw [h2, ab_getD_new, (up ha.1).2]
        exact ha.2
      · exact old b hb
  · obtain ⟨g1, g2⟩ := h4 e he
    exact ⟨(up g1).1, by rw [(up g1).2]; exact g2⟩
  · obtain ⟨g1, g2⟩ := h7 e he
    exact ⟨(up g1).1, by rw [(up g1).2]; exact g2⟩
def zmf (m : zMm) (r j : Nat) : Option (Nat × Int) := match m.find? (fun e => Nat.beq e.1 r && Nat.beq e.2.1 j) with
  | some e => some e.2.2
  | none => none
theorem zmf_mem {r j : Nat} {v : Nat × Int} (h : zmf m r j = some v) : (r, j, v) ∈ m := by
  unfold zmf at h
  split at h
  · next e he =>
    cases h
    have g := List.find?_some he
    have g := (Bool.and_eq_true _ _).mp g
    rw [← Nat.eq_of_beq_eq_true g.1, ← Nat.eq_of_beq_eq_true g.2]
    exact List.mem_of_find?_eq_some he
  · cases h
/-- bounds by type -/
def zby (c : Nat) : zA := match c with
  | 0 => zF32
  | 1 => .inr (0, 1)
  | 2 => zF64
  | 4 => .inr (-128, 127)
  | _ => .inl (0, 0)
theorem zby_ok {c : Nat} {x : Int} (hc : (Nat.ble c 2 || Nat.beq c 4) = true) (h : zok c x) : zAk ρ x (zby c) := by
  rcases (Bool.or_eq_true _ _).mp hc with g | g
  · have := Nat.ble_eq.mp g
    match c, this with
    | 0, _ => exact h
    | 1, _ => exact h
    | 2, _ => exact h
  · have := Nat.eq_of_beq_eq_true g
    subst this
    exact h
def zff (F : zFc) (r j : Nat) : Option (Int × Int) := match F.find? (fun f => Nat.beq f.1 r && Nat.beq f.2.1 j) with
  | some f => some f.2.2
  | none => none
theorem zff_ok {r j : Nat} {z : Int × Int} (hF : ∀ f ∈ F, f.2.2.1 ≤ η f.1 f.2.1 ∧ η f.1 f.2.1 ≤ f.2.2.2) (h : zff F r j = some z) : z.1 ≤ η r j ∧ η r j ≤ z.2 := by
  unfold zff at h
  split at h
  · next e he =>
    cases h
    have g := List.find?_some he
    have g := (Bool.and_eq_true _ _).mp g
    have := hF e (List.mem_of_find?_eq_some he)
    rw [Nat.eq_of_beq_eq_true g.1, Nat.eq_of_beq_eq_true g.2] at this
    exact this
  · cases h
/-- a place that is sure -/
def zsu (E : ab_E) (p : Nat × Int) : Option Nat := match ab_rg E p with
  | some z => bif ab_ile z.2 z.1 && ab_ile 0 z.1 then some z.1.toNat else none
  | none => none
theorem zsu_ok {p : Nat × Int} {j : Nat} (h : ab_ok ρ E) (hs : zsu E p = some j) : (ρ.getD p.1 0 + p.2).toNat = j := by
  unfold zsu at hs
  split at hs
  · next z hz =>
    have a := ab_rg_ok h hz
    cases hb : (ab_ile z.2 z.1 && ab_ile 0 z.1) with
    | false => rw [hb] at hs; cases hs
    | true =>
      rw [hb] at hs
      cases hs
      have g := (Bool.and_eq_true _ _).mp hb
      have := ab_ile_iff.mp g.1
      have := ab_ile_iff.mp g.2
      omega
  · cases hs
/-- places between -/
def zbe (E : ab_E) (p : Nat × Int) : Option (Nat × Nat) := match ab_rg E p with
  | some z => bif ab_ile 0 z.1 then some (z.1.toNat, z.2.toNat) else none
  | none => none
theorem zbe_ok {p : Nat × Int} {w : Nat × Nat} (h : ab_ok ρ E) (hs : zbe E p = some w) : w.1 ≤ (ρ.getD p.1 0 + p.2).toNat ∧ (ρ.getD p.1 0 + p.2).toNat ≤ w.2 := by
  unfold zbe at hs
  split at hs
  · next z hz =>
    have a := ab_rg_ok h hz
    cases hb : ab_ile 0 z.1 with
    | false => rw [hb] at hs; cases hs
    | true =>
      rw [hb] at hs
      cases hs
      have := ab_ile_iff.mp hb
      dsimp only
      omega
  · cases hs
/-- a cell's bounds, a sure place first -/
def zlo1 (L : wL) (F : zFc) (c r j : Nat) : zA := match zff F r j with
  | some z => .inr z
  | none => (match wf L r j j with
    | some z => .inr z
    | none => zby c)
theorem zlo1_ok {c r j : Nat} (h : zJ L G ηs ρ η E al n m F m0 dr) (hc : (Nat.ble c 2 || Nat.beq c 4) = true) (hx : zok c (η r j)) : zAk ρ (η r j) (zlo1 L F c r j) := by
  unfold zlo1
  split
  · next z hz => exact zff_ok h.2.2.2.2.2.1 hz
  · split
    · next z hz => exact wf_ok h.2.2.2.2.1 hz (Nat.le_refl _) (Nat.le_refl _)
    · exact zby_ok hc hx
def zlo2 (L : wL) (E : ab_E) (c r : Nat) (p : Nat × Int) : zA := match zbe E p with
  | some w => (match wf L r w.1 w.2 with
    | some z => .inr z
    | none => zby c)
  | none => zby c
theorem zlo2_ok {c r : Nat} {p : Nat × Int} (h : zJ L G ηs ρ η E al n m F m0 dr) (hc : (Nat.ble c 2 || Nat.beq c 4) = true) (hx : zok c (η r (ρ.getD p.1 0 + p.2).toNat)) : zAk ρ (η r (ρ.getD p.1 0 + p.2).toNat) (zlo2 L E c r p) := by
  unfold zlo2
  split
  · next w hw =>
    have a := zbe_ok h.1 hw
    split
    · next z hz => exact wf_ok h.2.2.2.2.1 hz a.1 a.2
    · exact zby_ok hc hx
  · exact zby_ok hc hx
end ZM2
