/-! What bounds say of a path: the path. -/
abbrev zPq : Type := List (Int × Int) × zFc
abbrev zMe : Type := Int × List (Int × Nat × Nat × Nat)
/-- what is so if the answer is no 0: numbers (0: none, k + 1: the k-th one given) at most others -/
abbrev zRl : Type := List ((Nat × Int) × (Nat × Int))
abbrev zPo : Type := (Int × Int) × zFc × zRl
abbrev zCs : Type := Nat × zPq × zPo × List zCe
abbrev zIv : Type := Nat × zPq × zMe
def sB : List (Int × Int) → List Int → Prop
  | [], [] => True
  | b :: bs, x :: xs => (b.1 ≤ x ∧ x ≤ b.2) ∧ sB bs xs
  | _, _ => False
def sF (fs : zFc) (η : zE) : Prop := ∀ f ∈ fs, f.2.2.1 ≤ η f.1 f.2.1 ∧ η f.1 f.2.1 ≤ f.2.2.2
def sP (L : wL) (G : zE → Prop) (P : zPq) (xs : List Int) (η : zE) : Prop := wB L G η ∧ sB P.1 xs ∧ sF P.2 η
def zFm (mods : List zCe) (η0 η : zE) : Prop := ∀ r j, zin2 mods r j = false → η r j = η0 r j
/-- behind a method -/
def sR (l : zRl) (xs : List Int) : Prop := ∀ e ∈ l, (0 :: xs).getD e.1.1 0 + e.1.2 ≤ (0 :: xs).getD e.2.1 0 + e.2.2
def sQ (L : wL) (G : zE → Prop) (po : zPo) (mods : List zCe) (xs : List Int) (η : zE) (y : Int) (η' : zE) : Prop := wB L G η' ∧ (po.1.1 ≤ y ∧ y ≤ po.1.2) ∧ sF po.2.1 η' ∧ zFm mods η η' ∧ (¬ y = 0 → sR po.2.2 xs)
/-- a measure: a sum of numbers and cells -/
def sMs (ts : List (Int × Nat × Nat × Nat)) (ys : List Int) (η : zE) : Int := ts.foldr (fun t s => t.1 * (match t.2.1 with
  | 0 => ys.getD t.2.2.1 0
  | _ => η t.2.2.1 t.2.2.2) + s) 0
def sMv (e : zMe) (ys : List Int) (η : zE) : Int := e.1 + sMs e.2 ys η
/-- sums of names -/
abbrev zLf : Type := List (Int × Nat)
def zlv (ρ : List Int) (l : zLf) : Int := l.foldr (fun t s => t.1 * ρ.getD t.2 0 + s) 0
def zli (c : Int) (k : Nat) : zLf → zLf
  | [] => [(c, k)]
  | t :: l => bif Nat.beq t.2 k then (t.1 + c, k) :: l else t :: zli c k l
theorem zli_ok {ρ : List Int} {c : Int} {k : Nat} : ∀ (l : zLf), zlv ρ (zli c k l) = c * ρ.getD k 0 + zlv ρ l
  | [] => rfl
  | t :: l => by
    unfold zli
    cases hb : Nat.beq t.2 k with
    | true =>
      have e := Nat.eq_of_beq_eq_true hb
      show (t.1 + c) * ρ.getD k 0 + zlv ρ l = c * ρ.getD k 0 + (t.1 * ρ.getD t.2 0 + zlv ρ l)
      rw [e, Int.add_mul]
      omega
    | false =>
      show t.1 * ρ.getD t.2 0 + zlv ρ (zli c k l) = c * ρ.getD k 0 + (t.1 * ρ.getD t.2 0 + zlv ρ l)
      rw [zli_ok l]
      omega
/-- the most that a sum can be -/
def zlu (E : ab_E) : zLf → Option Int
  | [] => some 0
  | t :: l => match zlu E l with
    | some u => bif ab_ile 0 t.1 && ab_ile t.1 0 then some u else (match ab_iv E t.2 with
      | some z => some (ab_max (t.1 * z.1) (t.1 * z.2) + u)
      | none => none)
    | none => none
theorem zlu_ok {ρ : List Int} {E : ab_E} (h : ab_ok ρ E) : ∀ {l : zLf} {u : Int}, zlu E l = some u → zlv ρ l ≤ u
  | [], u, q => by cases q; exact Int.le_refl _
  | t :: l, u, q => by
    unfold zlu at q
    split at q
    · next u1 hu =>
      have ih := zlu_ok h hu
      show t.1 * ρ.getD t.2 0 + zlv ρ l ≤ u
      cases hb : (ab_ile 0 t.1 && ab_ile t.1 0) with
      | true =>
        rw [hb] at q
        cases q
        have g := (Bool.and_eq_true _ _).mp hb
        have a := ab_ile_iff.mp g.1
        have b := ab_ile_iff.mp g.2
        have : t.1 = 0 := by omega
        rw [this, Int.zero_mul]
        omega
      | false =>
        rw [hb] at q
        dsimp only [cond_false] at q
        split at q
        · next z hz =>
          cases q
          obtain ⟨_, z1, z2⟩ := ab_iv_ok h hz
          have hmx : t.1 * ρ.getD t.2 0 ≤ ab_max (t.1 * z.1) (t.1 * z.2) := by
            have m1 : t.1 * z.1 ≤ ab_max (t.1 * z.1) (t.1 * z.2) := by
              unfold ab_max
              cases hc : ab_ile (t.1 * z.1) (t.1 * z.2) with
              | true => exact ab_ile_iff.mp hc
              | false => exact Int.le_refl _
            have m2 : t.1 * z.2 ≤ ab_max (t.1 * z.1) (t.1 * z.2) := by
              unfold ab_max
              cases hc : ab_ile (t.1 * z.1) (t.1 * z.2) with
              | true => exact Int.le_refl _
              | false =>
                have : ¬ t.1 * z.1 ≤ t.1 * z.2 := fun w => by rw [ab_ile_iff.mpr w] at hc; cases hc
                show t.1 * z.2 ≤ t.1 * z.1
                omega
            rcases Int.le_total 0 t.1 with g | g
            · exact Int.le_trans (Int.mul_le_mul_of_nonneg_left z2 g) m2
            · exact Int.le_trans (Int.mul_le_mul_of_nonpos_left g z1) m1
          omega
        · cases q
    · cases q
/-- a measure by names: its constant, its sum -/
def zmn (src : Nat × Nat × Nat → Option (Nat × Int)) (sg : Int) : List (Int × Nat × Nat × Nat) → Int × zLf → Option (Int × zLf)
  | [], a => some a
  | t :: ts, a => match src t.2 with
    | some v => zmn src sg ts (a.1 + sg * (t.1 * v.2), zli (sg * t.1) v.1 a.2)
    | none => none
theorem zmn_ok {ρ : List Int} {ys : List Int} {η : zE} {src : Nat × Nat × Nat → Option (Nat × Int)} {sg : Int} (hs : ∀ t v, src t = some v → (match t.1 with
  | 0 => ys.getD t.2.1 0
  | _ => η t.2.1 t.2.2) = ρ.getD v.1 0 + v.2) : ∀ {ts : List (Int × Nat × Nat × Nat)} {a b : Int × zLf}, zmn src sg ts a = some b → b.1 + zlv ρ b.2 = a.1 + zlv ρ a.2 + sg * sMs ts ys η
  | [], a, b, q => by
    cases q
    show _ = _ + sg * 0
    rw [Int.mul_zero, Int.add_zero]
  | t :: ts, a, b, q => by
    unfold zmn at q
    split at q
    · next v hv =>
      have ih := zmn_ok hs q
      have e := hs _ _ hv
      rw [ih]
      dsimp only
      rw [zli_ok]
      show _ = a.1 + zlv ρ a.2 + sg * (t.1 * (match t.2.1 with
        | 0 => ys.getD t.2.2.1 0
        | _ => η t.2.2.1 t.2.2.2) + sMs ts ys η)
      rw [e, Int.mul_add, Int.mul_add, Int.mul_add, Int.mul_assoc]
      omega
    · cases q
def zcf (c : Nat) : ClassFile.Cond := match c with
  | 0 => .eq
  | 1 => .ne
  | 2 => .lt
  | 3 => .ge
  | 4 => .gt
  | _ => .le
theorem zcf_ok {c : Nat} {x y : Int} : zcd c x y ↔ ab_ic (zcf c) x y := by
  match c with
  | 0 => exact Iff.rfl
  | 1 => exact Iff.rfl
  | 2 => exact Iff.rfl
  | 3 => exact Iff.rfl
  | 4 => exact Iff.rfl
  | _ + 5 => exact Iff.rfl
def zsb (E : ab_E) (al : zAl) : List (Int × Int) → List (Nat × Int) → Bool
  | [], [] => true
  | b :: bs, v :: vs => (match ab_rg E (zt al v) with
    | some z => ab_ile b.1 z.1 && ab_ile z.2 b.2
    | none => false) && zsb E al bs vs
  | _, _ => false
def zsf (L : wL) (E : ab_E) (m : zMm) (F : zFc) (fs : zFc) : Bool := fs.all (fun f => match (match zmf m f.1 f.2.1 with
    | some v => ab_rg E v
    | none => (match zff F f.1 f.2.1 with
      | some z => some z
      | none => wf L f.1 f.2.1 f.2.1)) with
  | some z => ab_ile f.2.2.1 z.1 && ab_ile z.2 f.2.2.2
  | none => false)
def zsd (mods dr : List zCe) : Bool := dr.all (fun d => mods.any (fun q => Nat.beq q.1 d.1 && (Nat.beq q.2 0 || Nat.beq q.2 d.2)))
section ZN
variable {L : wL} {G : zE → Prop} {ηs : zE} {ρ : List Int} {η : zE} {E : ab_E} {al : zAl} {n : Nat} {m : zMm} {F : zFc} {m0 : zMm} {dr : List zCe}
theorem zsb_ok (h : zJ L G ηs ρ η E al n m F m0 dr) : ∀ {bs : List (Int × Int)} {vs : List (Nat × Int)}, zsb E al bs vs = true → sB bs (vs.map (zn ρ))
  | [], [], _ => trivial
  | [], _ :: _, q => by cases q
  | _ :: _, [], q => by cases q
  | b :: bs, v :: vs, q => by
    unfold zsb at q
    have g := (Bool.and_eq_true _ _).mp q
    refine ⟨?_, zsb_ok h g.2⟩
    have g1 := g.1
    split at g1
    · next z hz =>
      have a := ab_rg_ok h.1 hz
      have g := (Bool.and_eq_true _ _).mp g1
      have := ab_ile_iff.mp g.1
      have := ab_ile_iff.mp g.2
      rw [zt_ok h v]
      omega
    · cases g1
theorem zsf_ok (h : zJ L G ηs ρ η E al n m F m0 dr) {fs : zFc} (hq : zsf L E m F fs = true) : sF fs η := by
  intro f hf
  have g := List.all_eq_true.mp hq f hf
  split at g
  · next z hz =>
    have g := (Bool.and_eq_true _ _).mp g
    have a := ab_ile_iff.mp g.1
    have b := ab_ile_iff.mp g.2
    have : z.1 ≤ η f.1 f.2.1 ∧ η f.1 f.2.1 ≤ z.2 := by
      split at hz
      · next v hv =>
        have g1 := h.2.2.2.1 _ (zmf_mem hv)
        have g2 := ab_rg_ok h.1 hz
        dsimp only at g1
        omega
      · split at hz
        · next z1 hz1 =>
          cases hz
          exact zff_ok h.2.2.2.2.2.1 hz1
        · exact wf_ok h.2.2.2.2.1 hz (Nat.le_refl _) (Nat.le_refl _)
    omega
  · cases g
theorem zsd_ok {mods : List zCe} {η0 : zE} (h : zJ L G ηs ρ η E al n m F m0 dr) (h0 : zFm mods η0 ηs) (hq : zsd mods dr = true) : zFm mods η0 η := by
  intro r j hr
  rw [h.2.2.2.2.2.2.2 r j (Bool.eq_false_iff.mpr (fun w => ?_)), h0 r j hr]
  obtain ⟨d, hd, d1, d2⟩ := zin2_mem w
  obtain ⟨q, hq1, hq2⟩ := List.any_eq_true.mp (List.all_eq_true.mp hq d hd)
  have g := (Bool.and_eq_true _ _).mp hq2
  have e1 := Nat.eq_of_beq_eq_true g.1
  have : zin2 mods r j = true := zin2_of hq1 (by rw [e1, d1]) (by
    rcases (Bool.or_eq_true _ _).mp g.2 with g | g
    · exact Or.inl (Nat.eq_of_beq_eq_true g)
    · rw [Nat.eq_of_beq_eq_true g]; exact d2)
  rw [hr] at this
  cases this
end ZN
