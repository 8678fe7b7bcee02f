def tm_n : zTm := tm_k
def wl_n : wL := wl_k
def gr_n : List zCe := [(nat_lit 0, nat_lit 8), (nat_lit 0, nat_lit 7), (nat_lit 0, nat_lit 9), (nat_lit 0, nat_lit 10), (nat_lit 2, nat_lit 0), (nat_lit 19, nat_lit 0), (nat_lit 20, nat_lit 0), (nat_lit 21, nat_lit 0), (nat_lit 0, nat_lit 20), (nat_lit 0, nat_lit 45), (nat_lit 16, nat_lit 0), (nat_lit 18, nat_lit 0)]
/-! What a path says, its numbers the last one first: looked up at once. -/
def znL (n : Nat) (ρ : List Int) (q : Nat × Int) : Int := bif Nat.beq q.1 0 then q.2 else bif Nat.ble (q.1 + 1) n then ρ.getD (n - 1 - q.1) 0 else 0
theorem znL_eq {n : Nat} {ρ : List Int} (hn : n = ρ.length) : znL n ρ = zn ρ.reverse := by
  funext q
  unfold znL zn
  cases hb : Nat.beq q.1 0 with
  | true => rfl
  | false =>
    show (bif Nat.ble (q.1 + 1) n then ρ.getD (n - 1 - q.1) 0 else 0) = ρ.reverse.getD q.1 0
    cases hc : Nat.ble (q.1 + 1) n with
    | true =>
      have hc := Nat.ble_eq.mp hc
      show ρ.getD (n - 1 - q.1) 0 = ρ.reverse.getD q.1 0
      rw [List.getD_eq_getElem?_getD, List.getD_eq_getElem?_getD, List.getElem?_reverse (by omega), hn]
    | false =>
      have hc : ¬ q.1 + 1 ≤ n := fun w => by rw [Nat.ble_eq.mpr w] at hc; cases hc
      show (0 : Int) = ρ.reverse.getD q.1 0
      rw [List.getD_eq_getElem?_getD, List.getElem?_eq_none (by rw [List.length_reverse]; omega)]
      rfl
def zasL (ro : Nat → List Int32) (c : Nat) (f : Nat × Int → Int) (vs : List (Nat × Int)) : Prop := match c with
  | 0 => 0 ≤ f (za vs 0) ∧ f (za vs 0) < f (za vs 1)
  | 1 => ¬ f (za vs 0) = 0
  | 2 => 0 ≤ f (za vs 0) ∧ f (za vs 0) ≤ 1
  | 4 => 0 ≤ f (za vs 0) ∧ f (za vs 0) < ((ro (za vs 1).1).length : Int)
  | _ => False
theorem zas_L {ro : Nat → List Int32} {c : Nat} {ρ : List Int} {vs : List (Nat × Int)} (h : zasL ro c (zn ρ) vs) : zas ro c ρ vs := by
  match c, h with
  | 0, h => exact h
  | 1, h => exact h
  | 2, h => exact h
  | 3, h => exact h
  | 4, h => exact h
  | k + 5, h => exact h
def zdenL (ro : Nat → List Int32) (C : zCt) (I : Nat → List Int → zE → Prop) (M : Nat → List Int → zE → Nat) (Q : Nat → Int → zE → Prop) (μ : Nat) : List zK → Nat → List Int → zE → Prop
  | [], _, _, _ => True
  | (k, c, vs) :: r, n, ρ, η => match k with
    | 0 => ∀ x, x = zd 0 c (znL n ρ (za vs 0)) (znL n ρ (za vs 1)) → zdenL ro C I M Q μ r (n + 1) (x :: ρ) η
    | 1 => ∀ x, x = zd 1 c (znL n ρ (za vs 0)) (znL n ρ (za vs 1)) → zdenL ro C I M Q μ r (n + 1) (x :: ρ) η
    | 2 => ∀ x, x = zd 2 c (znL n ρ (za vs 0)) (znL n ρ (za vs 1)) → zdenL ro C I M Q μ r (n + 1) (x :: ρ) η
    | 3 => ∀ x, x = zd 3 c (znL n ρ (za vs 0)) (znL n ρ (za vs 1)) → zdenL ro C I M Q μ r (n + 1) (x :: ρ) η
    | 4 => ∀ x, x = η (za vs 0).1 (znL n ρ (za vs 1)).toNat → zok c x → zdenL ro C I M Q μ r (n + 1) (x :: ρ) η
    | 5 => ∀ η', η' = zup η (za vs 0).1 (znL n ρ (za vs 1)).toNat (znL n ρ (za vs 2)) → zdenL ro C I M Q μ r n ρ η'
    | 6 => zcd c (znL n ρ (za vs 0)) (znL n ρ (za vs 1)) → zdenL ro C I M Q μ r n ρ η
    | 7 => zasL ro c (znL n ρ) vs
    | 8 => ∀ y η', (C c).2 (vs.map (znL n ρ)) η y η' → zdenL ro C I M Q μ r (n + 1) (y :: ρ) η'
    | 9 => ∀ x, x = ((ro (za vs 1).1).getD (znL n ρ (za vs 0)).toNat 0).toInt → zdenL ro C I M Q μ r (n + 1) (x :: ρ) η
    | 10 => I c (vs.map (znL n ρ)) η ∧ M c (vs.map (znL n ρ)) η < μ
    | 11 => Q c (znL n ρ (za vs 0)) η
    | 12 => I c (vs.map (znL n ρ)) η
    | 13 => (C c).1 (vs.map (znL n ρ)) η
    | _ => False
theorem zden_L {ro : Nat → List Int32} {C : zCt} {I : Nat → List Int → zE → Prop} {M : Nat → List Int → zE → Nat} {Q : Nat → Int → zE → Prop} {μ : Nat} : ∀ {o : List zK} {n : Nat} {ρ : List Int} {η : zE}, n = ρ.length → zdenL ro C I M Q μ o n ρ η → zden ro C I M Q μ o ρ.reverse η
  | [], _, _, _, _, _ => trivial
  | (k, c, vs) :: r, n, ρ, η, hn, h => by
    have e := znL_eq hn
    have st : ∀ x : Int, zdenL ro C I M Q μ r (n + 1) (x :: ρ) η → zden ro C I M Q μ r (ρ.reverse ++ [x]) η := fun x g => by
      have := zden_L (o := r) (n := n + 1) (ρ := x :: ρ) (η := η) (by rw [hn]; rfl) g
      rw [List.reverse_cons] at this
      exact this
    match k, h with
    | 0, h => exact fun x hx => st x (h x (by rw [e]; exact hx))
    | 1, h => exact fun x hx => st x (h x (by rw [e]; exact hx))
    | 2, h => exact fun x hx => st x (h x (by rw [e]; exact hx))
    | 3, h => exact fun x hx => st x (h x (by rw [e]; exact hx))
    | 4, h => exact fun x hx hk => st x (h x (by rw [e]; exact hx) hk)
    | 5, h => exact fun η' hx => zden_L (o := r) hn (h η' (by rw [e]; exact hx))
    | 6, h => exact fun hx => zden_L (o := r) hn (h (by rw [e]; exact hx))
    | 7, h =>
      have h : zasL ro c (znL n ρ) vs := h
      rw [e] at h
      exact zas_L h
    | 8, h =>
      intro y η' hx
      have := zden_L (o := r) (n := n + 1) (ρ := y :: ρ) (η := η') (by rw [hn]; rfl) (h y η' (by rw [e]; exact hx))
      rw [List.reverse_cons] at this
      exact this
    | 9, h => exact fun x hx => st x (h x (by rw [e]; exact hx))
    | 10, h =>
      have h : I c (vs.map (znL n ρ)) η ∧ M c (vs.map (znL n ρ)) η < μ := h
      rw [e] at h
      exact h
    | 11, h =>
      have h : Q c (znL n ρ (za vs 0)) η := h
      rw [e] at h
      exact h
    | 12, h =>
      have h : I c (vs.map (znL n ρ)) η := h
      rw [e] at h
      exact h
    | 13, h =>
      have h : (C c).1 (vs.map (znL n ρ)) η := h
      rw [e] at h
      exact h
    | k + 14, h => exact h.elim
def PL_n (a : Nat) (η : zE) : Prop := ∀ k, k < a → η 16 k = 1 → 1 ≤ η 18 k
def G1_n (η : zE) : Prop := G0_l η ∧ η 0 19 = η 0 44
def G_n (η : zE) : Prop := G1_n η ∧ PL_n 6 η
theorem plk_n {a : Nat} : zGk (PL_n a) [(nat_lit 16, nat_lit 0), (nat_lit 18, nat_lit 0)] := fun η η' h g k hk => by
  rw [h 16 k (zin2_of (q := (16, 0)) (by decide) rfl (Or.inl rfl)), h 18 k (zin2_of (q := (18, 0)) (by decide) rfl (Or.inl rfl))]
  exact g k hk
def g1r_n : List zCe := [(nat_lit 0, nat_lit 8), (nat_lit 0, nat_lit 7), (nat_lit 0, nat_lit 9), (nat_lit 0, nat_lit 10), (nat_lit 2, nat_lit 0), (nat_lit 19, nat_lit 0), (nat_lit 20, nat_lit 0), (nat_lit 21, nat_lit 0), (nat_lit 0, nat_lit 20), (nat_lit 0, nat_lit 45)]
theorem g1k_n : zGk G1_n g1r_n := fun η η' h g => by
  refine ⟨g0k_l η η' (fun r j hr => h r j ?_) g.1, ?_⟩
  · obtain ⟨q, a, b, c⟩ := zin2_mem hr
    exact zin2_of (q := q) (by have : ∀ q ∈ g0r_l, q ∈ g1r_n := by decide
                               exact this q a) b c
  · rw [h 0 19 rfl, h 0 44 rfl]
    exact g.2
theorem gk_n : zGk G_n gr_n := fun η η' h g => by
  refine ⟨g1k_n η η' (fun r j hr => h r j ?_) g.1, plk_n η η' (fun r j hr => h r j ?_) g.2⟩
  · obtain ⟨q, a, b, c⟩ := zin2_mem hr
    exact zin2_of (q := q) (by have : ∀ q ∈ g1r_n, q ∈ gr_n := by decide
                               exact this q a) b c
  · obtain ⟨q, a, b, c⟩ := zin2_mem hr
    exact zin2_of (q := q) (by have : ∀ q ∈ [(nat_lit 16, nat_lit 0), (nat_lit 18, nat_lit 0)], q ∈ gr_n := by decide
                               exact this q a) b c
theorem pl_d {a b : Nat} {η : zE} (g : PL_n b η) (h : a ≤ b) : PL_n a η := fun k hk => g k (Nat.lt_of_lt_of_le hk h)
/-- a law's mark, and where it ends -/
theorem pl_1 {η η' : zE} {k : Nat} (g : PL_n 6 η) (h1 : ∀ j, ¬ j = k → η' 16 j = η 16 j) (h2 : ∀ j, ¬ j = k → η' 18 j = η 18 j) (hk : 3 ≤ k) : PL_n 3 η' := fun j hj => by
  rw [h1 j (by omega), h2 j (by omega)]
  exact g j (by omega)
theorem pl_2 {η η' : zE} {k : Nat} (g : PL_n 6 η) (h1 : ∀ j, ¬ j = k → η' 16 j = η 16 j) (h2 : ∀ j, ¬ j = k → η' 18 j = η 18 j) (h : 1 ≤ η' 18 k) : PL_n 6 η' := fun j hj => by
  by_cases q : j = k
  · rw [q]
    exact fun _ => h
  · rw [h1 j q, h2 j q]
    exact g j hj
