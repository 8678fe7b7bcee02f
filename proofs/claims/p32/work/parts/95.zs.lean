/-! Contracts joined by cases; a row moved down by one place. -/
theorem zmet_join {P : sm_P} {K : sm_K} {df : Nat → List Value} {ro : Nat → List Int32} {X : sm_X} {dep mid rk : Nat} {T : zTm} {asp : List ab_V} {req rtu : zRt} {pre : List Int → zE → Prop} {post : List Int → zE → Int → zE → Prop}
    (h : ∀ xs η, pre xs η → ∃ (dep1 : Nat) (pre1 : List Int → zE → Prop), dep1 ≤ dep ∧ zMet P K df ro X dep1 mid T asp rk req rtu pre1 post ∧ pre1 xs η) : zMet P K df ro X dep mid T asp rk req rtu pre post := by
  intro α h0 η ra d xs vs a1 a2 a3 a4 a5 a6 a7
  obtain ⟨dep1, pre1, g1, g2, g3⟩ := h xs η a7
  exact g2 α h0 η ra d xs vs (Nat.le_trans g1 a1) a2 a3 a4 a5 a6 g3
theorem zmea_join {P : sm_P} {K : sm_K} {df : Nat → List Value} {ro : Nat → List Int32} {X : sm_X} {dep mid rk : Nat} {T : zTm} {asp : List ab_V} {req : zRt} {rtu : List zRt} {fr : List (Nat × Nat)} {pre : List Int → zE → Prop} {post : Nat → List Int → zE → Int → zE → Prop}
    (h : ∀ xs η, pre xs η → ∃ (dep1 : Nat) (pre1 : List Int → zE → Prop), dep1 ≤ dep ∧ zMea P K df ro X dep1 mid T asp rk req rtu fr pre1 post ∧ pre1 xs η) : zMea P K df ro X dep mid T asp rk req rtu fr pre post := by
  intro α h0 η ra d xs vs a1 a2 a3 a4 a5 a6 a7 a8
  obtain ⟨dep1, pre1, g1, g2, g3⟩ := h xs η a8
  exact g2 α h0 η ra d xs vs (Nat.le_trans g1 a1) a2 a3 a4 a5 a6 a7 g3
theorem sB_cons {b : Int × Int} {bs : List (Int × Int)} {xs : List Int} (h : sB (b :: bs) xs) : ∃ x r, xs = x :: r ∧ (b.1 ≤ x ∧ x ≤ b.2) ∧ sB bs r := by
  cases xs with
  | nil => exact h.elim
  | cons x r => exact ⟨x, r, rfl, h.1, h.2⟩
theorem sm_sh_at {vs : List Value} {n j : Nat} (hl : vs.length = n + 1) (hj : j < n + 1) : (sm_sh vs)[j]? = vs[if j < n then j + 1 else n]? := by
  unfold sm_sh
  by_cases h : j < n
  · rw [if_pos h, List.getElem?_append_left (by rw [List.length_drop]; omega), List.getElem?_drop, Nat.add_comm]
  · rw [if_neg h, List.getElem?_append_right (by rw [List.length_drop]; omega), List.getElem?_drop, List.length_drop]
    congr 1
    omega
noncomputable def zshk (T : zTm) (L : wL) (GR : List zCe) (a n : Nat) : Bool := (match ab_get T a with
  | some p => Nat.beq p.1 100 && (Nat.beq p.2.1 (n + 1) && Nat.ble n 2147483646)
  | none => false) && (!(zinr GR a) && L.all (fun q => !(Nat.beq q.1 a) || (Nat.beq q.2.1 0 && Nat.beq q.2.2.1 (n + 1))))
theorem zsh_std {gc gs a n : Nat} {T : zTm} {L : wL} {G : zE → Prop} {GR : List zCe} (hG : zGk G GR) (hk : zshk T L GR a n = true) : zSpc (sm_X0 gc gs) 1 904 T [.inr (.inr (.inl a)), .inl (0, 1), .inr (.inr (.inl a)), .inl (0, 0), .inl (0, (n : Int))] 0 [] [] (sP L G ([], [])) (fun xs η y η' => sQ L G ((0, 0), [], []) [(a, 0)] xs η y η') := by
  intro α h η ra d idx xs vs r hd hi hh _ hs hlen hp hr
  obtain ⟨k1, k2⟩ := (Bool.and_eq_true _ _).mp hk
  obtain ⟨k2, k3⟩ := (Bool.and_eq_true _ _).mp k2
  split at k1
  · next p hpa =>
    obtain ⟨c1, c2, c3⟩ := ab_and3 k1
    have c1 := Nat.eq_of_beq_eq_true c1
    have c2 := Nat.eq_of_beq_eq_true c2
    have c3 := Nat.ble_eq.mp c3
    obtain ⟨v1, s1, rfl, r1, hs⟩ := zS_cons hs
    obtain ⟨v2, s2, rfl, r2, hs⟩ := zS_cons hs
    obtain ⟨v3, s3, rfl, r3, hs⟩ := zS_cons hs
    obtain ⟨v4, s4, rfl, r4, hs⟩ := zS_cons hs
    obtain ⟨v5, s5, rfl, r5, hs⟩ := zS_cons hs
    have hs5 : s5 = [] := by
      cases s5 with
      | nil => rfl
      | cons _ _ => exact hs.elim
    subst hs5
    have r1 : v1 = .ref (α a) := r1
    have r3 : v3 = .ref (α a) := r3
    have r2 : v2 = .int (Int32.ofInt 1) := r2.2.2
    have r4 : v4 = .int (Int32.ofInt 0) := r4.2.2
    have r5 : v5 = .int (Int32.ofInt (n : Int)) := r5.2.2
    subst r1; subst r2; subst r3; subst r4; subst r5
    obtain ⟨ca, ha, ta1, ta2, ta3⟩ := hh a p hpa
    have hlt : α a < h.length := (List.getElem?_eq_some_iff.mp ha).1
    have zz := zcv_ok (n := n) (by omega)
    have hl : ca.2.length = n + 1 := by rw [ta2, c2]
    refine ⟨none, h.set (α a) (100, sm_sh ca.2), 0, fun r j => if r = a then η a (if j < n then j + 1 else n) else η r j, ?_, ?_, zFr_set hpa, ⟨rfl, rfl⟩, ?_⟩
    · show sm_x4 d (.int (Int32.ofInt (n : Int)) :: .int (Int32.ofInt 0) :: .ref (α a) :: .int (Int32.ofInt 1) :: .ref (α a) :: r) h = _
      unfold sm_x4
      dsimp only
      rw [ha]
      dsimp only
      rw [if_pos ⟨hd, decide_eq_true hr, rfl, by rw [ta1, c1], rfl, rfl, zz.1, by rw [zz.2, hl]⟩]
      rfl
    · intro r' c' hr'
      rw [List.nil_append]
      by_cases e : r' = a
      · subst e
        rw [hpa] at hr'
        cases hr'
        refine ⟨_, by rw [List.getElem?_set, if_pos rfl, if_pos hlt], c1.symm, ?_, fun j hj => ?_⟩
        · show (sm_sh ca.2).length = p.2.1
          unfold sm_sh
          rw [List.length_append, List.length_drop, List.length_drop, c2]
          omega
        · have ty : ∀ j, zty p j = 0 := fun j => by
            unfold zty
            rw [c1]
            rfl
          rw [ty]
          refine ⟨fun _ _ => ?_, fun t _ w => by cases w⟩
          dsimp only
          rw [if_pos rfl, sm_sh_at hl (by rw [← c2]; exact hj)]
          have := (ta3 (if j < n then j + 1 else n) (by rw [c2]; split <;> omega)).1
          rw [ty] at this
          exact this (by decide) (by decide)
      · obtain ⟨q', g1, g2⟩ := hh r' c' hr'
        have e3 : ¬ α a = α r' := fun w => e (hi r' a c' p hr' hpa w.symm)
        refine ⟨q', by rw [List.getElem?_set, if_neg e3]; exact g1, g2.1, g2.2.1, fun j hj => ?_⟩
        dsimp only
        rw [if_neg e]
        exact g2.2.2 j hj
    · refine ⟨⟨fun w hw j g1 g2 => ?_, hG η _ (fun r' j2 hr' => ?_) hp.1.2⟩, ⟨Int.le_refl _, Int.le_refl _⟩, fun f hf => (by cases hf), fun r' j2 hr' => ?_, fun _ _ w => (by cases w)⟩
      · dsimp only
        by_cases e : w.1 = a
        · rw [if_pos e]
          have g := List.all_eq_true.mp k3 w hw
          rw [e, show Nat.beq a a = true from Nat.beq_refl _] at g
          rcases (Bool.or_eq_true _ _).mp g with g | g
          · cases g
          have g := (Bool.and_eq_true _ _).mp g
          have u1 := Nat.eq_of_beq_eq_true g.1
          have u2 := Nat.eq_of_beq_eq_true g.2
          have := hp.1.1 w hw (if j < n then j + 1 else n) (by omega) (by rw [u2]; split <;> omega)
          rw [e] at this
          exact this
        · rw [if_neg e]
          exact hp.1.1 w hw j g1 g2
      · show (if r' = a then η a (if j2 < n then j2 + 1 else n) else η r' j2) = η r' j2
        rw [if_neg (fun e => by
          rw [e, zinr_not (j := j2) k2] at hr'
          cases hr')]
      · show (if r' = a then η a (if j2 < n then j2 + 1 else n) else η r' j2) = η r' j2
        rw [if_neg (fun e => by
          rw [e, zin2_of (q := (a, 0)) (List.mem_cons_self ..) rfl (Or.inl rfl)] at hr'
          cases hr')]
  · cases k1
