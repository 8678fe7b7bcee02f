/-! A contract over its own registers serves a caller that has these among its own. -/
/-- where a register stands at the caller's: by a list; from 1000 on the caller's own -/
def zem (em : List (Nat × Nat)) (r : Nat) : Nat := bif Nat.ble 1000 r then r - 1000 else (match em.find? (fun q => Nat.beq q.1 r) with
  | some q => q.2
  | none => 0)
def zin (em : List (Nat × Nat)) (r : Nat) : Option Nat := match em.find? (fun q => Nat.beq q.2 r) with
  | some q => some q.1
  | none => none
def zpl (em : List (Nat × Nat)) (ra : zRt) : zRt := ra.filterMap (fun q => match zin em q.1 with
  | some r => some (r, q.2.1, 1000 + q.2.2)
  | none => none)
def zmv (em : List (Nat × Nat)) (rt : zRt) : zRt := rt.map (fun q => (zem em q.1, q.2.1, zem em q.2.2))
def zmV (em : List (Nat × Nat)) (a : ab_V) : ab_V := match a with
  | .inr (.inr (.inl r)) => .inr (.inr (.inl (zem em r)))
  | a => a
def zcb : List Nat → List Nat → Bool
  | [], [] => true
  | a :: r, b :: s => Nat.beq a b && zcb r s
  | _, _ => false
theorem zcb_ok : ∀ {a b : List Nat}, zcb a b = true → a = b
  | [], [], _ => rfl
  | [], _ :: _, h => by cases h
  | _ :: _, [], h => by cases h
  | a :: r, b :: s, h => by
    unfold zcb at h
    have h1 := (Bool.and_eq_true _ _).mp h
    rw [Nat.eq_of_beq_eq_true h1.1, zcb_ok h1.2]
/-- it is one: every own register is the caller's, of the same kind; no two the same -/
noncomputable def zeb (T1 T : zTm) (em : List (Nat × Nat)) : Bool := (ab_lvs T1).all (fun q => Nat.ble q.1 999 && (match zin em (zem em q.1), ab_get T (zem em q.1) with
  | some r, some c => Nat.beq r q.1 && (Nat.beq c.1 q.2.1 && (Nat.beq c.2.1 q.2.2.1 && zcb c.2.2 q.2.2.2))
  | _, _ => false))
theorem zeb_ok {T1 T : zTm} {em : List (Nat × Nat)} (h : zeb T1 T em = true) {r : Nat} {c : zCl} (hr : ab_get T1 r = some c) : r < 1000 ∧ zin em (zem em r) = some r ∧ ab_get T (zem em r) = some c := by
  have h1 := List.all_eq_true.mp h _ (ab_lvs_mem hr)
  have h2 := (Bool.and_eq_true _ _).mp h1
  have h3 := h2.2
  split at h3
  · next r1 c1 hz hg =>
    obtain ⟨a, b, d, e⟩ := ab_and4 h3
    have e1 : r1 = r := Nat.eq_of_beq_eq_true a
    obtain ⟨c0, c2, c3⟩ := c1
    obtain ⟨d0, d2, d3⟩ := c
    have e2 : c0 = d0 := Nat.eq_of_beq_eq_true b
    have e3 : c2 = d2 := Nat.eq_of_beq_eq_true d
    have e4 : c3 = d3 := zcb_ok e
    dsimp only at hz hg
    rw [hz, hg, e1, e2, e3, e4]
    exact ⟨Nat.lt_succ_of_le (Nat.ble_eq.mp h2.1), rfl, rfl⟩
  · cases h3
theorem zem_own {em : List (Nat × Nat)} (t : Nat) : zem em (1000 + t) = t := by
  unfold zem
  rw [show Nat.ble 1000 (1000 + t) = true from Nat.ble_eq.mpr (by omega)]
  show 1000 + t - 1000 = t
  omega
theorem zrt_cons {q : Nat × Nat × Nat} {rt : zRt} {r j : Nat} : zrt (q :: rt) r j = bif Nat.beq q.1 r && Nat.beq q.2.1 j then some q.2.2 else zrt rt r j := by
  unfold zrt
  rw [List.find?_cons]
  cases (Nat.beq q.1 r && Nat.beq q.2.1 j) <;> rfl
theorem zpl_at {em : List (Nat × Nat)} {r1 j : Nat} (hr : zin em (zem em r1) = some r1) (hb : ∀ r, zin em r = some r1 → r = zem em r1) (ra : zRt) : zrt (zpl em ra) r1 j = (zrt ra (zem em r1) j).map (fun t => 1000 + t) := by
  induction ra with
  | nil => rfl
  | cons q ra ih =>
    rw [zrt_cons]
    cases hz : zin em q.1 with
    | none =>
      have e0 : zpl em (q :: ra) = zpl em ra := by
        unfold zpl
        rw [List.filterMap_cons, hz]
      have : Nat.beq q.1 (zem em r1) = false := Bool.eq_false_iff.mpr (fun w => by
        have e := Nat.eq_of_beq_eq_true w
        rw [e, hr] at hz
        cases hz)
      rw [this, Bool.false_and, e0]
      exact ih
    | some r2 =>
      have e0 : zpl em (q :: ra) = (r2, q.2.1, 1000 + q.2.2) :: zpl em ra := by
        unfold zpl
        rw [List.filterMap_cons, hz]
      rw [e0, zrt_cons]
      dsimp only
      cases h1 : Nat.beq r2 r1 with
      | true =>
        have e := Nat.eq_of_beq_eq_true h1
        subst e
        have e2 := hb _ hz
        rw [show Nat.beq q.1 (zem em r2) = true from by rw [e2]; exact Nat.beq_refl _]
        cases h2 : Nat.beq q.2.1 j with
        | true => rfl
        | false => exact ih
      | false =>
        have : Nat.beq q.1 (zem em r1) = false := Bool.eq_false_iff.mpr (fun w => by
          have e := Nat.eq_of_beq_eq_true w
          rw [e, hr] at hz
          cases hz
          rw [Nat.beq_refl] at h1
          cases h1)
        rw [this, Bool.false_and]
        exact ih
theorem zin_of {em : List (Nat × Nat)} {r r1 : Nat} (h : zin em r = some r1) : ∃ q ∈ em, q.1 = r1 ∧ q.2 = r := by
  unfold zin at h
  split at h
  · next q hq =>
    cases h
    have h1 := List.find?_some hq
    exact ⟨q, List.mem_of_find?_eq_some hq, rfl, Nat.eq_of_beq_eq_true h1⟩
  · cases h
/-- no register twice -/
def zdi (em : List (Nat × Nat)) : Bool := em.all (fun q => Nat.beq (zem em q.1) q.2)
theorem zin_back {em : List (Nat × Nat)} (hd : zdi em = true) {r r1 : Nat} (h : zin em r = some r1) : r = zem em r1 := by
  obtain ⟨q, h1, h2, h3⟩ := zin_of h
  have h4 := Nat.eq_of_beq_eq_true (List.all_eq_true.mp hd q h1)
  rw [h2, h3] at h4
  exact h4.symm
theorem zrt_app_eq {r j : Nat} : ∀ {a b : zRt}, zrt (a ++ b) r j = (match zrt a r j with
  | some t => some t
  | none => zrt b r j)
  | [], _ => rfl
  | q :: a, b => by
    rw [List.cons_append, zrt_cons, zrt_cons]
    cases (Nat.beq q.1 r && Nat.beq q.2.1 j) with
    | true => rfl
    | false => exact zrt_app_eq
def zkr (em : List (Nat × Nat)) (rt : zRt) : Bool := rt.all (fun q => match zin em (zem em q.1) with
  | some x => Nat.beq x q.1
  | none => false)
theorem zkr_ok {em : List (Nat × Nat)} {rt : zRt} (h : zkr em rt = true) {q : Nat × Nat × Nat} (hq : q ∈ rt) : zin em (zem em q.1) = some q.1 := by
  have h1 := List.all_eq_true.mp h q hq
  split at h1
  · next x hx => rw [hx, Nat.eq_of_beq_eq_true h1]
  · cases h1
theorem zmv_none {em : List (Nat × Nat)} {r j : Nat} (hz : zin em r = none) : ∀ (rt : zRt), zkr em rt = true → zrt (zmv em rt) r j = none
  | [], _ => rfl
  | q :: rt, h => by
    have h1 := zkr_ok h (List.mem_cons_self ..)
    have h2 : zkr em rt = true := by
      unfold zkr at h ⊢
      rw [List.all_cons] at h
      exact ((Bool.and_eq_true _ _).mp h).2
    show zrt ((zem em q.1, q.2.1, zem em q.2.2) :: zmv em rt) r j = none
    rw [zrt_cons]
    have : Nat.beq (zem em q.1) r = false := Bool.eq_false_iff.mpr (fun w => by
      rw [Nat.eq_of_beq_eq_true w, hz] at h1
      cases h1)
    dsimp only
    rw [this, Bool.false_and]
    exact zmv_none hz rt h2
theorem zmv_at {em : List (Nat × Nat)} {r1 j : Nat} (hz : zin em (zem em r1) = some r1) : ∀ (rt : zRt), zkr em rt = true → zrt (zmv em rt) (zem em r1) j = (zrt rt r1 j).map (zem em)
  | [], _ => rfl
  | q :: rt, h => by
    have h1 := zkr_ok h (List.mem_cons_self ..)
    have h2 : zkr em rt = true := by
      unfold zkr at h ⊢
      rw [List.all_cons] at h
      exact ((Bool.and_eq_true _ _).mp h).2
    show zrt ((zem em q.1, q.2.1, zem em q.2.2) :: zmv em rt) (zem em r1) j = _
    rw [zrt_cons, zrt_cons]
    dsimp only
    cases hb : Nat.beq q.1 r1 with
    | true =>
      rw [Nat.eq_of_beq_eq_true hb, Nat.beq_refl]
      cases Nat.beq q.2.1 j with
      | true => rfl
      | false => exact zmv_at hz rt h2
    | false =>
      have : Nat.beq (zem em q.1) (zem em r1) = false := Bool.eq_false_iff.mpr (fun w => by
        rw [Nat.eq_of_beq_eq_true w, hz] at h1
        cases h1
        rw [Nat.beq_refl] at hb
        cases hb)
      rw [this, Bool.false_and]
      exact zmv_at hz rt h2
theorem zS_mv {α : Nat → Nat} {ρ : List Int} {em : List (Nat × Nat)} : ∀ {as : List ab_V} {vs : List Value}, zS α ρ (as.map (zmV em)) vs → zS (fun r => α (zem em r)) ρ as vs
  | [], [], _ => trivial
  | [], _ :: _, q => q.elim
  | _ :: _, [], q => q.elim
  | a :: as, v :: vs, h => by
    refine ⟨?_, zS_mv h.2⟩
    have h1 := h.1
    rcases a with q | q | q | q | q <;> exact h1
theorem zcn_mv {em : List (Nat × Nat)} (as : List ab_V) : zcn (as.map (zmV em)) = zcn as := by
  induction as with
  | nil => rfl
  | cons a as ih =>
    rcases a with q | q | q | q | q
    · show (bif Nat.beq q.1 0 then zcn (as.map (zmV em)) else zcn (as.map (zmV em)) + 1) = (bif Nat.beq q.1 0 then zcn as else zcn as + 1)
      rw [ih]
    · exact congrArg (· + 1) ih
    · exact ih
    · exact ih
    · exact ih
/-- all that must be so of a list -/
noncomputable def zek (T1 T : zTm) (em : List (Nat × Nat)) (rq rtu : zRt) : Bool := zeb T1 T em && (zdi em && (zkr em rtu && (em.all (fun q => (ab_get T1 q.1).isSome) && rq.all (fun q => match zrt rq q.1 q.2.1 with
  | some t => Nat.beq t q.2.2
  | none => false))))
theorem zmet_in {P : sm_P} {K : sm_K} {df : Nat → List Value} {ro : Nat → List Int32} {X : sm_X} {dep mid rk : Nat} {T1 T : zTm} {asp : List ab_V} {rq rtu : zRt} {pre : List Int → zE → Prop} {post : List Int → zE → Int → zE → Prop} (em : List (Nat × Nat)) (hk : zek T1 T em rq rtu = true) (hM : zMet P K df ro X dep mid T1 asp rk rq rtu pre post) :
    zMet P K df ro X dep mid T (asp.map (zmV em)) rk (zmv em rq) (zmv em rtu) (fun xs η => pre xs (fun r => η (zem em r))) (fun xs η y η' => ∃ η1, post xs (fun r => η (zem em r)) y η1 ∧ (∀ r r1, zin em r = some r1 → η' r = η1 r1) ∧ ∀ r, zin em r = none → η' r = η r) := by
  unfold zek at hk
  obtain ⟨k1, k2⟩ := (Bool.and_eq_true _ _).mp hk
  obtain ⟨k2, k3, k4, k5⟩ := ab_and4 k2
  intro α h η ra d xs vs hd hi hh hreq hs hlen hpre
  have bk : ∀ {r r1 : Nat}, zin em r = some r1 → r = zem em r1 := fun q => zin_back k2 q
  have hinj : zInj T1 (fun r => α (zem em r)) := fun r r' c c' g g' e => by
    have a1 := zeb_ok k1 g
    have a2 := zeb_ok k1 g'
    have := hi _ _ _ _ a1.2.2 a2.2.2 e
    have e1 := a1.2.1
    rw [this, a2.2.1] at e1
    exact (Option.some.inj e1).symm
  have hro : ∀ {r j t : Nat}, zrt rq r j = some t → zrt ra (zem em r) j = some (zem em t) := fun {r j t} g => by
    unfold zrt at g
    split at g
    · next q hf =>
      cases g
      have h1 := List.find?_some hf
      have h1 := (Bool.and_eq_true _ _).mp h1
      have h2 := hreq (zem em q.1, q.2.1, zem em q.2.2) (List.mem_map.mpr ⟨q, List.mem_of_find?_eq_some hf, rfl⟩)
      rw [← Nat.eq_of_beq_eq_true h1.1, ← Nat.eq_of_beq_eq_true h1.2]
      exact h2
    · cases g
  have hat : ∀ {r1 j : Nat}, zin em (zem em r1) = some r1 → zrt (zpl em ra) r1 j = (zrt ra (zem em r1) j).map (fun t => 1000 + t) := fun {r1 j} g => zpl_at g (fun r q => bk q) ra
  have hh1 : zHp T1 (fun r => α (zem em r)) (rq ++ zpl em ra) (fun r => η (zem em r)) h := fun r c g => by
    obtain ⟨a1, a2, a3⟩ := zeb_ok k1 g
    obtain ⟨q, b1, b2, b3, b4⟩ := hh _ _ a3
    refine ⟨q, b1, b2, b3, fun j hj => ⟨(b4 j hj).1, fun t ht h3 => ?_⟩⟩
    rw [zrt_app_eq] at ht
    split at ht
    · next t1 ht1 =>
      cases ht
      exact (b4 j hj).2 _ (hro ht1) h3
    · rw [hat a2] at ht
      cases hz : zrt ra (zem em r) j with
      | none => rw [hz] at ht; cases ht
      | some t2 =>
        rw [hz] at ht
        cases ht
        dsimp only
        rw [zem_own]
        exact (b4 j hj).2 _ hz h3
  obtain ⟨n, v, h', y, η1, g1, g2, g3, g4, g5⟩ := hM (fun r => α (zem em r)) h (fun r => η (zem em r)) (rq ++ zpl em ra) d xs vs hd hinj hh1 (fun q hq => by
    have h1 := List.all_eq_true.mp k5 q hq
    rw [zrt_app_eq]
    split at h1
    · next t ht =>
      rw [Nat.eq_of_beq_eq_true h1]
    · cases h1) (zS_mv hs) (by rw [hlen, zcn_mv]) hpre
  refine ⟨n, v, h', y, fun r => match zin em r with
    | some r1 => η1 r1
    | none => η r, g1, fun r c g => ?_, ⟨g3.1, fun b hb => g3.2 b (fun r1 c1 w => hb _ _ (zeb_ok k1 w).2.2)⟩, g4, η1, g5, fun r r1 q => by dsimp only; rw [q], fun r q => by dsimp only; rw [q]⟩
  cases hz : zin em r with
  | none =>
    obtain ⟨q, b1, b2, b3, b4⟩ := hh _ _ g
    refine ⟨q, ?_, b2, b3, fun j hj => ⟨?_, fun t ht h3 => ?_⟩⟩
    · rw [g3.2 (α r) (fun r1 c1 w e => ?_)]
      · exact b1
      · have a1 := zeb_ok k1 w
        have e1 := hi _ _ _ _ a1.2.2 g e
        have a2 := a1.2.1
        rw [e1, hz] at a2
        cases a2
    · dsimp only
      rw [hz]
      exact (b4 j hj).1
    · rw [zrt_app_eq, zmv_none hz _ k3] at ht
      exact (b4 j hj).2 t ht h3
  | some r1 =>
    have e := bk hz
    obtain ⟨q0, m1, m2, m3⟩ := zin_of hz
    have k6 := List.all_eq_true.mp k4 q0 m1
    rw [m2] at k6
    obtain ⟨c1, hc1⟩ := Option.isSome_iff_exists.mp k6
    obtain ⟨a1, a2, a3⟩ := zeb_ok k1 hc1
    subst e
    rw [g] at a3
    cases a3
    obtain ⟨q, b1, b2, b3, b4⟩ := g2 _ _ hc1
    refine ⟨q, b1, b2, b3, fun j hj => ⟨?_, fun t ht h3 => ?_⟩⟩
    · dsimp only
      rw [hz]
      exact (b4 j hj).1
    · have b5 := (b4 j hj).2
      rw [zrt_app_eq, zmv_at a2 _ k3] at ht
      cases hu : zrt rtu r1 j with
      | some t1 =>
        rw [hu] at ht
        cases ht
        exact b5 t1 (by rw [zrt_app_eq, hu]) h3
      | none =>
        rw [hu] at ht
        dsimp only [Option.map] at ht
        cases hv : zrt rq r1 j with
        | some t1 =>
          have h1 := hro hv
          rw [ht] at h1
          cases h1
          exact b5 t1 (by rw [zrt_app_eq, hu]; dsimp only; rw [zrt_app_eq, hv]) h3
        | none =>
          have h1 := b5 (1000 + t) (by rw [zrt_app_eq, hu]; dsimp only; rw [zrt_app_eq, hv]; dsimp only; rw [hat a2, ht]; rfl) h3
          dsimp only at h1
          rw [zem_own] at h1
          exact h1
