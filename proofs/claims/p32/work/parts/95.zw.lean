/-! Contracts with more than bounds before and behind, by hand. -/
def gC (L : wL) (cs : List zCs) (PG : Nat → List Int → zE → Prop) (QG : Nat → List Int → zE → Int → zE → Prop) : zCt := fun c => match cs.find? (fun e => Nat.beq e.1 c) with
  | some e => (fun xs η => sP L zTr e.2.1 xs η ∧ PG c xs η, fun xs η y η' => sQ L zTr e.2.2.1 e.2.2.2 xs η y η' ∧ QG c xs η y η')
  | none => (fun _ _ => False, fun _ _ _ _ => False)
def gC2 (L : wL) (cs : List zCs) (PG : Nat → List Int → zE → Prop) (QG : Nat → List Int → zE → Int → zE → Prop) : zCt := fun c => (PG c, (gC L cs PG QG c).2)
theorem gden {ro : Nat → List Int32} {L : wL} {cs : List zCs} {iv : List zIv} {po : List zPo} {mods : List zCe} {xs : List Int} {η0 : zE} {μ : Nat} {PG : Nat → List Int → zE → Prop} {QG : Nat → List Int → zE → Int → zE → Prop} {IG : Nat → List Int → zE → Prop} {QQ : Nat → Int → zE → Prop} : ∀ (o : List zK) (ρ : List Int) (η : zE),
    zden ro (zsC L zTr cs) (zsI L zTr iv mods η0) (zsM iv) (zsQ L zTr po mods xs η0) μ o ρ η → (zl7 o = true ∨ zden ro (gC2 L cs PG QG) IG (fun _ _ _ => 0) QQ 1 o ρ η) → zden ro (gC L cs PG QG) (fun c ys η => zsI L zTr iv mods η0 c ys η ∧ IG c ys η) (zsM iv) (fun j y η => zsQ L zTr po mods xs η0 j y η ∧ QQ j y η) μ o ρ η
  | [], _, _, _, _ => trivial
  | (k, c, vs) :: r, ρ, η, h1, h2 => by
    have tl : zl7 ((k, c, vs) :: r) = true → Nat.ble k 9 = true ∧ zl7 r = true := fun w => (Bool.and_eq_true _ _).mp (show (Nat.ble k 9 && zl7 r) = true from w)
    match k, h1, h2, tl with
    | 0, h1, h2, tl => exact fun x hx => gden r _ _ (h1 x hx) (h2.imp (fun w => (tl w).2) (fun w => w x hx))
    | 1, h1, h2, tl => exact fun x hx => gden r _ _ (h1 x hx) (h2.imp (fun w => (tl w).2) (fun w => w x hx))
    | 2, h1, h2, tl => exact fun x hx => gden r _ _ (h1 x hx) (h2.imp (fun w => (tl w).2) (fun w => w x hx))
    | 3, h1, h2, tl => exact fun x hx => gden r _ _ (h1 x hx) (h2.imp (fun w => (tl w).2) (fun w => w x hx))
    | 4, h1, h2, tl => exact fun x hx hk => gden r _ _ (h1 x hx hk) (h2.imp (fun w => (tl w).2) (fun w => w x hx hk))
    | 5, h1, h2, tl => exact fun x hx => gden r _ _ (h1 x hx) (h2.imp (fun w => (tl w).2) (fun w => w x hx))
    | 6, h1, h2, tl => exact fun hx => gden r _ _ (h1 hx) (h2.imp (fun w => (tl w).2) (fun w => w hx))
    | 7, h1, h2, tl => exact h1
    | 8, h1, h2, tl =>
      refine fun y η' hx => ?_
      have hx : (gC L cs PG QG c).2 (vs.map (zn ρ)) η y η' := hx
      refine gden r _ _ (h1 y η' ?_) (h2.imp (fun w => (tl w).2) (fun w => w y η' hx))
      show ((zsC L zTr cs) c).2 (vs.map (zn ρ)) η y η'
      unfold gC at hx
      unfold zsC
      cases hf : cs.find? (fun e => Nat.beq e.1 c) with
      | none => rw [hf] at hx; exact hx
      | some e => rw [hf] at hx; exact hx.1
    | 9, h1, h2, tl => exact fun x hx => gden r _ _ (h1 x hx) (h2.imp (fun w => (tl w).2) (fun w => w x hx))
    | 10, h1, h2, tl =>
      rcases h2 with h2 | h2
      · exact absurd (tl h2).1 (by decide)
      have h1 : zsI L zTr iv mods η0 c (vs.map (zn ρ)) η ∧ zsM iv c (vs.map (zn ρ)) η < μ := h1
      have h2 : IG c (vs.map (zn ρ)) η ∧ 0 < 1 := h2
      exact ⟨⟨h1.1, h2.1⟩, h1.2⟩
    | 11, h1, h2, tl =>
      rcases h2 with h2 | h2
      · exact absurd (tl h2).1 (by decide)
      exact ⟨h1, h2⟩
    | 12, h1, h2, tl =>
      rcases h2 with h2 | h2
      · exact absurd (tl h2).1 (by decide)
      exact ⟨h1, h2⟩
    | 13, h1, h2, tl =>
      rcases h2 with h2 | h2
      · exact absurd (tl h2).1 (by decide)
      have h1 : ((zsC L zTr cs) c).1 (vs.map (zn ρ)) η := h1
      have h2 : PG c (vs.map (zn ρ)) η := h2
      show (gC L cs PG QG c).1 (vs.map (zn ρ)) η
      unfold zsC at h1
      unfold gC
      cases hf : cs.find? (fun e => Nat.beq e.1 c) with
      | none => rw [hf] at h1; exact h1
      | some e => rw [hf] at h1; exact ⟨h1, h2⟩
    | k + 14, h1, h2, tl => exact h1.elim
section ZW
variable {P : sm_P} {K : sm_K} {df : Nat → List Value} {ro : Nat → List Int32} {X : sm_X} {mt : Lean.RArray (Nat × ab_M)} {T : zTm} {rq : zRt} {rtu : List zRt} {fr : List (Nat × Nat)} {dep mid : Nat} {cd : List zCd} {cu : List zCu} {mi : ab_M} {L : wL} {cs : List zCs} {iv : List zIv} {po : List zPo} {mods : List zCe} {pr : zPq} {asp : List ab_V}
theorem zmea_gen (PG : Nat → List Int → zE → Prop) (QG : Nat → List Int → zE → Int → zE → Prop) (IG : List Int → zE → Nat → List Int → zE → Prop) (PP : List Int → zE → Prop) (QQ : List Int → zE → Nat → Int → zE → Prop)
    (hX : ∀ (d : Nat) (i : Instr) (mid : Nat) (st : List Value) (h : List sm_C), mid < 900 → X d i [mid] st h = none) (hmt : ab_mtR P K mt) (hmg : ab_get mt mid = some mi) (hcs : ∀ e ∈ cd, zCon P K df ro X T (gC L cs PG QG) e)
    {D7 D0 Dm : List (List zK)} {f0 : Nat} (hrun : zq fr mt T rq rtu dep cd cu mi false (D7 ++ D0 ++ Dm) f0 0 (ab_args 0 asp) [] (zcn asp + 1) [] [] = true) (hz0 : zi0 L [] cs iv po true mods (zcn asp) (0, []) pr (D7 ++ D0) = true) (h7 : D7.all (fun o => zl7 o.reverse) = true)
    (h0 : ∀ xs η, zrg (0 :: xs) asp → xs.length = zcn asp → sP L zTr pr xs η → PP xs η → ∀ o ∈ D0, zden ro (gC2 L cs PG QG) (IG xs η) (fun _ _ _ => 0) (QQ xs η) 1 o.reverse (0 :: xs) η)
    (hm0 : ∀ xs η, zrg (0 :: xs) asp → xs.length = zcn asp → sP L zTr pr xs η → PP xs η → ∀ o ∈ Dm, zden ro (gC L cs PG QG) (fun c ys η1 => zsI L zTr iv mods η c ys η1 ∧ IG xs η c ys η1) (zsM iv) (fun j y η1 => zsQ L zTr po mods xs η j y η1 ∧ QQ xs η j y η1) 0 o.reverse (0 :: xs) η)
    (hseg : ∀ e ∈ cu, ∃ (D7 D Dm : List (List zK)) (f : Nat), (zsg fr mt T rq rtu dep cd cu mi L [] cs iv po mods e (D7 ++ D) Dm f && D7.all (fun o => zl7 o.reverse)) = true ∧ ∀ xs η, xs.length = zcn asp → sP L zTr pr xs η → PP xs η → ∀ ys η1, zrg (0 :: ys) (e.2.2.1.map (fun q => q.2)) → ys.length = zcn (e.2.2.1.map (fun q => q.2)) → zsI L zTr iv mods η e.2.1 ys η1 → IG xs η e.2.1 ys η1 → (∀ o ∈ D, zden ro (gC2 L cs PG QG) (IG xs η) (fun _ _ _ => 0) (QQ xs η) 1 o.reverse (0 :: ys) η1) ∧ ∀ o ∈ Dm, zden ro (gC L cs PG QG) (fun c ys η1 => zsI L zTr iv mods η c ys η1 ∧ IG xs η c ys η1) (zsM iv) (fun j y η1 => zsQ L zTr po mods xs η j y η1 ∧ QQ xs η j y η1) (zsM iv e.2.1 ys η1) o.reverse (0 :: ys) η1) :
    zMea P K df ro X dep mid T asp mi.2.2.2.2.1 rq rtu fr (fun xs η => sP L zTr pr xs η ∧ PP xs η) (fun j xs η y η' => zsQ L zTr po mods xs η j y η' ∧ QQ xs η j y η') := by
  refine zmea_of (C := gC L cs PG QG) (fun xs η c ys η1 => zsI L zTr iv mods η c ys η1 ∧ IG xs η c ys η1) (fun _ _ => zsM iv) hX hmt hmg hcs hrun ?_ ?_
  · intro xs η hr hl hp o ho
    rcases List.mem_append.mp ho with ho | ho
    · have g := zi0_ok (ro := ro) zTr_k (xs0 := xs) (fun _ => rfl) hz0 hl hp.1 (fun _ _ _ => rfl) zsQ_of o ho
      rcases List.mem_append.mp ho with ho | ho
      · exact gden _ _ _ g (Or.inl (List.all_eq_true.mp h7 o ho))
      · exact gden _ _ _ g (Or.inr (h0 xs η hr hl hp.1 hp.2 o ho))
    · exact hm0 xs η hr hl hp.1 hp.2 o ho
  · intro e he
    obtain ⟨D7, D, Dm, f, h1, h2⟩ := hseg e he
    obtain ⟨h1, h7⟩ := (Bool.and_eq_true _ _).mp h1
    have g := (Bool.and_eq_true _ _).mp h1
    refine ⟨D7 ++ D ++ Dm, f, g.2, ?_⟩
    intro xs η hlx hp ys η1 hr hl hI o ho
    have h2 := h2 xs η hlx hp.1 hp.2 ys η1 hr hl hI.1 hI.2
    rcases List.mem_append.mp ho with ho | ho
    · have g1 := g.1
      split at g1
      · next q hq =>
        have hI2 := hI.1
        unfold zsI at hI2
        rw [hq] at hI2
        have w := zi0_ok (ro := ro) zTr_k (xs0 := xs) (fun w => by cases w) (Q := zsQ L zTr po mods xs η) g1 hl hI2.1 hI2.2 zsQ_of o ho
        have e1 : zsM iv e.2.1 ys η1 = (sMv q.2.2 ys η1).toNat := by
          unfold zsM
          rw [hq]
        rw [e1]
        rcases List.mem_append.mp ho with ho | ho
        · exact gden _ _ _ w (Or.inl (List.all_eq_true.mp h7 o ho))
        · exact gden _ _ _ w (Or.inr (h2.1 o ho))
      · cases g1
    · exact h2.2 o ho
end ZW
/-- contracts of bounds and what is kept, as such -/
theorem zmet_g {P : sm_P} {K : sm_K} {df : Nat → List Value} {ro : Nat → List Int32} {X : sm_X} {dep mid rk : Nat} {T : zTm} {asp : List ab_V} {req rtu : zRt} {L : wL} {G : zE → Prop} {mods : List zCe} {pr : zPq} {po : zPo} {PG : List Int → zE → Prop} {QG : List Int → zE → Int → zE → Prop} (h : zMet P K df ro X dep mid T asp rk req rtu (sP L G pr) (fun xs η y η' => sQ L G po mods xs η y η')) (h1 : ∀ xs η, sP L zTr pr xs η → PG xs η → G η) (h2 : ∀ xs η y η', PG xs η → sQ L zTr po mods xs η y η' → G η' → QG xs η y η') : zMet P K df ro X dep mid T asp rk req rtu (fun xs η => sP L zTr pr xs η ∧ PG xs η) (fun xs η y η' => sQ L zTr po mods xs η y η' ∧ QG xs η y η') := by
  intro α h0 η ra d xs vs a1 a2 a3 a4 a5 a6 a7
  obtain ⟨n, v, h', y, η', g1, g2, g3, g4, g5⟩ := h α h0 η ra d xs vs a1 a2 a3 a4 a5 a6 ⟨⟨a7.1.1.1, h1 xs η a7.1 a7.2⟩, a7.1.2⟩
  exact ⟨n, v, h', y, η', g1, g2, g3, g4, sQ_w g5, h2 xs η y η' a7.2 (sQ_w g5) g5.1.2⟩
theorem zGk_upc {G : zE → Prop} {GR : List zCe} {η : zE} {r j : Nat} {x : Int} (hG : zGk G GR) (g : G η) (h : (!(zin2 GR r j)) = true) : G (zup η r j x) := hG η _ (fun r' j' hz => zup_ne (fun e e2 => by rw [e, e2, zin2_not h] at hz; cases hz)) g
