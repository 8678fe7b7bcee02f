/-! As zmea_gen, with another measure at some cuts. -/
def zm12 (o : List zK) : Bool := o.all (fun t => !(Nat.beq t.1 10))
theorem zden_m {ro : Nat → List Int32} {C : zCt} {I : Nat → List Int → zE → Prop} {M M' : Nat → List Int → zE → Nat} {Q : Nat → Int → zE → Prop} {μ μ' : Nat} : ∀ (o : List zK) (ρ : List Int) (η : zE), zm12 o = true → zden ro C I M Q μ o ρ η → zden ro C I M' Q μ' o ρ η
  | [], _, _, _, _ => trivial
  | (k, c, vs) :: r, ρ, η, hz, h1 => by
    have tl := (Bool.and_eq_true _ _).mp (show ((!(Nat.beq k 10)) && zm12 r) = true from hz)
    match k, h1, tl with
    | 0, h1, tl => exact fun x hx => zden_m r _ _ tl.2 (h1 x hx)
    | 1, h1, tl => exact fun x hx => zden_m r _ _ tl.2 (h1 x hx)
    | 2, h1, tl => exact fun x hx => zden_m r _ _ tl.2 (h1 x hx)
    | 3, h1, tl => exact fun x hx => zden_m r _ _ tl.2 (h1 x hx)
    | 4, h1, tl => exact fun x hx hk => zden_m r _ _ tl.2 (h1 x hx hk)
    | 5, h1, tl => exact fun x hx => zden_m r _ _ tl.2 (h1 x hx)
    | 6, h1, tl => exact fun hx => zden_m r _ _ tl.2 (h1 hx)
    | 7, h1, tl => exact h1
    | 8, h1, tl => exact fun y η' hx => zden_m r _ _ tl.2 (h1 y η' hx)
    | 9, h1, tl => exact fun x hx => zden_m r _ _ tl.2 (h1 x hx)
    | 10, h1, tl => exact absurd tl.1 (by decide)
    | 11, h1, tl => exact h1
    | 12, h1, tl => exact h1
    | 13, h1, tl => exact h1
    | k + 14, h1, tl => exact h1.elim
section ZX
variable {P : sm_P} {K : sm_K} {df : Nat → List Value} {ro : Nat → List Int32} {X : sm_X} {mt : Lean.RArray (Nat × ab_M)} {T : zTm} {rq : zRt} {rtu : List zRt} {fr : List (Nat × Nat)} {dep mid : Nat} {cd : List zCd} {cu : List zCu} {mi : ab_M} {L : wL} {cs : List zCs} {iv : List zIv} {po : List zPo} {mods : List zCe} {pr : zPq} {asp : List ab_V}
/-- the obligations by the kernel alone: those that say nothing of a measure, or whose measures (at both ends) are the sums -/
theorem zmea_genx (M : Nat → List Int → zE → Nat) (sp : List Nat) (hM : ∀ c, sp.any (fun q => Nat.beq q c) = false → ∀ ys η, M c ys η = zsM iv c ys η) (PG : Nat → List Int → zE → Prop) (QG : Nat → List Int → zE → Int → zE → Prop) (IG : List Int → zE → Nat → List Int → zE → Prop) (PP : List Int → zE → Prop) (QQ : List Int → zE → Nat → Int → zE → Prop)
    (hX : ∀ (d : Nat) (i : Instr) (mid : Nat) (st : List Value) (h : List sm_C), mid < 900 → X d i [mid] st h = none) (hmt : ab_mtR P K mt) (hmg : ab_get mt mid = some mi) (hcs : ∀ e ∈ cd, zCon P K df ro X T (gC L cs PG QG) e)
    {D7 D0 Dm : List (List zK)} {f0 : Nat} (hrun : zq fr mt T rq rtu dep cd cu mi false (D7 ++ D0 ++ Dm) f0 0 (ab_args 0 asp) [] (zcn asp + 1) [] [] = true) (hz0 : zi0 L [] cs iv po true mods (zcn asp) (0, []) pr (D7 ++ D0) = true) (h7 : (D7.all (fun o => zl7 o.reverse) && (D7 ++ D0).all (fun o => zm12 o.reverse)) = true)
    (h0 : ∀ xs η, zrg (0 :: xs) asp → xs.length = zcn asp → sP L zTr pr xs η → PP xs η → ∀ o ∈ D0, zden ro (gC2 L cs PG QG) (IG xs η) (fun _ _ _ => 0) (QQ xs η) 1 o.reverse (0 :: xs) η)
    (hm0 : ∀ xs η, zrg (0 :: xs) asp → xs.length = zcn asp → sP L zTr pr xs η → PP xs η → ∀ o ∈ Dm, zden ro (gC L cs PG QG) (fun c ys η1 => zsI L zTr iv mods η c ys η1 ∧ IG xs η c ys η1) M (fun j y η1 => zsQ L zTr po mods xs η j y η1 ∧ QQ xs η j y η1) 0 o.reverse (0 :: xs) η)
    (hseg : ∀ e ∈ cu, ∃ (D7 D Dm : List (List zK)) (f : Nat), (zsg fr mt T rq rtu dep cd cu mi L [] cs iv po mods e (D7 ++ D) Dm f && (D7.all (fun o => zl7 o.reverse) && (bif sp.any (fun q => Nat.beq q e.2.1) then (D7 ++ D).all (fun o => zm12 o.reverse) else (D7 ++ D).all (fun o => zsp sp o.reverse)))) = true ∧ ∀ xs η, xs.length = zcn asp → sP L zTr pr xs η → PP xs η → ∀ ys η1, zrg (0 :: ys) (e.2.2.1.map (fun q => q.2)) → ys.length = zcn (e.2.2.1.map (fun q => q.2)) → zsI L zTr iv mods η e.2.1 ys η1 → IG xs η e.2.1 ys η1 → (∀ o ∈ D, zden ro (gC2 L cs PG QG) (IG xs η) (fun _ _ _ => 0) (QQ xs η) 1 o.reverse (0 :: ys) η1) ∧ ∀ o ∈ Dm, zden ro (gC L cs PG QG) (fun c ys η1 => zsI L zTr iv mods η c ys η1 ∧ IG xs η c ys η1) M (fun j y η1 => zsQ L zTr po mods xs η j y η1 ∧ QQ xs η j y η1) (M e.2.1 ys η1) o.reverse (0 :: ys) η1) :
    zMea P K df ro X dep mid T asp mi.2.2.2.2.1 rq rtu fr (fun xs η => sP L zTr pr xs η ∧ PP xs η) (fun j xs η y η' => zsQ L zTr po mods xs η j y η' ∧ QQ xs η j y η') := by
  obtain ⟨h7, h12⟩ := (Bool.and_eq_true _ _).mp h7
  refine zmea_of (C := gC L cs PG QG) (fun xs η c ys η1 => zsI L zTr iv mods η c ys η1 ∧ IG xs η c ys η1) (fun _ _ => M) hX hmt hmg hcs hrun ?_ ?_
  · intro xs η hr hl hp o ho
    rcases List.mem_append.mp ho with ho | ho
    · have g := zi0_ok (ro := ro) zTr_k (xs0 := xs) (fun _ => rfl) hz0 hl hp.1 (fun _ _ _ => rfl) zsQ_of o ho
      have z := List.all_eq_true.mp h12 o ho
      rcases List.mem_append.mp ho with ho | ho
      · exact zden_m _ _ _ z (gden _ _ _ g (Or.inl (List.all_eq_true.mp h7 o ho)))
      · exact zden_m _ _ _ z (gden _ _ _ g (Or.inr (h0 xs η hr hl hp.1 hp.2 o ho)))
    · exact hm0 xs η hr hl hp.1 hp.2 o ho
  · intro e he
    obtain ⟨D7, D, Dm, f, h1, h2⟩ := hseg e he
    obtain ⟨h1, h7⟩ := (Bool.and_eq_true _ _).mp h1
    obtain ⟨h7, hb⟩ := (Bool.and_eq_true _ _).mp h7
    have g := (Bool.and_eq_true _ _).mp h1
    refine ⟨D7 ++ D ++ Dm, f, g.2, ?_⟩
    intro xs η hlx hp ys η1 hr hl hI o ho
    have h2 := h2 xs η hlx hp.1 hp.2 ys η1 hr hl hI.1 hI.2
    rcases List.mem_append.mp ho with ho | ho
    · have g1 := g.1
      split at g1
      · next q hq =>
        have hI2 := hI.1
        unfold zsI at hI2
        rw [hq] at hI2
        have w := zi0_ok (ro := ro) zTr_k (xs0 := xs) (fun w => by cases w) (Q := zsQ L zTr po mods xs η) g1 hl hI2.1 hI2.2 zsQ_of o ho
        have w2 : zden ro (gC L cs PG QG) (fun c ys η1 => zsI L zTr iv mods η c ys η1 ∧ IG xs η c ys η1) (zsM iv) (fun j y η1 => zsQ L zTr po mods xs η j y η1 ∧ QQ xs η j y η1) (sMv q.2.2 ys η1).toNat o.reverse (0 :: ys) η1 := by
          rcases List.mem_append.mp ho with ho | ho
          · exact gden _ _ _ w (Or.inl (List.all_eq_true.mp h7 o ho))
          · exact gden _ _ _ w (Or.inr (h2.1 o ho))
        cases hs : sp.any (fun q => Nat.beq q e.2.1) with
        | true =>
          rw [hs] at hb
          exact zden_m _ _ _ (List.all_eq_true.mp hb o ho) w2
        | false =>
          rw [hs] at hb
          have e1 : M e.2.1 ys η1 = (sMv q.2.2 ys η1).toNat := by
            rw [hM _ hs]
            unfold zsM
            rw [hq]
          rw [e1]
          exact zden_x (fun _ _ _ _ h => h) hM _ _ _ (List.all_eq_true.mp hb o ho) w2
      · cases g1
    · exact h2.2 o ho
end ZX
/-- back to contracts of bounds and what is kept -/
theorem zmet_ug {P : sm_P} {K : sm_K} {df : Nat → List Value} {ro : Nat → List Int32} {X : sm_X} {dep mid rk : Nat} {T : zTm} {asp : List ab_V} {req rtu : zRt} {L : wL} {G : zE → Prop} {mods : List zCe} {pr : zPq} {po : zPo} (h : zMet P K df ro X dep mid T asp rk req rtu (fun xs η => sP L zTr pr xs η ∧ G η) (fun xs η y η' => sQ L zTr po mods xs η y η' ∧ G η')) : zMet P K df ro X dep mid T asp rk req rtu (sP L G pr) (fun xs η y η' => sQ L G po mods xs η y η') := by
  intro α h0 η ra d xs vs a1 a2 a3 a4 a5 a6 a7
  obtain ⟨n, v, h', y, η', g1, g2, g3, g4, g5, g6⟩ := h α h0 η ra d xs vs a1 a2 a3 a4 a5 a6 ⟨sP_w a7, a7.1.2⟩
  exact ⟨n, v, h', y, η', g1, g2, g3, g4, ⟨g5.1.1, g6⟩, g5.2⟩
