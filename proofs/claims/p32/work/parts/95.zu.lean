/-! More at cuts than bounds; contracts that serve where more is kept. -/
def zsp (sp : List Nat) (o : List zK) : Bool := o.all (fun t => Nat.ble t.1 9 || (Nat.beq t.1 11 || (Nat.beq t.1 13 || !(sp.any (fun q => Nat.beq q t.2.1)))))
theorem zden_x {ro : Nat → List Int32} {C : zCt} {I I' : Nat → List Int → zE → Prop} {M M' : Nat → List Int → zE → Nat} {Q : Nat → Int → zE → Prop} {μ : Nat} {sp : List Nat} (hI : ∀ c, sp.any (fun q => Nat.beq q c) = false → ∀ ys η, I c ys η → I' c ys η) (hM : ∀ c, sp.any (fun q => Nat.beq q c) = false → ∀ ys η, M' c ys η = M c ys η) : ∀ (o : List zK) (ρ : List Int) (η : zE), zsp sp o = true → zden ro C I M Q μ o ρ η → zden ro C I' M' Q μ o ρ η
  | [], _, _, _, _ => trivial
  | (k, c, vs) :: r, ρ, η, hl, h1 => by
    have hl2 := (Bool.and_eq_true _ _).mp (show ((Nat.ble k 9 || (Nat.beq k 11 || (Nat.beq k 13 || !(sp.any (fun q => Nat.beq q c))))) && zsp sp r) = true from hl)
    have ns : ∀ w : (!(sp.any (fun q => Nat.beq q c))) = true, sp.any (fun q => Nat.beq q c) = false := fun w => by
      cases hb : sp.any (fun q => Nat.beq q c) with
      | false => rfl
      | true => rw [hb] at w; cases w
    match k, hl2.1, h1 with
    | 0, _, h1 => exact fun x hx => zden_x hI hM r _ _ hl2.2 (h1 x hx)
    | 1, _, h1 => exact fun x hx => zden_x hI hM r _ _ hl2.2 (h1 x hx)
    | 2, _, h1 => exact fun x hx => zden_x hI hM r _ _ hl2.2 (h1 x hx)
    | 3, _, h1 => exact fun x hx => zden_x hI hM r _ _ hl2.2 (h1 x hx)
    | 4, _, h1 => exact fun x hx hk => zden_x hI hM r _ _ hl2.2 (h1 x hx hk)
    | 5, _, h1 => exact fun x hx => zden_x hI hM r _ _ hl2.2 (h1 x hx)
    | 6, _, h1 => exact fun hx => zden_x hI hM r _ _ hl2.2 (h1 hx)
    | 7, _, h1 => exact h1
    | 8, _, h1 => exact fun y η' hx => zden_x hI hM r _ _ hl2.2 (h1 y η' hx)
    | 9, _, h1 => exact fun x hx => zden_x hI hM r _ _ hl2.2 (h1 x hx)
    | 10, w, h1 =>
      have h1 : I c (vs.map (zn ρ)) η ∧ M c (vs.map (zn ρ)) η < μ := h1
      show I' c (vs.map (zn ρ)) η ∧ M' c (vs.map (zn ρ)) η < μ
      exact ⟨hI c (ns w) _ _ h1.1, by rw [hM c (ns w)]; exact h1.2⟩
    | 11, _, h1 => exact h1
    | 12, w, h1 =>
      have h1 : I c (vs.map (zn ρ)) η := h1
      show I' c (vs.map (zn ρ)) η
      exact hI c (ns w) _ _ h1
    | 13, _, h1 => exact h1
    | k + 14, _, h1 => exact h1.elim
def zl11 (o : List zK) : Bool := o.all (fun t => Nat.ble t.1 9 || (Nat.beq t.1 11 || Nat.beq t.1 13))
theorem zden_same {ro : Nat → List Int32} {C : zCt} {I I' : Nat → List Int → zE → Prop} {M M' : Nat → List Int → zE → Nat} {Q : Nat → Int → zE → Prop} {μ μ' : Nat} (o : List zK) (ρ : List Int) (η : zE) (hl : zl7 o = true ∨ zl11 o = true) (h1 : zden ro C I M Q μ o ρ η) : zden ro C I' M' Q μ' o ρ η := by
  have hl' : zl11 o = true := by
    rcases hl with h | h
    · refine List.all_eq_true.mpr (fun t ht => ?_)
      rw [List.all_eq_true.mp h t ht]
      rfl
    · exact h
  clear hl
  induction o generalizing ρ η with
  | nil => trivial
  | cons t r ih =>
    obtain ⟨k, c, vs⟩ := t
    have hl := hl'
    have hl2 := (Bool.and_eq_true _ _).mp (show ((Nat.ble k 9 || (Nat.beq k 11 || Nat.beq k 13)) && zl11 r) = true from hl)
    match k, hl2.1, h1 with
    | 0, _, h1 => exact fun x hx => ih _ _ (h1 x hx) hl2.2
    | 1, _, h1 => exact fun x hx => ih _ _ (h1 x hx) hl2.2
    | 2, _, h1 => exact fun x hx => ih _ _ (h1 x hx) hl2.2
    | 3, _, h1 => exact fun x hx => ih _ _ (h1 x hx) hl2.2
    | 4, _, h1 => exact fun x hx hk => ih _ _ (h1 x hx hk) hl2.2
    | 5, _, h1 => exact fun x hx => ih _ _ (h1 x hx) hl2.2
    | 6, _, h1 => exact fun hx => ih _ _ (h1 hx) hl2.2
    | 7, _, h1 => exact h1
    | 8, _, h1 => exact fun y η' hx => ih _ _ (h1 y η' hx) hl2.2
    | 9, _, h1 => exact fun x hx => ih _ _ (h1 x hx) hl2.2
    | 10, w, h1 => cases w
    | 11, _, h1 => exact h1
    | 12, w, h1 => cases w
    | 13, _, h1 => exact h1
    | k + 14, _, h1 => exact h1.elim
def zxI (L : wL) (G : zE → Prop) (iv : List zIv) (mods : List zCe) (XI : Nat → List Int → zE → Prop) (η0 : zE) : Nat → List Int → zE → Prop := fun c ys η => zsI L G iv mods η0 c ys η ∧ XI c ys η
def zxM (iv : List zIv) (XM : Nat → List Int → zE → Option Nat) : Nat → List Int → zE → Nat := fun c ys η => (XM c ys η).getD (zsM iv c ys η)
section ZU
variable {P : sm_P} {K : sm_K} {df : Nat → List Value} {ro : Nat → List Int32} {X : sm_X} {mt : Lean.RArray (Nat × ab_M)} {T : zTm} {rq : zRt} {rtu : List zRt} {fr : List (Nat × Nat)} {dep mid : Nat} {cd : List zCd} {cu : List zCu} {mi : ab_M} {L : wL} {G : zE → Prop} {GR : List zCe} {cs : List zCs} {iv : List zIv} {po : List zPo} {mods : List zCe} {pr : zPq} {asp : List ab_V}
/-- as zmea_man, with more at the cuts of sp -/
theorem zmea_manx (sp : List Nat) (XI : Nat → List Int → zE → Prop) (XM : Nat → List Int → zE → Option Nat) (hXI : ∀ c, sp.any (fun q => Nat.beq q c) = false → ∀ ys η, XI c ys η) (hXM : ∀ c, sp.any (fun q => Nat.beq q c) = false → ∀ ys η, XM c ys η = none)
    (hG : zGk G GR) (hX : ∀ (d : Nat) (i : Instr) (mid : Nat) (st : List Value) (h : List sm_C), mid < 900 → X d i [mid] st h = none) (hmt : ab_mtR P K mt) (hmg : ab_get mt mid = some mi) (hcs : ∀ e ∈ cd, zCon P K df ro X T (zsC L G cs) e)
    {D0 Dm : List (List zK)} {f0 : Nat} (hrun : zq fr mt T rq rtu dep cd cu mi false (D0 ++ Dm) f0 0 (ab_args 0 asp) [] (zcn asp + 1) [] [] = true) (hz0 : zi0 L GR cs iv po true mods (zcn asp) (0, []) pr D0 = true) (hs0 : D0.all (fun o => zsp sp o.reverse) = true) (hm0 : ∀ xs η, zrg (0 :: xs) asp → xs.length = zcn asp → sP L G pr xs η → ∀ o ∈ Dm, zden ro (zsC L G cs) (zxI L G iv mods XI η) (zxM iv XM) (zsQ L G po mods xs η) 0 o.reverse (0 :: xs) η)
    (hseg : ∀ e ∈ cu, ∃ (D Dm : List (List zK)) (f : Nat), (zsg fr mt T rq rtu dep cd cu mi L GR cs iv po mods e D Dm f && (D.all (fun o => zsp sp o.reverse) && (!(sp.any (fun q => Nat.beq q e.2.1)) || D.all (fun o => zl7 o.reverse || zl11 o.reverse)))) = true ∧ ∀ xs η, xs.length = zcn asp → sP L G pr xs η → ∀ ys η1, zrg (0 :: ys) (e.2.2.1.map (fun q => q.2)) → ys.length = zcn (e.2.2.1.map (fun q => q.2)) → zxI L G iv mods XI η e.2.1 ys η1 → ∀ o ∈ Dm, zden ro (zsC L G cs) (zxI L G iv mods XI η) (zxM iv XM) (zsQ L G po mods xs η) (zxM iv XM e.2.1 ys η1) o.reverse (0 :: ys) η1) :
    zMea P K df ro X dep mid T asp mi.2.2.2.2.1 rq rtu fr (sP L G pr) (fun j xs η y η' => zsQ L G po mods xs η j y η') := by
  have cI : ∀ η c, sp.any (fun q => Nat.beq q c) = false → ∀ ys η1, zsI L G iv mods η c ys η1 → zxI L G iv mods XI η c ys η1 := fun η c hc ys η1 h => ⟨h, hXI c hc ys η1⟩
  have cM : ∀ c, sp.any (fun q => Nat.beq q c) = false → ∀ ys η1, zxM iv XM c ys η1 = zsM iv c ys η1 := fun c hc ys η1 => by
    unfold zxM
    rw [hXM c hc]
    rfl
  refine zmea_of (C := zsC L G cs) (fun _ η => zxI L G iv mods XI η) (fun _ _ => zxM iv XM) hX hmt hmg hcs hrun ?_ ?_
  · intro xs η hr hl hp o ho
    rcases List.mem_append.mp ho with ho | ho
    · exact zden_x (cI η) cM _ _ _ (List.all_eq_true.mp hs0 o ho) (zi0_ok hG (fun _ => rfl) hz0 hl hp (fun _ _ _ => rfl) zsQ_of o ho)
    · exact hm0 xs η hr hl hp o ho
  · intro e he
    obtain ⟨D, Dm, f, h1, h2⟩ := hseg e he
    obtain ⟨h1, hs1, hs2⟩ := ab_and3 h1
    have g := (Bool.and_eq_true _ _).mp h1
    refine ⟨D ++ Dm, f, g.2, ?_⟩
    intro xs η hlx hp ys η1 hr hl hI o ho
    rcases List.mem_append.mp ho with ho | ho
    · have g1 := g.1
      split at g1
      · next q hq =>
        have hI2 := hI.1
        unfold zsI at hI2
        rw [hq] at hI2
        have := zi0_ok hG (xs0 := xs) (fun w => by cases w) (ro := ro) (Q := zsQ L G po mods xs η) g1 hl hI2.1 hI2.2 zsQ_of o ho
        rcases (Bool.or_eq_true _ _).mp hs2 with hs2 | hs2
        · have hns : sp.any (fun q => Nat.beq q e.2.1) = false := by
            cases hb : sp.any (fun q => Nat.beq q e.2.1) with
            | false => rfl
            | true => rw [hb] at hs2; cases hs2
          have e1 : zxM iv XM e.2.1 ys η1 = (sMv q.2.2 ys η1).toNat := by
            rw [cM _ hns]
            unfold zsM
            rw [hq]
          rw [e1]
          exact zden_x (cI η) cM _ _ _ (List.all_eq_true.mp hs1 o ho) this
        · rcases (Bool.or_eq_true _ _).mp (List.all_eq_true.mp hs2 o ho) with w | w
          · exact zden_same _ _ _ (Or.inl w) this
          · exact zden_same _ _ _ (Or.inr w) this
      · cases g1
    · exact h2 xs η hlx hp ys η1 hr hl hI o ho
end ZU
/-- what a contract keeps beside, where it changes nothing of that -/
def zdj (HR mods : List zCe) : Bool := HR.all (fun g => mods.all (fun q => !(Nat.beq q.1 g.1) || (!(Nat.beq q.2 0) && (!(Nat.beq g.2 0) && !(Nat.beq q.2 g.2)))))
theorem zdj_ok {HR mods : List zCe} (h : zdj HR mods = true) {r j : Nat} (hr : zin2 HR r j = true) : zin2 mods r j = false := by
  refine Bool.eq_false_iff.mpr (fun w => ?_)
  obtain ⟨g, g1, g2, g3⟩ := zin2_mem hr
  obtain ⟨q, q1, q2, q3⟩ := zin2_mem w
  have k := List.all_eq_true.mp (List.all_eq_true.mp h g g1) q q1
  rw [q2, g2, Nat.beq_refl] at k
  rcases (Bool.or_eq_true _ _).mp k with k | k
  · cases k
  obtain ⟨k1, k2, k3⟩ := ab_and3 k
  rcases q3 with q3 | q3
  · rw [q3] at k1; cases k1
  rcases g3 with g3 | g3
  · rw [g3] at k2; cases k2
  rw [q3, g3, Nat.beq_refl] at k3
  cases k3
theorem zmet_lift {P : sm_P} {K : sm_K} {df : Nat → List Value} {ro : Nat → List Int32} {X : sm_X} {dep mid rk : Nat} {T : zTm} {asp : List ab_V} {req rtu : zRt} {L : wL} {G H G2 : zE → Prop} {HR mods : List zCe} {pr : zPq} {po : zPo} (hH : zGk H HR) (hd : zdj HR mods = true) (h1 : ∀ η, G2 η → G η ∧ H η) (h2 : ∀ η, G η → H η → G2 η) (h : zMet P K df ro X dep mid T asp rk req rtu (sP L G pr) (fun xs η y η' => sQ L G po mods xs η y η')) : zMet P K df ro X dep mid T asp rk req rtu (sP L G2 pr) (fun xs η y η' => sQ L G2 po mods xs η y η') := by
  intro α h0 η ra d xs vs a1 a2 a3 a4 a5 a6 a7
  obtain ⟨n, v, h', y, η', g1, g2, g3, g4, g5⟩ := h α h0 η ra d xs vs a1 a2 a3 a4 a5 a6 ⟨⟨a7.1.1, (h1 η a7.1.2).1⟩, a7.2⟩
  refine ⟨n, v, h', y, η', g1, g2, g3, g4, ⟨g5.1.1, h2 η' g5.1.2 (hH η η' (fun r j hr => g5.2.2.2.1 r j (zdj_ok hd hr)) (h1 η a7.1.2).2)⟩, g5.2⟩
