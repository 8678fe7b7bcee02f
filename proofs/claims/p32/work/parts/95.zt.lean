/-! An obligation in two parts: its bounds (by the kernel's run), and what is kept (by hand). -/
def zTr : zE → Prop := fun _ => True
theorem zTr_k : zGk zTr [] := fun _ _ _ _ => trivial
theorem wB_w {L : wL} {G : zE → Prop} {η : zE} (h : wB L G η) : wB L zTr η := ⟨h.1, trivial⟩
theorem sP_w {L : wL} {G : zE → Prop} {P : zPq} {xs : List Int} {η : zE} (h : sP L G P xs η) : sP L zTr P xs η := ⟨wB_w h.1, h.2⟩
theorem sQ_w {L : wL} {G : zE → Prop} {po : zPo} {mods : List zCe} {xs : List Int} {η η' : zE} {y : Int} (h : sQ L G po mods xs η y η') : sQ L zTr po mods xs η y η' := ⟨wB_w h.1, h.2⟩
def zGC (L : wL) (G : zE → Prop) (cs : List zCs) : zCt := fun c => (fun _ η => G η, ((zsC L G cs) c).2)
theorem zden_two {ro : Nat → List Int32} {L : wL} {G : zE → Prop} {cs : List zCs} {iv : List zIv} {po : List zPo} {mods : List zCe} {xs : List Int} {η0 : zE} {μ : Nat} : ∀ (o : List zK) (ρ : List Int) (η : zE),
    zden ro (zsC L zTr cs) (zsI L zTr iv mods η0) (zsM iv) (zsQ L zTr po mods xs η0) μ o ρ η → zden ro (zGC L G cs) (fun _ _ η => G η) (fun _ _ _ => 0) (fun _ _ η => G η) 1 o ρ η → zden ro (zsC L G cs) (zsI L G iv mods η0) (zsM iv) (zsQ L G po mods xs η0) μ o ρ η
  | [], _, _, _, _ => trivial
  | (k, c, vs) :: r, ρ, η, h1, h2 => by
    match k, h1, h2 with
    | 0, h1, h2 => exact fun x hx => zden_two r _ _ (h1 x hx) (h2 x hx)
    | 1, h1, h2 => exact fun x hx => zden_two r _ _ (h1 x hx) (h2 x hx)
    | 2, h1, h2 => exact fun x hx => zden_two r _ _ (h1 x hx) (h2 x hx)
    | 3, h1, h2 => exact fun x hx => zden_two r _ _ (h1 x hx) (h2 x hx)
    | 4, h1, h2 => exact fun x hx hk => zden_two r _ _ (h1 x hx hk) (h2 x hx hk)
    | 5, h1, h2 => exact fun x hx => zden_two r _ _ (h1 x hx) (h2 x hx)
    | 6, h1, h2 => exact fun hx => zden_two r _ _ (h1 hx) (h2 hx)
    | 7, h1, h2 => exact h1
    | 8, h1, h2 =>
      refine fun y η' hx => zden_two r _ _ (h1 y η' ?_) (h2 y η' hx)
      have hx : ((zsC L G cs) c).2 (vs.map (zn ρ)) η y η' := hx
      show ((zsC L zTr cs) c).2 (vs.map (zn ρ)) η y η'
      unfold zsC at hx ⊢
      split at hx
      · next e he => exact sQ_w hx
      · exact hx
    | 9, h1, h2 => exact fun x hx => zden_two r _ _ (h1 x hx) (h2 x hx)
    | 10, h1, h2 =>
      have h1 : zsI L zTr iv mods η0 c (vs.map (zn ρ)) η ∧ zsM iv c (vs.map (zn ρ)) η < μ := h1
      have h2 : G η ∧ 0 < 1 := h2
      show zsI L G iv mods η0 c (vs.map (zn ρ)) η ∧ zsM iv c (vs.map (zn ρ)) η < μ
      refine ⟨?_, h1.2⟩
      have g1 := h1.1
      unfold zsI at g1 ⊢
      split at g1
      · next e he =>
        obtain ⟨⟨a1, a2⟩, a3⟩ := g1
        exact ⟨⟨⟨a1.1, h2.1⟩, a2⟩, a3⟩
      · exact g1
    | 11, h1, h2 =>
      have h1 : zsQ L zTr po mods xs η0 c (zn ρ (za vs 0)) η := h1
      have h2 : G η := h2
      show zsQ L G po mods xs η0 c (zn ρ (za vs 0)) η
      unfold zsQ at h1 ⊢
      split at h1
      · next e he =>
        obtain ⟨a1, a2⟩ := h1
        exact ⟨⟨a1.1, h2⟩, a2⟩
      · exact h1
    | 12, h1, h2 =>
      have h1 : zsI L zTr iv mods η0 c (vs.map (zn ρ)) η := h1
      have h2 : G η := h2
      show zsI L G iv mods η0 c (vs.map (zn ρ)) η
      unfold zsI at h1 ⊢
      split at h1
      · next e he =>
        obtain ⟨⟨a1, a2⟩, a3⟩ := h1
        exact ⟨⟨⟨a1.1, h2⟩, a2⟩, a3⟩
      · exact h1
    | 13, h1, h2 =>
      have h1 : ((zsC L zTr cs) c).1 (vs.map (zn ρ)) η := h1
      have h2 : G η := h2
      show ((zsC L G cs) c).1 (vs.map (zn ρ)) η
      unfold zsC at h1 ⊢
      split at h1
      · next e he =>
        obtain ⟨a1, a2⟩ := h1
        exact ⟨⟨a1.1, h2⟩, a2⟩
      · exact h1
    | k + 14, h1, h2 => exact h1
/-- the bounds' part of obligations at the start -/
theorem zi0_two {L : wL} {G : zE → Prop} {cs : List zCs} {iv : List zIv} {po : List zPo} {mods : List zCe} {P : zPq} {D : List (List zK)} {n : Nat} {ro : Nat → List Int32} {xs : List Int} {η : zE} (hq : zi0 L [] cs iv po true mods n (0, []) P D = true) (hn : xs.length = n) (hp : sP L G P xs η) {o : List zK} (ho : o ∈ D)
    (h2 : zden ro (zGC L G cs) (fun _ _ η => G η) (fun _ _ _ => 0) (fun _ _ η => G η) 1 o.reverse (0 :: xs) η) : zden ro (zsC L G cs) (zsI L G iv mods η) (zsM iv) (zsQ L G po mods xs η) 0 o.reverse (0 :: xs) η :=
  zden_two _ _ _ (zi0_ok (xs0 := xs) (η0 := η) zTr_k (fun _ => rfl) hq hn (sP_w hp) (fun _ _ _ => rfl) zsQ_of o ho) h2
/-- the same at a cut -/
theorem zi0_two_c {L : wL} {G : zE → Prop} {cs : List zCs} {iv : List zIv} {po : List zPo} {mods : List zCe} {e : zIv} {D : List (List zK)} {n c : Nat} {ro : Nat → List Int32} {xs ys : List Int} {η0 η : zE} (he : iv.find? (fun q => Nat.beq q.1 c) = some e) (hq : zi0 L [] cs iv po false mods n e.2.2 e.2.1 D = true) (hn : ys.length = n) (hI : zsI L G iv mods η0 c ys η) {o : List zK} (ho : o ∈ D)
    (h2 : zden ro (zGC L G cs) (fun _ _ η => G η) (fun _ _ _ => 0) (fun _ _ η => G η) 1 o.reverse (0 :: ys) η) : zden ro (zsC L G cs) (zsI L G iv mods η0) (zsM iv) (zsQ L G po mods xs η0) (zsM iv c ys η) o.reverse (0 :: ys) η := by
  unfold zsI at hI
  rw [he] at hI
  have e1 : zsM iv c ys η = (sMv e.2.2 ys η).toNat := by
    unfold zsM
    rw [he]
  rw [e1]
  exact zden_two _ _ _ (zi0_ok (xs0 := xs) (η0 := η0) (G := zTr) zTr_k (fun w => by cases w) hq hn (sP_w hI.1) hI.2 zsQ_of o ho) h2
/-- a path that ends in what must be so -/
def zl7 (o : List zK) : Bool := o.all (fun t => Nat.ble t.1 9)
theorem zden_one {ro : Nat → List Int32} {L : wL} {G : zE → Prop} {cs : List zCs} {I I' : Nat → List Int → zE → Prop} {M M' : Nat → List Int → zE → Nat} {Q Q' : Nat → Int → zE → Prop} {μ μ' : Nat} : ∀ (o : List zK) (ρ : List Int) (η : zE), zl7 o = true →
    zden ro (zsC L zTr cs) I' M' Q' μ' o ρ η → zden ro (zsC L G cs) I M Q μ o ρ η
  | [], _, _, _, _ => trivial
  | (k, c, vs) :: r, ρ, η, hl, h1 => by
    have hl2 := (Bool.and_eq_true _ _).mp (show (Nat.ble k 9 && zl7 r) = true from hl)
    match k, hl2.1, h1 with
    | 0, _, h1 => exact fun x hx => zden_one r _ _ hl2.2 (h1 x hx)
    | 1, _, h1 => exact fun x hx => zden_one r _ _ hl2.2 (h1 x hx)
    | 2, _, h1 => exact fun x hx => zden_one r _ _ hl2.2 (h1 x hx)
    | 3, _, h1 => exact fun x hx => zden_one r _ _ hl2.2 (h1 x hx)
    | 4, _, h1 => exact fun x hx hk => zden_one r _ _ hl2.2 (h1 x hx hk)
    | 5, _, h1 => exact fun x hx => zden_one r _ _ hl2.2 (h1 x hx)
    | 6, _, h1 => exact fun hx => zden_one r _ _ hl2.2 (h1 hx)
    | 7, _, h1 => exact h1
    | 8, _, h1 =>
      refine fun y η' hx => zden_one r _ _ hl2.2 (h1 y η' ?_)
      have hx : ((zsC L G cs) c).2 (vs.map (zn ρ)) η y η' := hx
      show ((zsC L zTr cs) c).2 (vs.map (zn ρ)) η y η'
      unfold zsC at hx ⊢
      split at hx
      · next e he => exact sQ_w hx
      · exact hx
    | 9, _, h1 => exact fun x hx => zden_one r _ _ hl2.2 (h1 x hx)
    | k + 10, w, _ => exact absurd (Nat.ble_eq.mp w) (by omega)
theorem zi0_one {L : wL} {G : zE → Prop} {cs : List zCs} {iv : List zIv} {po : List zPo} {mods : List zCe} {P : zPq} {e : zMe} {D : List (List zK)} {n : Nat} {en : Bool} {ro : Nat → List Int32} {xs : List Int} {η : zE} {I : Nat → List Int → zE → Prop} {M : Nat → List Int → zE → Nat} {Q : Nat → Int → zE → Prop} {μ : Nat} (hq : zi0 L [] cs iv po en mods n e P D = true) (hn : xs.length = n) (hp : sP L G P xs η) {o : List zK} (ho : o ∈ D) (h7 : zl7 o.reverse = true) : zden ro (zsC L G cs) I M Q μ o.reverse (0 :: xs) η :=
  zden_one _ _ _ h7 (zi0_ok (xs0 := xs) (η0 := η) zTr_k (fun _ => rfl) hq hn (sP_w hp) (fun _ _ _ => rfl) zsQ_of o ho)
theorem zFm_up {mods : List zCe} {η0 η : zE} {r j : Nat} {x : Int} (h : zFm mods η0 η) (hr : zin2 mods r j = true) : zFm mods η0 (zup η r j x) := fun r' j' g => by
  unfold zup
  rw [if_neg (fun e => by rw [e.1, e.2, hr] at g; cases g)]
  exact h r' j' g
theorem zup_eq {η : zE} {r j : Nat} {x : Int} : zup η r j x r j = x := by
  unfold zup
  rw [if_pos ⟨rfl, rfl⟩]
theorem zup_ne {η : zE} {r j r' j' : Nat} {x : Int} (h : r' = r → j' = j → False) : zup η r j x r' j' = η r' j' := by
  unfold zup
  rw [if_neg (fun e => h e.1 e.2)]
theorem zGk_up {G : zE → Prop} {GR : List zCe} {η : zE} {r j : Nat} {x : Int} (hG : zGk G GR) (g : G η) (h : (!(zinr GR r)) = true) : G (zup η r j x) := hG η _ (fun r' j' hz => zup_ne (fun e _ => by rw [e, zinr_not h] at hz; cases hz)) g
theorem zFm_rf {mods : List zCe} {η : zE} : zFm mods η η := fun _ _ _ => rfl
