/-! What is kept, out of bounds of cells at a path's end. -/
def zrl (o : List zK) : List zK := match o with
  | [] => []
  | _ :: r => (12, 0, []) :: r
def zek2 (o : List zK) : Bool := match o with
  | [] => false
  | t :: r => Nat.ble 10 t.1 && (Nat.ble t.1 13 && zl7 r)
theorem zden_end {ro : Nat → List Int32} {L : wL} {G : zE → Prop} {cs : List zCs} {I : Nat → List Int → zE → Prop} {M : Nat → List Int → zE → Nat} {Q : Nat → Int → zE → Prop} {μ : Nat} (hI : ∀ η, I 0 [] η → G η) {t : zK} (h1 : 10 ≤ t.1) (h2 : t.1 ≤ 13) : ∀ (o : List zK) (ρ : List Int) (η : zE), zl7 o = true → zden ro (zsC L zTr cs) I M Q μ (o ++ [(12, 0, [])]) ρ η → zden ro (zGC L G cs) (fun _ _ η => G η) (fun _ _ _ => 0) (fun _ _ η => G η) 1 (o ++ [t]) ρ η
  | [], ρ, η, _, h => by
    have h : I 0 [] η := h
    obtain ⟨k, c, vs⟩ := t
    match k, h1, h2 with
    | 10, _, _ => exact ⟨hI η h, Nat.zero_lt_one⟩
    | 11, _, _ => exact hI η h
    | 12, _, _ => exact hI η h
    | 13, _, _ => exact hI η h
  | (k, c, vs) :: r, ρ, η, hl, h => by
    have hl2 := (Bool.and_eq_true _ _).mp (show (Nat.ble k 9 && zl7 r) = true from hl)
    match k, hl2.1, h with
    | 0, _, h => exact fun x hx => zden_end hI h1 h2 r _ _ hl2.2 (h x hx)
    | 1, _, h => exact fun x hx => zden_end hI h1 h2 r _ _ hl2.2 (h x hx)
    | 2, _, h => exact fun x hx => zden_end hI h1 h2 r _ _ hl2.2 (h x hx)
    | 3, _, h => exact fun x hx => zden_end hI h1 h2 r _ _ hl2.2 (h x hx)
    | 4, _, h => exact fun x hx hk => zden_end hI h1 h2 r _ _ hl2.2 (h x hx hk)
    | 5, _, h => exact fun x hx => zden_end hI h1 h2 r _ _ hl2.2 (h x hx)
    | 6, _, h => exact fun hx => zden_end hI h1 h2 r _ _ hl2.2 (h hx)
    | 7, _, h => exact h
    | 8, _, h =>
      refine fun y η' hx => zden_end hI h1 h2 r _ _ hl2.2 (h y η' ?_)
      have hx : ((zsC L G cs) c).2 (vs.map (zn ρ)) η y η' := hx
      show ((zsC L zTr cs) c).2 (vs.map (zn ρ)) η y η'
      unfold zsC at hx ⊢
      split at hx
      · next e he => exact sQ_w hx
      · exact hx
    | 9, _, h => exact fun x hx => zden_end hI h1 h2 r _ _ hl2.2 (h x hx)
    | k + 10, w, _ => exact absurd (Nat.ble_eq.mp w) (by omega)
theorem zl7_rev {o : List zK} (h : zl7 o = true) : zl7 o.reverse = true := by
  unfold zl7 at h ⊢
  rw [List.all_reverse]
  exact h
theorem zi0_alt {L : wL} {G : zE → Prop} {cs : List zCs} {mods : List zCe} {P : zPq} {fs : zFc} {D : List (List zK)} {n : Nat} {ro : Nat → List Int32} {xs : List Int} {η : zE} (hG : ∀ η, sF fs η → G η) (hq : zi0 L [] cs [(0, ([], fs), (0, []))] [] false mods n (0, []) P (D.map zrl) = true) (hD : D.all zek2 = true) (hn : xs.length = n) (hp : sP L G P xs η) {o : List zK} (ho : o ∈ D) : zden ro (zGC L G cs) (fun _ _ η => G η) (fun _ _ _ => 0) (fun _ _ η => G η) 1 o.reverse (0 :: xs) η := by
  have hk := List.all_eq_true.mp hD o ho
  have h := zi0_ok (ro := ro) (xs0 := xs) (η0 := η) (Q := fun _ _ _ => True) zTr_k (fun w => by cases w) hq hn (sP_w hp) (fun _ _ _ => rfl) (fun _ _ _ _ _ _ => trivial) (zrl o) (List.mem_map.mpr ⟨o, ho, rfl⟩)
  cases o with
  | nil => cases hk
  | cons t r =>
    obtain ⟨k1, k2, k3⟩ := ab_and3 hk
    rw [List.reverse_cons]
    have e : (zrl (t :: r)).reverse = r.reverse ++ [(12, 0, [])] := List.reverse_cons
    rw [e] at h
    exact zden_end (fun η hI => hG η hI.1.2.2) (Nat.ble_eq.mp k1) (Nat.ble_eq.mp k2) _ _ _ (zl7_rev k3) h
