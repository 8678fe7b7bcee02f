/-! A method's contract out of the engine's runs. -/
section ZJ
variable {P : sm_P} {K : sm_K} {df : Nat → List Value} {ro : Nat → List Int32} {X : sm_X} {mt : Lean.RArray (Nat × ab_M)} {T : zTm} {α : Nat → Nat} {rq raA : zRt} {rtu : List zRt} {fr : List (Nat × Nat)} {dep d mid : Nat} {cs : List zCd} {cu : List zCu} {mi : ab_M} {D : List (List zK)} {C : zCt} {I : Nat → List Int → zE → Prop} {M : Nat → List Int → zE → Nat} {Q : Nat → Int → zE → Prop} {μ : Nat} {ρ0 : List Int} {η0 : zE} {h0 : List sm_C} {strict : Bool}
theorem zq_ok (hX : ∀ (d : Nat) (i : Instr) (mid : Nat) (st : List Value) (h : List sm_C), mid < 900 → X d i [mid] st h = none) (hmt : ab_mtR P K mt) (hm : ab_mR P K mid mi) (hcs : ∀ e ∈ cs, zCon P K df ro X T C e) (hD : ∀ o ∈ D, zden ro C I M Q μ o.reverse ρ0 η0) (hdep : dep ≤ d) (hi : zInj T α) (hrq : ∀ q ∈ rq, zrt raA q.1 q.2.1 = some q.2.2) (hfr0 : ∀ q ∈ fr, zrt raA q.1 q.2 = none)
    (hcut : ∀ e ∈ cu, ∀ (ys : List Int) (η : zE) (lv : sm_L) (h : List sm_C), zL α (0 :: ys) e.2.2.1 lv → ys.length = zcn (e.2.2.1.map (fun q => q.2)) → zHp T α (e.2.2.2 ++ raA) η h → zFr T α h0 h → I e.2.1 ys η → (strict = true → M e.2.1 ys η < μ) → ev P K df ro X d mid e.1 lv [] h 0 0 (zF T α rtu raA h0 mi.2.2.2.2.1 Q)) :
    ∀ (f pc : Nat) (la : ab_L) (sa : List ab_V) (n : Nat) (nw : zRt) (ra : List zK), zq fr mt T rq rtu dep cs cu mi strict D f pc la sa n nw ra = true → ∀ (ρ : List Int) (η : zE) (lv : sm_L) (st : List Value) (h : List sm_C), zSt ro T α raA C I M Q μ ρ0 η0 h0 la sa n nw ra ρ η lv st h → ev P K df ro X d mid pc lv st h 0 0 (zF T α rtu raA h0 mi.2.2.2.2.1 Q)
  | 0, _, _, _, _, _, _, q => by cases q
  | f + 1, pc, la, sa, n, nw, ra, hq => by
    intro ρ η lv st h hS
    change (match zcu cu pc with
      | some e => zhi fr strict D e la sa nw ra
      | none => zst fr mt T rq rtu dep cs mi D (zq fr mt T rq rtu dep cs cu mi strict D f) pc la sa n nw ra) = true at hq
    split at hq
    · next e he =>
      have hmem := List.mem_of_find?_eq_some he
      have hpc := List.find?_some he
      have hpc : e.1 = pc := Nat.eq_of_beq_eq_true hpc
      obtain ⟨h00, hn, hl, hs, hh, hfr, hp⟩ := hS
      unfold zhi at hq
      split at hq
      · have hq := (Bool.and_eq_true _ _).mp hq
        have hq2 := hq.2
        cases st with
        | cons _ _ => exact hs.elim
        | nil =>
          split at hq2
          · next l hl0 =>
            have h1 := zob_use (o := []) hD hp hq2
            have h2 := zht_ok hl hl0 [] rfl
            have h3 := zht_len hl0
            have hh := zHp_cov hh (zcov_ok hq.1 hfr0)
            rw [← hpc]
            cases strict with
            | true => exact hcut e hmem _ η lv h h2 (by rw [List.nil_append, List.length_map]; exact h3) hh hfr h1.1 (fun _ => h1.2)
            | false => exact hcut e hmem _ η lv h h2 (by rw [List.nil_append, List.length_map]; exact h3) hh hfr h1 (fun w => by cases w)
          · cases hq2
      · cases hq
    · exact zst_ok hX hmt hm hcs hD hdep hi hrq hfr0 (fun pc la sa n nw ra hk ρ η lv st h hS => zq_ok hX hmt hm hcs hD hdep hi hrq hfr0 hcut f pc la sa n nw ra hk ρ η lv st h hS) hq hS
end ZJ
theorem ab_args_ge : ∀ {as : List ab_V} {j : Nat} {q : Nat × ab_V}, q ∈ ab_args j as → j ≤ q.1
  | [], _, _, h => by cases h
  | a :: as, j, q, h => by
    unfold ab_args at h
    rcases List.mem_cons.mp h with rfl | h
    · exact Nat.le_refl _
    · have := ab_args_ge h
      cases hb : ab_is2 a with
      | true => rw [hb] at this; dsimp only [cond_true] at this; omega
      | false => rw [hb] at this; dsimp only [cond_false] at this; omega
theorem zL_args {α : Nat → Nat} {ρ : List Int} : ∀ {as : List ab_V} {vs : List Value} (j : Nat), zS α ρ as vs → zL α ρ (ab_args j as) (lv_args j vs)
  | [], [], _, _ => fun q hq => by cases hq
  | [], _ :: _, _, q => q.elim
  | _ :: _, [], _, q => q.elim
  | a :: as, v :: vs, j, h => by
    intro q hq
    unfold ab_args at hq
    rw [lv_args]
    rcases List.mem_cons.mp hq with rfl | hq
    · exact ⟨v, sm_lk_head, h.1⟩
    · have hge := ab_args_ge hq
      cases hb : ab_is2 a with
      | true =>
        rw [hb] at hq hge
        dsimp only [cond_true] at hq hge
        have hc := zR_cat2 h.1 hb
        rw [if_pos hc]
        obtain ⟨w, g1, g2⟩ := zL_args (j + 2) h.2 q hq
        exact ⟨w, sm_lk_tail (by omega) g1, g2⟩
      | false =>
        rw [hb] at hq hge
        dsimp only [cond_false] at hq hge
        have hc := zR_cat1 h.1 hb
        rw [if_neg (by rw [hc]; decide)]
        obtain ⟨w, g1, g2⟩ := zL_args (j + 1) h.2 q hq
        exact ⟨w, sm_lk_tail (by omega) g1, g2⟩
/-- the numbers are in reach -/
def zrg (ρ : List Int) (as : List ab_V) : Prop := ∀ a ∈ as, match a with
  | .inl q => z32 (zn ρ q)
  | .inr (.inl q) => z64 (zn ρ q)
  | _ => True
theorem zrg_S {α : Nat → Nat} {ρ : List Int} : ∀ {as : List ab_V} {vs : List Value}, zS α ρ as vs → zrg ρ as
  | [], [], _ => fun a ha => by cases ha
  | [], _ :: _, q => q.elim
  | _ :: _, [], q => q.elim
  | a :: as, v :: vs, h => fun b hb => by
    rcases List.mem_cons.mp hb with rfl | hb
    · have h1 := h.1
      unfold zR at h1
      split at h1
      · exact h1.2.1
      · exact h1.2.1
      · trivial
      · trivial
      · trivial
    · exact zrg_S h.2 b hb
theorem zrg_L {α : Nat → Nat} {ρ : List Int} {la : ab_L} {lv : sm_L} (h : zL α ρ la lv) : zrg ρ (la.map (fun q => q.2)) := fun a ha => by
  obtain ⟨⟨k, b⟩, hq, rfl⟩ := List.mem_map.mp ha
  obtain ⟨v, _, h1⟩ := h _ hq
  dsimp only at h1 ⊢
  rcases b with q | q | q | q | q
  · exact h1.2.1
  · exact h1.2.1
  · trivial
  · trivial
  · trivial
section ZM
variable {P : sm_P} {K : sm_K} {df : Nat → List Value} {ro : Nat → List Int32} {X : sm_X} {mt : Lean.RArray (Nat × ab_M)} {T : zTm} {rq : zRt} {rtu : List zRt} {fr : List (Nat × Nat)} {dep mid : Nat} {cs : List zCd} {cu : List zCu} {mi : ab_M} {C : zCt}
/-- a method's contract (with ways in which references may stand at its end) out of the engine's runs from its entry and from each cut -/
theorem zmea_of {asp : List ab_V} {pre : List Int → zE → Prop} {post : Nat → List Int → zE → Int → zE → Prop} (I : List Int → zE → Nat → List Int → zE → Prop) (M : List Int → zE → Nat → List Int → zE → Nat) (hX : ∀ (d : Nat) (i : Instr) (mid : Nat) (st : List Value) (h : List sm_C), mid < 900 → X d i [mid] st h = none) (hmt : ab_mtR P K mt) (hmg : ab_get mt mid = some mi) (hcs : ∀ e ∈ cs, zCon P K df ro X T C e)
    {D0 : List (List zK)} {f0 : Nat} (hrun : zq fr mt T rq rtu dep cs cu mi false D0 f0 0 (ab_args 0 asp) [] (zcn asp + 1) [] [] = true) (hD0 : ∀ xs η, zrg (0 :: xs) asp → xs.length = zcn asp → pre xs η → ∀ o ∈ D0, zden ro C (I xs η) (M xs η) (fun j => post j xs η) 0 o.reverse (0 :: xs) η)
    (hseg : ∀ e ∈ cu, ∃ (D : List (List zK)) (f : Nat), zst fr mt T rq rtu dep cs mi D (zq fr mt T rq rtu dep cs cu mi true D f) e.1 e.2.2.1 [] (zcn (e.2.2.1.map (fun q => q.2)) + 1) e.2.2.2 [] = true ∧ ∀ xs η, xs.length = zcn asp → pre xs η → ∀ ys η1, zrg (0 :: ys) (e.2.2.1.map (fun q => q.2)) → ys.length = zcn (e.2.2.1.map (fun q => q.2)) → I xs η e.2.1 ys η1 → ∀ o ∈ D, zden ro C (I xs η) (M xs η) (fun j => post j xs η) (M xs η e.2.1 ys η1) o.reverse (0 :: ys) η1) :
    zMea P K df ro X dep mid T asp mi.2.2.2.2.1 rq rtu fr pre post := by
  intro α h η ra d xs vs hd hi hh hreq hfr0 hs hlen hpre
  have hm := hmt mid mi hmg
  have hc : ∀ (N : Nat) (e : zCu), e ∈ cu → ∀ (ys : List Int) (η1 : zE) (lv : sm_L) (h1 : List sm_C), zL α (0 :: ys) e.2.2.1 lv → ys.length = zcn (e.2.2.1.map (fun q => q.2)) → zHp T α (e.2.2.2 ++ ra) η1 h1 → zFr T α h h1 → I xs η e.2.1 ys η1 → M xs η e.2.1 ys η1 = N → ev P K df ro X d mid e.1 lv [] h1 0 0 (zF T α rtu ra h mi.2.2.2.2.1 (fun j => post j xs η)) := by
    intro N
    induction N using Nat.strongRecOn with
    | _ N ih =>
      intro e he ys η1 lv h1 hl hyl hh1 hfr hI hM
      obtain ⟨D, f, g1, g2⟩ := hseg e he
      have hD := g2 xs η hlen hpre ys η1 (zrg_L hl) hyl hI
      refine zst_ok hX hmt hm hcs hD hd hi hreq hfr0 (fun pc la sa n nw ra2 hk ρ η2 lv2 st2 h2 hS => zq_ok hX hmt hm hcs hD hd hi hreq hfr0 ?_ f pc la sa n nw ra2 hk ρ η2 lv2 st2 h2 hS) g1 (ρ := 0 :: ys) (η := η1) (lv := lv) (st := []) (h := h1) ⟨Nat.succ_pos _, by rw [List.length_cons, hyl], hl, trivial, hh1, hfr, fun r q => q⟩
      intro e2 he2 ys2 η3 lv3 h3 hl3 hyl3 hh3 hfr3 hI3 hlt
      exact ih _ (by have := hlt rfl; omega) e2 he2 ys2 η3 lv3 h3 hl3 hyl3 hh3 hfr3 hI3 rfl
  have hD := hD0 xs η (zrg_S hs) hlen hpre
  have hev := zq_ok (μ := 0) (rtu := rtu) (h0 := h) hX hmt hm hcs hD hd hi hreq hfr0 (fun e he ys η1 lv h1 hl hyl hh1 hfr hI _ => hc _ e he ys η1 lv h1 hl hyl hh1 hfr hI rfl) f0 0 (ab_args 0 asp) [] (zcn asp + 1) [] [] hrun (0 :: xs) η (lv_args 0 vs) [] h ⟨Nat.succ_pos _, by rw [List.length_cons, hlen], zL_args 0 hs, trivial, hh, zFr_rf, fun r q => q⟩
  obtain ⟨n, v, h', c', s', g1, g2, g3, g4, y, η', j, rt, g0, g5, g6, g7⟩ := hev
  subst g2; subst g3
  exact ⟨n, v, h', y, η', j, rt, g1, g0, g5, g4, g6, g7⟩
end ZM
