/-! A method's contract in bounds, out of the engine's runs and the bounds' run over its paths. -/
def zsC (L : wL) (G : zE → Prop) (cs : List zCs) : zCt := fun c => match cs.find? (fun e => Nat.beq e.1 c) with
  | some e => (sP L G e.2.1, fun xs η y η' => sQ L G e.2.2.1 e.2.2.2 xs η y η')
  | none => (fun _ _ => False, fun _ _ _ _ => False)
def zsI (L : wL) (G : zE → Prop) (iv : List zIv) (mods : List zCe) (η0 : zE) : Nat → List Int → zE → Prop := fun c ys η => match iv.find? (fun e => Nat.beq e.1 c) with
  | some e => sP L G e.2.1 ys η ∧ zFm mods η0 η
  | none => False
def zsM (iv : List zIv) : Nat → List Int → zE → Nat := fun c ys η => match iv.find? (fun e => Nat.beq e.1 c) with
  | some e => (sMv e.2.2 ys η).toNat
  | none => 0
def zsQ (L : wL) (G : zE → Prop) (po : List zPo) (mods : List zCe) (xs : List Int) (η : zE) : Nat → Int → zE → Prop := fun j y η' => match po[j]? with
  | some o => sQ L G o mods xs η y η'
  | none => False
theorem zsQ_of {L : wL} {G : zE → Prop} {po : List zPo} {mods : List zCe} {xs : List Int} {η : zE} : ∀ c o, po[c]? = some o → ∀ y η', sQ L G o mods xs η y η' → zsQ L G po mods xs η c y η' := fun c o h y η' g => by
  unfold zsQ
  rw [h]
  exact g
def zE0 : List (Int × Int) → Nat → List (Nat × Int × Int)
  | [], _ => []
  | b :: bs, k => (k, b) :: zE0 bs (k + 1)
theorem zE0_ok {ρ : List Int} : ∀ {bs : List (Int × Int)} {xs : List Int} {k : Nat}, sB bs xs → (∀ i, i < xs.length → ρ.getD (k + i) 0 = xs.getD i 0) → k + xs.length ≤ ρ.length → ∀ q ∈ zE0 bs k, q.1 < ρ.length ∧ q.2.1 ≤ ρ.getD q.1 0 ∧ ρ.getD q.1 0 ≤ q.2.2
  | [], _, _, _, _, _ => fun q hq => by cases hq
  | b :: bs, [], _, h, _, _ => h.elim
  | b :: bs, x :: xs, k, h, hx, hl => fun q hq => by
    rw [List.length_cons] at hl
    rcases List.mem_cons.mp hq with rfl | hq
    · have e := hx 0 (by rw [List.length_cons]; omega)
      rw [Nat.add_zero] at e
      dsimp only
      rw [e]
      exact ⟨by omega, h.1⟩
    · exact zE0_ok h.2 (fun i hi => by
        have e := hx (i + 1) (by rw [List.length_cons]; omega)
        rw [show k + 1 + i = k + (i + 1) by omega, e]
        rfl) (by omega) q hq
/-- the start of a path -/
def zi0 (L : wL) (GR : List zCe) (cs : List zCs) (iv : List zIv) (po : List zPo) (en : Bool) (mods : List zCe) (n : Nat) (e0 : zMe) (P : zPq) (D : List (List zK)) : Bool := D.all (fun o => zi L GR cs iv po en mods n e0 o.reverse [] [] [] (zE0 P.1 1, [], []) [] (n + 1) [] P.2 [] [])
theorem zi0_ok {L : wL} {G : zE → Prop} {GR : List zCe} {cs : List zCs} {iv : List zIv} {po : List zPo} {mods : List zCe} {e0 : zMe} {P : zPq} {D : List (List zK)} {n : Nat} {en : Bool} {ro : Nat → List Int32} {ys xs0 : List Int} {η0 η : zE} (hG : zGk G GR) (hxs : en = true → xs0 = ys) (hq : zi0 L GR cs iv po en mods n e0 P D = true) (hn : ys.length = n) (hp : sP L G P ys η) (h0 : zFm mods η0 η) {Q : Nat → Int → zE → Prop} (hQ : ∀ c o, po[c]? = some o → ∀ y η', sQ L G o mods xs0 η0 y η' → Q c y η') : ∀ o ∈ D, zden ro (zsC L G cs) (zsI L G iv mods η0) (zsM iv) Q (sMv e0 ys η).toNat o.reverse (0 :: ys) η := by
  intro o ho
  have g := List.all_eq_true.mp hq o ho
  have len : (0 :: ys : List Int).length = n + 1 := by rw [List.length_cons, hn]
  refine zi_ok (L := L) (G := G) (GR := GR) (ηs := η) (cs := cs) (iv := iv) (po := po) (mods := mods) (n0 := n) (e0 := e0) (ys0 := ys) (η0 := η0) hG ?_ ?_ ?_ ?_ rfl hQ hxs h0 o.reverse [] [] [] (0 :: ys) η _ _ _ _ _ _ _ ⟨?_, by rw [len], fun a ha => (by cases ha), fun a ha => (by cases ha), hp.1, hp.2.2, fun a ha => (by cases ha), fun _ _ _ => rfl⟩ (fun e he => by cases he) (fun e he => by cases he) (fun e he => by cases he) (by rw [len]; omega) (fun a _ => rfl) g
  · intro c e he xs η h
    unfold zsC
    rw [he]
    exact h
  · intro c e he xs η y η' h
    unfold zsC at h
    rw [he] at h
    exact h
  · intro c e he ys η h h2
    unfold zsI
    rw [he]
    exact ⟨h, h2⟩
  · intro c e he ys η
    unfold zsM
    rw [he]
  · refine ⟨by rw [len]; omega, rfl, zE0_ok (ρ := 0 :: ys) (k := 1) hp.2.1 (fun i _ => by rw [Nat.add_comm]; rfl) (by rw [len, hn]; omega), fun q hq => (by cases hq), fun q hq => (by cases hq)⟩
section ZQ
variable {P : sm_P} {K : sm_K} {df : Nat → List Value} {ro : Nat → List Int32} {X : sm_X} {mt : Lean.RArray (Nat × ab_M)} {T : zTm} {rq : zRt} {rtu : List zRt} {fr : List (Nat × Nat)} {dep mid : Nat} {cd : List zCd} {cu : List zCu} {mi : ab_M} {L : wL} {G : zE → Prop} {GR : List zCe} {cs : List zCs} {iv : List zIv} {po : List zPo} {mods : List zCe} {pr : zPq} {asp : List ab_V}
/-- one part of the check: at a cut -/
noncomputable def zsg (fr : List (Nat × Nat)) (mt : Lean.RArray (Nat × ab_M)) (T : zTm) (rq : zRt) (rtu : List zRt) (dep : Nat) (cd : List zCd) (cu : List zCu) (mi : ab_M) (L : wL) (GR : List zCe) (cs : List zCs) (iv : List zIv) (po : List zPo) (mods : List zCe) (e : zCu) (D Dm : List (List zK)) (f : Nat) : Bool := (match iv.find? (fun q => Nat.beq q.1 e.2.1) with
  | some q => zi0 L GR cs iv po false mods (zcn (e.2.2.1.map (fun q => q.2))) q.2.2 q.2.1 D
  | none => false) && zst fr mt T rq rtu dep cd mi (D ++ Dm) (zq fr mt T rq rtu dep cd cu mi true (D ++ Dm) f) e.1 e.2.2.1 [] (zcn (e.2.2.1.map (fun q => q.2)) + 1) e.2.2.2 []
/-- some of the obligations by hand -/
theorem zmea_man (hG : zGk G GR) (hX : ∀ (d : Nat) (i : Instr) (mid : Nat) (st : List Value) (h : List sm_C), mid < 900 → X d i [mid] st h = none) (hmt : ab_mtR P K mt) (hmg : ab_get mt mid = some mi) (hcs : ∀ e ∈ cd, zCon P K df ro X T (zsC L G cs) e)
    {D0 Dm : List (List zK)} {f0 : Nat} (hrun : zq fr mt T rq rtu dep cd cu mi false (D0 ++ Dm) f0 0 (ab_args 0 asp) [] (zcn asp + 1) [] [] = true) (hz0 : zi0 L GR cs iv po true mods (zcn asp) (0, []) pr D0 = true) (hm0 : ∀ xs η, zrg (0 :: xs) asp → xs.length = zcn asp → sP L G pr xs η → ∀ o ∈ Dm, zden ro (zsC L G cs) (zsI L G iv mods η) (zsM iv) (zsQ L G po mods xs η) 0 o.reverse (0 :: xs) η)
    (hseg : ∀ e ∈ cu, ∃ (D Dm : List (List zK)) (f : Nat), zsg fr mt T rq rtu dep cd cu mi L GR cs iv po mods e D Dm f = true ∧ ∀ xs η, xs.length = zcn asp → sP L G pr xs η → ∀ ys η1, zrg (0 :: ys) (e.2.2.1.map (fun q => q.2)) → ys.length = zcn (e.2.2.1.map (fun q => q.2)) → zsI L G iv mods η e.2.1 ys η1 → ∀ o ∈ Dm, zden ro (zsC L G cs) (zsI L G iv mods η) (zsM iv) (zsQ L G po mods xs η) (zsM iv e.2.1 ys η1) o.reverse (0 :: ys) η1) :
    zMea P K df ro X dep mid T asp mi.2.2.2.2.1 rq rtu fr (sP L G pr) (fun j xs η y η' => zsQ L G po mods xs η j y η') := by
  refine zmea_of (C := zsC L G cs) (fun _ η => zsI L G iv mods η) (fun _ _ => zsM iv) hX hmt hmg hcs hrun ?_ ?_
  · intro xs η hr hl hp o ho
    rcases List.mem_append.mp ho with ho | ho
    · exact zi0_ok hG (fun _ => rfl) hz0 hl hp (fun _ _ _ => rfl) zsQ_of o ho
    · exact hm0 xs η hr hl hp o ho
  · intro e he
    obtain ⟨D, Dm, f, h1, h2⟩ := hseg e he
    have g := (Bool.and_eq_true _ _).mp h1
    refine ⟨D ++ Dm, f, g.2, ?_⟩
    intro xs η hlx hp ys η1 hr hl hI o ho
    rcases List.mem_append.mp ho with ho | ho
    · have g1 := g.1
      split at g1
      · next q hq =>
        have hI2 := hI
        unfold zsI at hI2
        rw [hq] at hI2
        have := zi0_ok hG (xs0 := xs) (fun w => by cases w) (ro := ro) (Q := zsQ L G po mods xs η) g1 hl hI2.1 hI2.2 zsQ_of
        have e1 : zsM iv e.2.1 ys η1 = (sMv q.2.2 ys η1).toNat := by
          unfold zsM
          rw [hq]
        rw [e1]
        exact this o ho
      · cases g1
    · exact h2 xs η hlx hp ys η1 hr hl hI o ho
theorem zmea_std (hG : zGk G GR) (hX : ∀ (d : Nat) (i : Instr) (mid : Nat) (st : List Value) (h : List sm_C), mid < 900 → X d i [mid] st h = none) (hmt : ab_mtR P K mt) (hmg : ab_get mt mid = some mi) (hcs : ∀ e ∈ cd, zCon P K df ro X T (zsC L G cs) e)
    {D0 : List (List zK)} {f0 : Nat} (hrun : zq fr mt T rq rtu dep cd cu mi false D0 f0 0 (ab_args 0 asp) [] (zcn asp + 1) [] [] = true) (hz0 : zi0 L GR cs iv po true mods (zcn asp) (0, []) pr D0 = true)
    (hseg : ∀ e ∈ cu, ∃ (D : List (List zK)) (f : Nat), zsg fr mt T rq rtu dep cd cu mi L GR cs iv po mods e D [] f = true) :
    zMea P K df ro X dep mid T asp mi.2.2.2.2.1 rq rtu fr (sP L G pr) (fun j xs η y η' => zsQ L G po mods xs η j y η') :=
  zmea_man hG hX hmt hmg hcs (D0 := D0) (Dm := []) (f0 := f0) (by rw [List.append_nil]; exact hrun) hz0 (fun _ _ _ _ _ _ h => nomatch h) (fun e he => by
    obtain ⟨D, f, h⟩ := hseg e he
    exact ⟨D, [], f, h, fun _ _ _ _ _ _ _ _ _ _ h => nomatch h⟩)
theorem zmet_std {rtu1 : zRt} {po1 : zPo} (hG : zGk G GR) (hX : ∀ (d : Nat) (i : Instr) (mid : Nat) (st : List Value) (h : List sm_C), mid < 900 → X d i [mid] st h = none) (hmt : ab_mtR P K mt) (hmg : ab_get mt mid = some mi) (hcs : ∀ e ∈ cd, zCon P K df ro X T (zsC L G cs) e)
    {D0 : List (List zK)} {f0 : Nat} (hrun : zq [] mt T rq [rtu1] dep cd cu mi false D0 f0 0 (ab_args 0 asp) [] (zcn asp + 1) [] [] = true) (hz0 : zi0 L GR cs iv [po1] true mods (zcn asp) (0, []) pr D0 = true)
    (hseg : ∀ e ∈ cu, ∃ (D : List (List zK)) (f : Nat), zsg [] mt T rq [rtu1] dep cd cu mi L GR cs iv [po1] mods e D [] f = true) :
    zMet P K df ro X dep mid T asp mi.2.2.2.2.1 rq rtu1 (sP L G pr) (fun xs η y η' => sQ L G po1 mods xs η y η') :=
  zmet_alt (zmea_std hG hX hmt hmg hcs hrun hz0 hseg)
theorem zmet_man {rtu1 : zRt} {po1 : zPo} (hG : zGk G GR) (hX : ∀ (d : Nat) (i : Instr) (mid : Nat) (st : List Value) (h : List sm_C), mid < 900 → X d i [mid] st h = none) (hmt : ab_mtR P K mt) (hmg : ab_get mt mid = some mi) (hcs : ∀ e ∈ cd, zCon P K df ro X T (zsC L G cs) e)
    {D0 Dm : List (List zK)} {f0 : Nat} (hrun : zq [] mt T rq [rtu1] dep cd cu mi false (D0 ++ Dm) f0 0 (ab_args 0 asp) [] (zcn asp + 1) [] [] = true) (hz0 : zi0 L GR cs iv [po1] true mods (zcn asp) (0, []) pr D0 = true) (hm0 : ∀ xs η, zrg (0 :: xs) asp → xs.length = zcn asp → sP L G pr xs η → ∀ o ∈ Dm, zden ro (zsC L G cs) (zsI L G iv mods η) (zsM iv) (zsQ L G [po1] mods xs η) 0 o.reverse (0 :: xs) η)
    (hseg : ∀ e ∈ cu, ∃ (D Dm : List (List zK)) (f : Nat), zsg [] mt T rq [rtu1] dep cd cu mi L GR cs iv [po1] mods e D Dm f = true ∧ ∀ xs η, xs.length = zcn asp → sP L G pr xs η → ∀ ys η1, zrg (0 :: ys) (e.2.2.1.map (fun q => q.2)) → ys.length = zcn (e.2.2.1.map (fun q => q.2)) → zsI L G iv mods η e.2.1 ys η1 → ∀ o ∈ Dm, zden ro (zsC L G cs) (zsI L G iv mods η) (zsM iv) (zsQ L G [po1] mods xs η) (zsM iv e.2.1 ys η1) o.reverse (0 :: ys) η1) :
    zMet P K df ro X dep mid T asp mi.2.2.2.2.1 rq rtu1 (sP L G pr) (fun xs η y η' => sQ L G po1 mods xs η y η') :=
  zmet_alt (zmea_man hG hX hmt hmg hcs hrun hz0 hm0 hseg)
end ZQ
