/-! Contracts; calls. -/
section ZCA
variable {P : sm_P} {K : sm_K} {df : Nat → List Value} {ro : Nat → List Int32} {X : sm_X}
theorem ev_callz {d mid pc : Nat} {lv : sm_L} {st : List Value} {h h' : List sm_C} {c s n1 : Nat} {F : ev_F} {M : sm_M} {i : Instr} {len : Nat} {dt : List Nat} {v : Option Value} (hM : P mid = some M) (hk : K mid pc = some (i, len, dt)) (hi : sm_inv i = true) (hx : X (d + 1) i dt st h = none) {mid' : Nat} {M' : sm_M} {as r : List Value} (hcl : sm_cl P i dt st h = some (mid', M', as, r)) (hck : (r.map fun v => v.category).sum ≤ 8 ∧ (lg_sl as).length ≤ M'.2.2.1 ∧ M'.2.2.1 ≤ 45)
    (hrun : sx P K df ro X n1 d mid' 0 (lv_args 0 as) [] h 0 0 = some (v, h', 0, 0)) (hlen : h'.length = h.length) (hF : ev P K df ro X (d + 1) mid (pc + 3) lv (v.toList ++ r) h' c s F) : ev P K df ro X (d + 1) mid pc lv st h c s F := by
  obtain ⟨n2, v2, h2, c2, s2, g2, g3⟩ := hF
  obtain ⟨a1, a2, a3, a4⟩ := sm_inv_not (df := df) (ro := ro) (dt := dt) (pc := pc) (st := st) (h := h) (rt := M.2.2.2.1) (ml := M.2.2.1) (lv := lv) hi
  refine ⟨(n1 + n2) + 1, v2, h2, c2, s2, ?_, g3⟩
  rw [sx, hM]
  dsimp only
  rw [hk]
  dsimp only
  rw [a1, a2, a3, a4, hx, hcl]
  dsimp only
  rw [if_pos hck, sx_up hrun (Nat.le_add_right n1 n2)]
  dsimp only
  rw [if_pos (Or.inl hlen)]
  exact sx_up g2 (Nat.le_add_left n2 n1)
/-- how many numbers there are -/
def zcn : List ab_V → Nat
  | [] => 0
  | .inl q :: r => bif Nat.beq q.1 0 then zcn r else zcn r + 1
  | .inr (.inl _) :: r => zcn r + 1
  | _ :: r => zcn r
/-- a method's contract: depth, method, registers, what it is given (ints by the names 1, 2 ..), what it answers, references that must be known, references that it lays, before, behind -/
def zMet (P : sm_P) (K : sm_K) (df : Nat → List Value) (ro : Nat → List Int32) (X : sm_X) (dep mid : Nat) (T : zTm) (asp : List ab_V) (rk : Nat) (req rtu : zRt) (pre : List Int → zE → Prop) (post : List Int → zE → Int → zE → Prop) : Prop :=
  ∀ (α : Nat → Nat) (h : List sm_C) (η : zE) (ra : zRt) (d : Nat) (xs : List Int) (vs : List Value), dep ≤ d → zInj T α → zHp T α ra η h → (∀ q ∈ req, zrt ra q.1 q.2.1 = some q.2.2) → zS α (0 :: xs) asp vs → xs.length = zcn asp → pre xs η →
    ∃ (n : Nat) (v : Option Value) (h' : List sm_C) (y : Int) (η' : zE), sx P K df ro X n d mid 0 (lv_args 0 vs) [] h 0 0 = some (v, h', 0, 0) ∧ zHp T α (rtu ++ ra) η' h' ∧ zFr T α h h' ∧ zres rk y v ∧ post xs η y η'
/-- the same, with ways in which references may stand at its end -/
def zMea (P : sm_P) (K : sm_K) (df : Nat → List Value) (ro : Nat → List Int32) (X : sm_X) (dep mid : Nat) (T : zTm) (asp : List ab_V) (rk : Nat) (req : zRt) (rtu : List zRt) (fr : List (Nat × Nat)) (pre : List Int → zE → Prop) (post : Nat → List Int → zE → Int → zE → Prop) : Prop :=
  ∀ (α : Nat → Nat) (h : List sm_C) (η : zE) (ra : zRt) (d : Nat) (xs : List Int) (vs : List Value), dep ≤ d → zInj T α → zHp T α ra η h → (∀ q ∈ req, zrt ra q.1 q.2.1 = some q.2.2) → (∀ q ∈ fr, zrt ra q.1 q.2 = none) → zS α (0 :: xs) asp vs → xs.length = zcn asp → pre xs η →
    ∃ (n : Nat) (v : Option Value) (h' : List sm_C) (y : Int) (η' : zE) (j : Nat) (rt : zRt), sx P K df ro X n d mid 0 (lv_args 0 vs) [] h 0 0 = some (v, h', 0, 0) ∧ rtu[j]? = some rt ∧ zHp T α (rt ++ ra) η' h' ∧ zFr T α h h' ∧ zres rk y v ∧ post j xs η y η'
theorem zmet_alt {dep mid rk : Nat} {T : zTm} {asp : List ab_V} {req rtu : zRt} {pre : List Int → zE → Prop} {post : Nat → List Int → zE → Int → zE → Prop} (h : zMea P K df ro X dep mid T asp rk req [rtu] [] pre post) : zMet P K df ro X dep mid T asp rk req rtu pre (post 0) := by
  intro α h0 η ra d xs vs a1 a2 a3 a4 a5 a6 a7
  obtain ⟨n, v, h', y, η', j, rt, g1, g2, g3, g4, g5, g6⟩ := h α h0 η ra d xs vs a1 a2 a3 a4 (fun _ q => nomatch q) a5 a6 a7
  cases j with
  | zero =>
    cases g2
    exact ⟨n, v, h', y, η', g1, g3, g4, g5, g6⟩
  | succ j => cases g2
/-- a call's contract: method, number, depth, what it is given, what it answers, references known, references laid -/
abbrev zCd : Type := Nat × Nat × Nat × List ab_V × Nat × zRt × zRt
/-- the same of a call that is one step -/
def zSpc (X : sm_X) (dep mid : Nat) (T : zTm) (asp : List ab_V) (rk : Nat) (req rtu : zRt) (pre : List Int → zE → Prop) (post : List Int → zE → Int → zE → Prop) : Prop :=
  ∀ (α : Nat → Nat) (h : List sm_C) (η : zE) (ra : zRt) (d idx : Nat) (xs : List Int) (vs r : List Value), dep ≤ d → zInj T α → zHp T α ra η h → (∀ q ∈ req, zrt ra q.1 q.2.1 = some q.2.2) → zS α (0 :: xs) asp vs → xs.length = zcn asp → pre xs η → (r.map fun v => v.category).sum ≤ 8 →
    ∃ (v : Option Value) (h' : List sm_C) (y : Int) (η' : zE), X d (.invokestatic idx) [mid] (vs.reverse ++ r) h = some (v.toList ++ r, h', 0, 0) ∧ zHp T α (rtu ++ ra) η' h' ∧ zFr T α h h' ∧ zres rk y v ∧ post xs η y η'
def zCon (P : sm_P) (K : sm_K) (df : Nat → List Value) (ro : Nat → List Int32) (X : sm_X) (T : zTm) (C : zCt) (e : zCd) : Prop := bif Nat.ble e.1 899 then zMet P K df ro X e.2.2.1 e.1 T e.2.2.2.1 e.2.2.2.2.1 e.2.2.2.2.2.1 e.2.2.2.2.2.2 (C e.2.1).1 (C e.2.1).2 else zSpc X e.2.2.1 e.1 T e.2.2.2.1 e.2.2.2.2.1 e.2.2.2.2.2.1 e.2.2.2.2.2.2 (C e.2.1).1 (C e.2.1).2
noncomputable def zcl (i : Instr) (m : ab_M) (T : zTm) (sa : List ab_V) : Option (List ab_V × List ab_V) := match i with
  | .invokestatic _ => bif Nat.beq m.2.1 0 && Nat.ble m.1 sa.length then some ((sa.take m.1).reverse, sa.drop m.1) else none
  | .invokevirtual _ => (match sa.drop m.1 with
    | .inr (.inr (.inl b)) :: r => (match ab_get T b with
      | some c => bif Nat.beq m.2.1 1 && (Nat.beq c.1 m.2.2.1 && Nat.ble c.1 99) then some (.inr (.inr (.inl b)) :: (sa.take m.1).reverse, r) else none
      | none => none)
    | _ => none)
  | _ => none
theorem zcl_ok {α : Nat → Nat} {ra : zRt} {η : zE} {T : zTm} {i : Instr} {m : ab_M} {M : sm_M} {mid : Nat} {h : List sm_C} {ρ : List Int} {sa as r : List ab_V} {st : List Value} (hP : P mid = some M) (h1 : M.2.2.2.2.1 = m.1) (h2 : M.2.2.2.2.2.1 = m.2.1) (h3 : M.2.2.2.2.2.2 = m.2.2.1) (hs : zS α ρ sa st) (hh : zHp T α ra η h) (hq : zcl i m T sa = some (as, r)) : sm_inv i = true ∧ ∃ vs rv, sm_cl P i [mid] st h = some (mid, M, vs, rv) ∧ zS α ρ as vs ∧ zS α ρ r rv := by
  have hL := ab_all2_len hs
  cases i
  case invokestatic idx =>
    unfold zcl at hq
    dsimp only at hq
    obtain ⟨hb, he⟩ := ab_bif hq _ rfl
    cases he
    have hb := (Bool.and_eq_true _ _).mp hb
    refine ⟨rfl, (st.take M.2.2.2.2.1).reverse, st.drop M.2.2.2.2.1, ?_, by rw [h1]; exact ab_all2_rev (ab_all2_take _ hs), by rw [h1]; exact ab_all2_drop _ hs⟩
    unfold sm_cl
    dsimp only
    rw [hP]
    dsimp only
    rw [if_pos ⟨by rw [h2]; exact Nat.eq_of_beq_eq_true hb.1, by rw [h1, ← hL]; exact Nat.ble_eq.mp hb.2⟩]
  case invokevirtual idx =>
    unfold zcl at hq
    dsimp only at hq
    split at hq
    · next b r0 hd =>
      have hd2 := ab_all2_drop m.1 hs
      rw [hd] at hd2
      obtain ⟨v, rv, hdv, hv, hr⟩ := zS_cons hd2
      have hv : v = _ := hv
      subst hv
      split at hq
      · next q hqq =>
        obtain ⟨hb, he⟩ := ab_bif hq _ rfl
        cases he
        obtain ⟨b1, b2, b3⟩ := ab_and3 hb
        obtain ⟨c0, u1, u2⟩ := hh b q hqq
        refine ⟨rfl, .ref (α b) :: (st.take M.2.2.2.2.1).reverse, rv, ?_, ⟨rfl, by rw [h1]; exact ab_all2_rev (ab_all2_take _ hs)⟩, hr⟩
        unfold sm_cl
        dsimp only
        rw [hP]
        dsimp only
        rw [h1, hdv]
        dsimp only
        rw [u1]
        dsimp only
        rw [if_pos ⟨by rw [h2]; exact Nat.eq_of_beq_eq_true b1, by rw [h3, u2.1]; exact Nat.eq_of_beq_eq_true b2, by rw [u2.1]; have := Nat.ble_eq.mp b3; omega⟩]
      · cases hq
    · cases hq
  all_goals (exact absurd hq (by intro q; cases q))
end ZCA
/-- what is given, against what a contract is given: the numbers -/
def zmt : List ab_V → List ab_V → Nat → Option (List (Nat × Int))
  | [], [], _ => some []
  | .inl p :: r, .inl q :: s, j => bif Nat.beq p.1 0 then (bif Nat.beq q.1 0 && ab_ieq p.2 q.2 then zmt r s j else none) else bif Nat.beq p.1 (j + 1) then (match zmt r s (j + 1) with
    | some l => some (q :: l)
    | none => none) else none
  | .inr (.inl p) :: r, .inr (.inl q) :: s, j => bif Nat.beq p.1 (j + 1) then (match zmt r s (j + 1) with
    | some l => some (q :: l)
    | none => none) else none
  | .inr (.inr (.inl a)) :: r, .inr (.inr (.inl b)) :: s, j => bif Nat.beq a b then zmt r s j else none
  | _, _, _ => none
theorem zn_at {j : Nat} {o : Int} {pre l : List Int} {z : Int} (hj : pre.length = j) : zn (0 :: (pre ++ z :: l)) (j + 1, o) = z := by
  unfold zn
  rw [show Nat.beq (j + 1, o).1 0 = false from rfl]
  show (0 :: (pre ++ z :: l)).getD (j + 1) 0 = z
  rw [List.getD_cons_succ, List.getD_eq_getElem?_getD, List.getElem?_append_right (by omega), hj, Nat.sub_self]
  rfl
theorem zmt_ok {α : Nat → Nat} {ρ : List Int} : ∀ {asp as : List ab_V} {j : Nat} {l : List (Nat × Int)} {vs : List Value}, zmt asp as j = some l → zS α ρ as vs → ∀ pre : List Int, pre.length = j → zS α (0 :: (pre ++ l.map (zn ρ))) asp vs := by
  intro asp
  induction asp with
  | nil =>
    intro as j l vs h hs pre hp
    cases as with
    | nil =>
      cases vs with
      | nil => trivial
      | cons _ _ => exact hs.elim
    | cons _ _ => cases h
  | cons a r ih =>
    intro as j l vs h hs pre hp
    cases as with
    | nil => rcases a with p | p | p | p | p <;> cases h
    | cons b s =>
      obtain ⟨v, st, rfl, hv, hs2⟩ := zS_cons hs
      rcases a with p | p | p | p | p <;> rcases b with q | q | q | q | q <;> first | (cases h; done) | skip
      · unfold zmt at h
        cases h00 : Nat.beq p.1 0 with
        | true =>
          rw [h00] at h
          dsimp only [cond_true] at h
          cases hc : (Nat.beq q.1 0 && ab_ieq p.2 q.2) with
          | false => rw [hc] at h; cases h
          | true =>
            rw [hc] at h
            have g := (Bool.and_eq_true _ _).mp hc
            refine ⟨⟨?_, ?_, ?_⟩, ih h hs2 pre hp⟩
            · rw [Nat.eq_of_beq_eq_true h00, List.length_cons]; exact Nat.succ_pos _
            · have e1 : zn (0 :: (pre ++ l.map (zn ρ))) p = zn ρ q := by
                unfold zn
                rw [h00, g.1]
                exact ab_ieq_ok g.2
              rw [e1]; exact hv.2.1
            · have e1 : zn (0 :: (pre ++ l.map (zn ρ))) p = zn ρ q := by
                unfold zn
                rw [h00, g.1]
                exact ab_ieq_ok g.2
              rw [e1]; exact hv.2.2
        | false =>
        rw [h00] at h
        dsimp only [cond_false] at h
        cases hb : Nat.beq p.1 (j + 1) with
        | false => rw [hb] at h; cases h
        | true =>
          rw [hb] at h
          dsimp only [cond_true] at h
          split at h
          · next l2 hl2 =>
            cases h
            have e := Nat.eq_of_beq_eq_true hb
            have h1 := ih hl2 hs2 (pre ++ [zn ρ q]) (by rw [List.length_append]; simp [hp])
            rw [List.append_assoc] at h1
            obtain ⟨p1, p2⟩ := p
            dsimp only at e
            subst e
            refine ⟨⟨by rw [List.length_cons, List.length_append, List.map_cons, List.length_cons]; dsimp only; omega, ?_, ?_⟩, h1⟩
            · rw [List.map_cons, zn_at hp]; exact hv.2.1
            · rw [List.map_cons, zn_at hp]; exact hv.2.2
          · cases h
      · unfold zmt at h
        cases hb : Nat.beq p.1 (j + 1) with
        | false => rw [hb] at h; cases h
        | true =>
          rw [hb] at h
          dsimp only [cond_true] at h
          split at h
          · next l2 hl2 =>
            cases h
            have e := Nat.eq_of_beq_eq_true hb
            have h1 := ih hl2 hs2 (pre ++ [zn ρ q]) (by rw [List.length_append]; simp [hp])
            rw [List.append_assoc] at h1
            obtain ⟨p1, p2⟩ := p
            dsimp only at e
            subst e
            refine ⟨⟨by rw [List.length_cons, List.length_append, List.map_cons, List.length_cons]; dsimp only; omega, ?_, ?_⟩, h1⟩
            · rw [List.map_cons, zn_at hp]; exact hv.2.1
            · rw [List.map_cons, zn_at hp]; exact hv.2.2
          · cases h
      · unfold zmt at h
        cases hb : Nat.beq p q with
        | false => rw [hb] at h; cases h
        | true =>
          rw [hb] at h
          have e := Nat.eq_of_beq_eq_true hb
          subst e
          exact ⟨hv, ih h hs2 pre hp⟩
theorem zmt_len : ∀ {asp as : List ab_V} {j : Nat} {l : List (Nat × Int)}, zmt asp as j = some l → l.length = zcn asp := by
  intro asp
  induction asp with
  | nil =>
    intro as j l h
    cases as with
    | nil => cases h; rfl
    | cons _ _ => cases h
  | cons a r ih =>
    intro as j l h
    cases as with
    | nil => rcases a with p | p | p | p | p <;> cases h
    | cons b s =>
      rcases a with p | p | p | p | p <;> rcases b with q | q | q | q | q <;> first | (cases h; done) | skip
      · unfold zmt at h
        cases h00 : Nat.beq p.1 0 with
        | true =>
          rw [h00] at h
          dsimp only [cond_true] at h
          cases hc : (Nat.beq q.1 0 && ab_ieq p.2 q.2) with
          | false => rw [hc] at h; cases h
          | true =>
            rw [hc] at h
            rw [ih h]
            show _ = (bif Nat.beq p.1 0 then zcn r else zcn r + 1)
            rw [h00]
            rfl
        | false =>
        rw [h00] at h
        dsimp only [cond_false] at h
        cases hb : Nat.beq p.1 (j + 1) with
        | false => rw [hb] at h; cases h
        | true =>
          rw [hb] at h
          dsimp only [cond_true] at h
          split at h
          · next l2 hl2 =>
            cases h
            rw [List.length_cons, ih hl2]
            show _ = (bif Nat.beq p.1 0 then zcn r else zcn r + 1)
            rw [h00]
            rfl
          · cases h
      · unfold zmt at h
        cases hb : Nat.beq p.1 (j + 1) with
        | false => rw [hb] at h; cases h
        | true =>
          rw [hb] at h
          dsimp only [cond_true] at h
          split at h
          · next l2 hl2 =>
            cases h
            rw [List.length_cons, ih hl2]
            rfl
          · cases h
      · unfold zmt at h
        cases hb : Nat.beq p q with
        | false => rw [hb] at h; cases h
        | true =>
          rw [hb] at h
          exact ih h
/-- the locals at a cut -/
def zht : ab_L → ab_L → Nat → Option (List (Nat × Int))
  | [], _, _ => some []
  | (k, a) :: r, la, j => match a, ab_lk la k with
    | .inl p, some (.inl q) => bif Nat.beq p.1 (j + 1) then (match zht r la (j + 1) with
      | some l => some (q :: l)
      | none => none) else none
    | .inr (.inl p), some (.inr (.inl q)) => bif Nat.beq p.1 (j + 1) then (match zht r la (j + 1) with
      | some l => some (q :: l)
      | none => none) else none
    | .inr (.inr (.inl a)), some (.inr (.inr (.inl b))) => bif Nat.beq a b then zht r la j else none
    | _, _ => none
theorem zht_ok {α : Nat → Nat} {ρ : List Int} {la : ab_L} {lv : sm_L} (hl : zL α ρ la lv) : ∀ {spec : ab_L} {j : Nat} {l : List (Nat × Int)}, zht spec la j = some l → ∀ pre : List Int, pre.length = j → zL α (0 :: (pre ++ l.map (zn ρ))) spec lv := by
  intro spec
  induction spec with
  | nil => intro j l _ pre _ q hq; cases hq
  | cons a r ih =>
    intro j l h pre hp
    obtain ⟨k, a⟩ := a
    unfold zht at h
    split at h
    · next p q hq =>
      cases hb : Nat.beq p.1 (j + 1) with
      | false => rw [hb] at h; cases h
      | true =>
        rw [hb] at h
        dsimp only [cond_true] at h
        split at h
        · next l2 hl2 =>
          cases h
          have e := Nat.eq_of_beq_eq_true hb
          have h1 := ih hl2 (pre ++ [zn ρ q]) (by rw [List.length_append]; simp [hp])
          rw [List.append_assoc] at h1
          obtain ⟨p1, p2⟩ := p
          dsimp only at e
          subst e
          intro w hw
          rcases List.mem_cons.mp hw with rfl | hw
          · obtain ⟨v, g1, g2⟩ := zL_lk hl hq
            refine ⟨v, g1, by rw [List.length_cons, List.length_append, List.map_cons, List.length_cons]; dsimp only; omega, ?_, ?_⟩
            · rw [List.map_cons, zn_at hp]; exact g2.2.1
            · rw [List.map_cons, zn_at hp]; exact g2.2.2
          · exact h1 w hw
        · cases h
    · next p q hq =>
      cases hb : Nat.beq p.1 (j + 1) with
      | false => rw [hb] at h; cases h
      | true =>
        rw [hb] at h
        dsimp only [cond_true] at h
        split at h
        · next l2 hl2 =>
          cases h
          have e := Nat.eq_of_beq_eq_true hb
          have h1 := ih hl2 (pre ++ [zn ρ q]) (by rw [List.length_append]; simp [hp])
          rw [List.append_assoc] at h1
          obtain ⟨p1, p2⟩ := p
          dsimp only at e
          subst e
          intro w hw
          rcases List.mem_cons.mp hw with rfl | hw
          · obtain ⟨v, g1, g2⟩ := zL_lk hl hq
            refine ⟨v, g1, by rw [List.length_cons, List.length_append, List.map_cons, List.length_cons]; dsimp only; omega, ?_, ?_⟩
            · rw [List.map_cons, zn_at hp]; exact g2.2.1
            · rw [List.map_cons, zn_at hp]; exact g2.2.2
          · exact h1 w hw
        · cases h
    · next a b hq =>
      cases hb : Nat.beq a b with
      | false => rw [hb] at h; cases h
      | true =>
        rw [hb] at h
        have e := Nat.eq_of_beq_eq_true hb
        subst e
        intro w hw
        rcases List.mem_cons.mp hw with rfl | hw
        · obtain ⟨v, g1, g2⟩ := zL_lk hl hq
          exact ⟨v, g1, g2⟩
        · exact ih h pre hp w hw
    · cases h
theorem zht_len {la : ab_L} : ∀ {spec : ab_L} {j : Nat} {l : List (Nat × Int)}, zht spec la j = some l → l.length = zcn (spec.map (fun q => q.2)) := by
  intro spec
  induction spec with
  | nil => intro j l h; cases h; rfl
  | cons a r ih =>
    intro j l h
    obtain ⟨k, a⟩ := a
    unfold zht at h
    split at h
    · next p q hq =>
      cases hb : Nat.beq p.1 (j + 1) with
      | false => rw [hb] at h; cases h
      | true =>
        rw [hb] at h
        dsimp only [cond_true] at h
        split at h
        · next l2 hl2 =>
          cases h
          rw [List.length_cons, ih hl2]
          show _ = (bif Nat.beq p.1 0 then _ else _)
          rw [Nat.eq_of_beq_eq_true hb]
          rfl
        · cases h
    · next p q hq =>
      cases hb : Nat.beq p.1 (j + 1) with
      | false => rw [hb] at h; cases h
      | true =>
        rw [hb] at h
        dsimp only [cond_true] at h
        split at h
        · next l2 hl2 =>
          cases h
          rw [List.length_cons, ih hl2]
          rfl
        · cases h
    · next a b hq =>
      cases hb : Nat.beq a b with
      | false => rw [hb] at h; cases h
      | true =>
        rw [hb] at h
        exact ih h
    · cases h
