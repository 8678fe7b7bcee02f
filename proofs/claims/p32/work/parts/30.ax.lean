/-! Calls that are taken as one step: the small machine's, and over what is known. -/
def sm_c8 (r : List Value) : Bool := decide ((r.map fun v => v.category).sum ≤ 8)
/-- Object's maker, a whole row copied, a sign of the text, the law's groove where there are no grooves -/
abbrev sm_Rx : Type := Option (List Value × List sm_C × Nat × Nat)
def sm_x0 (d : Nat) (st : List Value) (h : List sm_C) : sm_Rx := match st with
  | .ref _ :: r => if 1 ≤ d ∧ sm_c8 r = true then some (r, h, 0, 0) else none
  | _ => none
def sm_x1 (d : Nat) (st : List Value) (h : List sm_C) : sm_Rx := match st with
  | .int n :: .int dp :: .ref a :: .int sp :: .ref b :: r => match h[b]?, h[a]? with
    | some p, some q => if 1 ≤ d ∧ sm_c8 r = true ∧ p.1 = 100 ∧ q.1 = 100 ∧ sp = 0 ∧ dp = 0 ∧ p.2.length = q.2.length ∧ ¬ n < 0 ∧ n.toNatClampNeg = q.2.length then some (r, h.set a (100, p.2), 0, 0) else none
    | _, _ => none
  | _ => none
def sm_x2 (d : Nat) (st : List Value) (h : List sm_C) : sm_Rx := match st with
  | .int j :: .retAddr z :: r => if 8 ≤ d ∧ sm_c8 r = true ∧ z = 0 ∧ ¬ (j < 0 ∨ 120 ≤ j.toNatClampNeg) then some (.int (sm_tx j.toNatClampNeg) :: r, h, 0, 0) else none
  | _ => none
/-- are there no grooves -/
def sm_g0 (x : Nat) (h : List sm_C) : Bool := match h[x]? with
  | some (q : sm_C) => match (q.2 : List Value)[4]? with
    | some (Value.ref y) => match h[y]? with
      | some (p : sm_C) => decide (q.1 = 7 ∧ p.1 = 4 ∧ (p.2 : List Value)[1]? = some (Value.int 0))
      | none => false
    | _ => false
  | none => false
/-- a field of an object of a kind -/
def sm_fd (h : List sm_C) (a ci k : Nat) : Option Value := match h[a]? with
  | some (q : sm_C) => if q.1 = ci then (q.2 : List Value)[k]? else none
  | none => none
/-- the row that the class's groove reads -/
def sm_gw (h : List sm_C) (y z : Nat) (w : Int32) : Option Value := if w = 0 then sm_fd h y 4 8 else if w = 1 then sm_fd h y 4 9 else if w = 2 then sm_fd h z 1 8 else sm_fd h y 4 10
/-- the law's groove -/
def sm_x3g (gc gs d o : Nat) (w g : Int32) (x : Nat) (r : List Value) (h : List sm_C) : sm_Rx := match sm_fd h x 7 4, sm_fd h x 7 7 with
  | some (Value.ref y), some (Value.ref z) => (match sm_fd h y 4 1 with
    | some (Value.int n) => if 16 ≤ d ∧ sm_c8 r = true then (if g < 0 ∨ n ≤ g then some (.int 1 :: r, h, gc, gs) else if w < 0 ∨ 3 < w then some (.int 2 :: r, h, gc, gs) else (match sm_gw h y z w with
      | some (Value.ref q) => (match h[q]?, h[o]? with
        | some v, some u => if v.1 = 100 ∧ u.1 = 103 ∧ g.toNatClampNeg < v.2.length ∧ 0 < u.2.length then some (.int 0 :: r, h.set o (103, u.2.set 0 (.long (sm_ival (v.2.getD g.toNatClampNeg .null)).toInt64)), 0, 0) else none
        | _, _ => none)
      | _ => none)) else none
    | _ => none)
  | _, _ => none
def sm_x3 (gc gs d : Nat) (st : List Value) (h : List sm_C) : sm_Rx := match st with
  | .ref o :: .int w :: .int g :: .ref x :: r => if 16 ≤ d ∧ sm_c8 r = true ∧ sm_g0 x h = true then some (.int 1 :: r, h, gc, gs) else sm_x3g gc gs d o w g x r h
  | _ => none
/-- a row moved down by one place -/
def sm_sh (vs : List Value) : List Value := vs.drop 1 ++ vs.drop (vs.length - 1)
def sm_x4 (d : Nat) (st : List Value) (h : List sm_C) : sm_Rx := match st with
  | .int n :: .int dp :: .ref a :: .int sp :: .ref b :: r => match h[a]? with
    | some q => if 1 ≤ d ∧ sm_c8 r = true ∧ a = b ∧ q.1 = 100 ∧ sp = 1 ∧ dp = 0 ∧ ¬ n < 0 ∧ n.toNatClampNeg + 1 = q.2.length then some (r, h.set a (100, sm_sh q.2), 0, 0) else none
    | none => none
  | _ => none
def sm_X0 (gc gs : Nat) : sm_X := fun d i dt st h => match dt with
  | [k] => match i with
    | .invokespecial _ => if k = 900 then sm_x0 d st h else none
    | .invokestatic _ => if k = 901 then sm_x1 d st h else if k = 903 then sm_x3 gc gs d st h else if k = 904 then sm_x4 d st h else none
    | .invokevirtual _ => if k = 902 then sm_x2 d st h else none
    | _ => none
  | _ => none
theorem sm_X0_inv {gc gs d : Nat} {i : Instr} {dt : List Nat} {st : List Value} {h : List sm_C} {q : List Value × List sm_C × Nat × Nat} (hq : sm_X0 gc gs d i dt st h = some q) : sm_inv i = true := by
  unfold sm_X0 at hq
  split at hq
  · split at hq <;> first | rfl | cases hq
  · cases hq
theorem sm_X0_low {gc gs d mid : Nat} {i : Instr} {st : List Value} {h : List sm_C} (hm : mid < 900) : sm_X0 gc gs d i [mid] st h = none := by
  unfold sm_X0
  dsimp only
  split
  · rw [if_neg (by omega)]
  · rw [if_neg (by omega), if_neg (by omega), if_neg (by omega)]
  · rw [if_neg (by omega)]
  · rfl
def ab_c8 (r : List ab_V) : Bool := Nat.ble ((r.map fun a => bif ab_is2 a then 2 else 1).sum) 8
theorem ab_cats {ρ : List Int} : ∀ {sa : List ab_V} {st : List Value}, ab_sR ρ sa st → (st.map fun v => v.category) = sa.map fun a => bif ab_is2 a then 2 else 1
  | [], [], _ => rfl
  | [], _ :: _, q => q.elim
  | _ :: _, [], q => q.elim
  | a :: sa, v :: st, q => by
    rw [List.map_cons, List.map_cons, ab_cats q.2]
    congr 1
    cases hb : ab_is2 a with
    | true => exact ab_R_cat2 q.1 hb
    | false => exact ab_R_cat1 q.1 hb
theorem ab_c8_ok {ρ : List Int} {sa : List ab_V} {st : List Value} (hs : ab_sR ρ sa st) (h : ab_c8 sa = true) : (st.map fun v => v.category).sum ≤ 8 := by
  rw [ab_cats hs]
  exact Nat.ble_eq.mp h
abbrev ab_Tx : Type := Option (List ab_V × List (Nat × ab_C) × Nat × Nat)
noncomputable def ab_x0 (d : Nat) (sa : List ab_V) : ab_Tx := match sa with
  | .inr (.inr (.inl _)) :: r => bif Nat.ble 1 d && ab_c8 r then some (r, [], 0, 0) else none
  | _ => none
noncomputable def ab_x1 (d : Nat) (t : ab_H) (hn : Nat) (sa : List ab_V) : ab_Tx := match sa with
  | .inl n :: .inl dp :: .inr (.inr (.inl a)) :: .inl sp :: .inr (.inr (.inl b)) :: r => match ab_get t b, ab_get t a with
    | some p, some q => bif Nat.ble 1 d && (ab_c8 r && (Nat.ble (a + 1) hn && (Nat.ble (b + 1) hn && (Nat.beq p.1 100 && (Nat.beq q.1 100 && (Nat.beq sp.1 0 && (ab_ile 0 sp.2 && (ab_ile sp.2 0 && (Nat.beq dp.1 0 && (ab_ile 0 dp.2 && (ab_ile dp.2 0 && (Nat.beq p.2.1 q.2.1 && (Nat.ble q.2.1 1000 && (Nat.beq n.1 0 && (ab_ile 0 n.2 && Nat.beq n.2.toNat q.2.1))))))))))))))) then some (r, [(a, p)], 0, 0) else none
    | _, _ => none
  | _ => none
noncomputable def ab_x2 (d : Nat) (sa : List ab_V) : ab_Tx := match sa with
  | .inl j :: .inr (.inr (.inr (.inl z))) :: r => bif Nat.ble 8 d && (ab_c8 r && (Nat.beq j.1 0 && (ab_ile 0 j.2 && (ab_ile j.2 119 && Nat.beq z 0)))) then some (.inl (0, (sm_tx j.2.toNat).toInt) :: r, [], 0, 0) else none
  | _ => none
noncomputable def ab_x3 (gc gs d : Nat) (t : ab_H) (hn : Nat) (sa : List ab_V) : ab_Tx := match sa with
  | .inr (.inr (.inl _)) :: .inl _ :: .inl _ :: .inr (.inr (.inl x)) :: r => match ab_get t x with
    | some (qk, ql, .inl qt) => match ab_get qt 4 with
      | some (.inr (.inr (.inl y))) => match ab_get t y with
        | some (pk, pl, .inl pt) => match ab_get pt 1 with
          | some (.inl z) => bif Nat.ble 16 d && (ab_c8 r && (Nat.ble (x + 1) hn && (Nat.ble (y + 1) hn && (Nat.ble 5 ql && (Nat.ble 2 pl && (Nat.beq z.1 0 && (ab_ile 0 z.2 && (ab_ile z.2 0 && (Nat.beq qk 7 && Nat.beq pk 4))))))))) then some (.inl (0, 1) :: r, [], gc, gs) else none
          | _ => none
        | _ => none
      | _ => none
    | _ => none
  | _ => none
noncomputable def ab_X0 (gc gs d : Nat) (i : Instr) (dt : List Nat) (t : ab_H) (hn : Nat) (sa : List ab_V) : ab_Tx := match dt with
  | [k] => match i with
    | .invokespecial _ => bif Nat.beq k 900 then ab_x0 d sa else none
    | .invokestatic _ => bif Nat.beq k 901 then ab_x1 d t hn sa else bif Nat.beq k 903 then ab_x3 gc gs d t hn sa else none
    | .invokevirtual _ => bif Nat.beq k 902 then ab_x2 d sa else none
    | _ => none
  | _ => none
/-- cells put in place -/
noncomputable def ab_wr (t : ab_H) (ws : List (Nat × ab_C)) : ab_H := match ws with
  | [] => t
  | (a, c) :: _ => ab_set t a c
noncomputable def ab_wrK (t : ab_H) (ws : List (Nat × ab_C)) (k : ab_H → Bool) : Bool := match ws with
  | [] => k t
  | (a, c) :: _ => ab_setK t a c k
theorem ab_wrK_eq (t : ab_H) (ws : List (Nat × ab_C)) (k : ab_H → Bool) : ab_wrK t ws k = k (ab_wr t ws) := by
  unfold ab_wrK ab_wr
  split
  · rfl
  · rw [ab_setK_eq]
section ABX
variable {ρ : List Int} {E : ab_E} {hn d dc ds gc gs : Nat} {sa sa' : List ab_V} {st : List Value} {t : ab_H} {h : List sm_C} {dt : List Nat} {ws : List (Nat × ab_C)}
theorem ab_i0 {p : Nat × Int} (ho : ab_ok ρ E) (h0 : p.1 = 0) (h1 : 0 ≤ p.2) (h2 : p.2 ≤ 0) : Int32.ofInt (ρ.getD p.1 0 + p.2) = 0 := by
  rw [h0, ho.2.1, show (0 : Int) + p.2 = 0 by omega]
  rfl
theorem ab_bif {α : Type} {b : Bool} {x : α} {y : Option α} (h : (bif b then some x else none) = y) : ∀ z, y = some z → b = true ∧ x = z := by
  intro z hz
  subst hz
  cases b with
  | false => cases h
  | true => exact ⟨rfl, Option.some.inj h⟩
theorem ab_x0_ok (hs : ab_sR ρ sa st) (hq : ab_x0 d sa = some (sa', ws, dc, ds)) : ∃ st', sm_x0 d st h = some (st', h, dc, ds) ∧ ab_sR ρ sa' st' ∧ ws = [] := by
  unfold ab_x0 at hq
  split at hq
  · next a r =>
    obtain ⟨v, s1, rfl, h1, hs1⟩ := ab_s_cons hs
    obtain rfl := h1
    obtain ⟨hb, he⟩ := ab_bif hq _ rfl
    cases he
    have hb := (Bool.and_eq_true _ _).mp hb
    exact ⟨s1, if_pos ⟨Nat.ble_eq.mp hb.1, decide_eq_true (ab_c8_ok hs1 hb.2)⟩, hs1, rfl⟩
  · cases hq
theorem ab_x1_ok (ho : ab_ok ρ E) (hs : ab_sR ρ sa st) (hh : ab_hR ρ t hn h) (hq : ab_x1 d t hn sa = some (sa', ws, dc, ds)) : ∃ st' h', sm_x1 d st h = some (st', h', dc, ds) ∧ ab_sR ρ sa' st' ∧ ab_hR ρ (ab_wr t ws) hn h' := by
  unfold ab_x1 at hq
  split at hq
  · next n dp a sp b r =>
    obtain ⟨v1, s1, rfl, h1, hs1⟩ := ab_s_cons hs
    obtain ⟨v2, s2, rfl, h2, hs2⟩ := ab_s_cons hs1
    obtain ⟨v3, s3, rfl, h3, hs3⟩ := ab_s_cons hs2
    obtain ⟨v4, s4, rfl, h4, hs4⟩ := ab_s_cons hs3
    obtain ⟨v5, s5, rfl, h5, hs5⟩ := ab_s_cons hs4
    obtain ⟨_, rfl⟩ := h1
    obtain ⟨_, rfl⟩ := h2
    obtain rfl := h3
    obtain ⟨_, rfl⟩ := h4
    obtain rfl := h5
    split at hq
    · next p q hp hqq =>
      obtain ⟨hb, he⟩ := ab_bif hq _ rfl
      cases he
      simp only [Bool.and_eq_true] at hb
      obtain ⟨b1, b2, b3, b4, b5, b6, b7, b8, b9, c1, c2, c3, c4, c5, c6, c7, c8⟩ := hb
      obtain ⟨pk, pl, pc0⟩ := p
      obtain ⟨qk, ql, qc0⟩ := q
      dsimp only at b5 b6 c4 c5 c8
      obtain rfl := Nat.eq_of_beq_eq_true b5
      obtain rfl := Nat.eq_of_beq_eq_true b6
      obtain rfl := Nat.eq_of_beq_eq_true c4
      obtain ⟨us, u1, u2, u3⟩ := ab_cell hh hp b4
      obtain ⟨vs, w1, w2, w3⟩ := ab_cell hh hqq b3
      have n0 := Nat.eq_of_beq_eq_true c6
      have n1 := ab_ile_iff.mp c7
      have n2 := Nat.eq_of_beq_eq_true c8
      have n3 := Nat.ble_eq.mp c5
      have f := ab_toInt (x := n.2) (by omega) (by omega)
      have g : (Int32.ofInt n.2).toNatClampNeg = n.2.toNat := by
        unfold Int32.toNatClampNeg
        rw [f]
      have k1 : ¬ Int32.ofInt n.2 < 0 := fun q => by
        rw [Int32.lt_iff_toInt_lt, f] at q
        have : (0 : Int32).toInt = 0 := rfl
        omega
      refine ⟨s5, h.set a (100, us), ?_, hs5, ab_hset hh hqq ⟨rfl, u2, u3⟩⟩
      unfold sm_x1
      dsimp only
      rw [u1, w1]
      dsimp only
      rw [n0, ho.2.1, Int.zero_add, if_pos ⟨Nat.ble_eq.mp b1, decide_eq_true (ab_c8_ok hs5 b2), rfl, rfl, ab_i0 ho (Nat.eq_of_beq_eq_true b7) (ab_ile_iff.mp b8) (ab_ile_iff.mp b9), ab_i0 ho (Nat.eq_of_beq_eq_true c1) (ab_ile_iff.mp c2) (ab_ile_iff.mp c3), by omega, k1, by rw [g]; omega⟩]
    · cases hq
  · cases hq
theorem ab_x2_ok (ho : ab_ok ρ E) (hs : ab_sR ρ sa st) (hq : ab_x2 d sa = some (sa', ws, dc, ds)) : ∃ st', sm_x2 d st h = some (st', h, dc, ds) ∧ ab_sR ρ sa' st' ∧ ws = [] := by
  unfold ab_x2 at hq
  split at hq
  · next j z r =>
    obtain ⟨v1, s1, rfl, h1, hs1⟩ := ab_s_cons hs
    obtain ⟨v2, s2, rfl, h2, hs2⟩ := ab_s_cons hs1
    obtain ⟨_, rfl⟩ := h1
    obtain rfl := h2
    obtain ⟨hb, he⟩ := ab_bif hq _ rfl
    cases he
    simp only [Bool.and_eq_true] at hb
    obtain ⟨b1, b2, b3, b4, b5, b6⟩ := hb
    have e0 := Nat.eq_of_beq_eq_true b3
    have e1 := ab_ile_iff.mp b4
    have e2 := ab_ile_iff.mp b5
    have f := ab_toInt (x := j.2) (by omega) (by omega)
    have g : (Int32.ofInt j.2).toNatClampNeg = j.2.toNat := by
      unfold Int32.toNatClampNeg
      rw [f]
    have k1 : ¬ (Int32.ofInt j.2 < 0 ∨ 120 ≤ (Int32.ofInt j.2).toNatClampNeg) := by
      rw [g]
      rintro (q | q)
      · rw [Int32.lt_iff_toInt_lt, f] at q
        have : (0 : Int32).toInt = 0 := rfl
        omega
      · omega
    refine ⟨.int (sm_tx j.2.toNat) :: s2, ?_, ⟨⟨ho.1, ?_⟩, hs2⟩, rfl⟩
    · unfold sm_x2
      dsimp only
      rw [e0, ho.2.1, Int.zero_add, if_pos ⟨Nat.ble_eq.mp b1, decide_eq_true (ab_c8_ok hs2 b2), Nat.eq_of_beq_eq_true b6, k1⟩, g]
    · rw [ho.2.1]
      dsimp only
      rw [Int.zero_add, Int32.ofInt_toInt]
  · cases hq
theorem ab_x3_ok (ho : ab_ok ρ E) (hs : ab_sR ρ sa st) (hh : ab_hR ρ t hn h) (hq : ab_x3 gc gs d t hn sa = some (sa', ws, dc, ds)) : ∃ st', sm_x3 gc gs d st h = some (st', h, dc, ds) ∧ ab_sR ρ sa' st' ∧ ws = [] := by
  unfold ab_x3 at hq
  split at hq
  · next o p1 p0 x r =>
    obtain ⟨v1, s1, rfl, h1, hs1⟩ := ab_s_cons hs
    obtain ⟨v2, s2, rfl, h2, hs2⟩ := ab_s_cons hs1
    obtain ⟨v3, s3, rfl, h3, hs3⟩ := ab_s_cons hs2
    obtain ⟨v4, s4, rfl, h4, hs4⟩ := ab_s_cons hs3
    obtain rfl := h1
    obtain ⟨_, rfl⟩ := h2
    obtain ⟨_, rfl⟩ := h3
    obtain rfl := h4
    split at hq
    · next qk ql qt hx =>
      split at hq
      · next y hy =>
        split at hq
        · next pk pl pt hp =>
          split at hq
          · next z hz =>
            obtain ⟨hb, he⟩ := ab_bif hq _ rfl
            cases he
            simp only [Bool.and_eq_true] at hb
            obtain ⟨b1, b2, b3, b4, b5, b6, b7, b8, b9, c1, c2⟩ := hb
            obtain rfl := Nat.eq_of_beq_eq_true c1
            obtain rfl := Nat.eq_of_beq_eq_true c2
            obtain ⟨us, u1, u2, u3⟩ := ab_cell hh hx b3
            obtain ⟨vs, w1, w2, w3⟩ := ab_cell hh hp b4
            have l1 := Nat.ble_eq.mp b5
            have l2 := Nat.ble_eq.mp b6
            obtain ⟨e1, e2, e3⟩ := u3 4 (by omega)
            rw [hy] at e2
            cases e2
            have e3 : us.getD 4 Value.null = Value.ref y := e3
            obtain ⟨f1, f2, f3⟩ := w3 1 (by omega)
            rw [hz] at f2
            cases f2
            obtain ⟨_, f3⟩ := f3
            rw [ab_i0 ho (Nat.eq_of_beq_eq_true b7) (ab_ile_iff.mp b8) (ab_ile_iff.mp b9)] at f3
            have e4 : us[4]? = some (Value.ref y) := by
              rw [List.getD_eq_getElem?_getD, List.getElem?_eq_getElem (by omega : 4 < us.length)] at e3
              rw [List.getElem?_eq_getElem (by omega : 4 < us.length)]
              exact congrArg some e3
            have f4 : vs[1]? = some (Value.int 0) := by
              rw [List.getD_eq_getElem?_getD, List.getElem?_eq_getElem (by omega : 1 < vs.length)] at f3
              rw [List.getElem?_eq_getElem (by omega : 1 < vs.length)]
              exact congrArg some f3
            have k1 : sm_g0 x h = true := by
              unfold sm_g0
              rw [u1]
              dsimp only
              rw [e4]
              dsimp only
              rw [w1]
              exact decide_eq_true ⟨rfl, rfl, f4⟩
            exact ⟨.int 1 :: s4, if_pos ⟨Nat.ble_eq.mp b1, decide_eq_true (ab_c8_ok hs4 b2), k1⟩, ⟨⟨ho.1, by rw [ho.2.1]; rfl⟩, hs4⟩, rfl⟩
          · cases hq
        · cases hq
      · cases hq
    · cases hq
  · cases hq
theorem ab_X0_ok {i : Instr} (ho : ab_ok ρ E) (hs : ab_sR ρ sa st) (hh : ab_hR ρ t hn h) (hq : ab_X0 gc gs d i dt t hn sa = some (sa', ws, dc, ds)) : ∃ st' h', sm_X0 gc gs d i dt st h = some (st', h', dc, ds) ∧ ab_sR ρ sa' st' ∧ ab_hR ρ (ab_wr t ws) hn h' := by
  unfold ab_X0 at hq
  split at hq
  · next k =>
    split at hq
    · next idx =>
      cases hb : Nat.beq k 900 with
      | false => rw [hb] at hq; cases hq
      | true =>
        rw [hb] at hq
        obtain ⟨st', h1, h2, rfl⟩ := ab_x0_ok (h := h) hs hq
        exact ⟨st', h, (if_pos (Nat.eq_of_beq_eq_true hb)).trans h1, h2, hh⟩
    · next idx =>
      cases hb : Nat.beq k 901 with
      | true =>
        rw [hb] at hq
        obtain ⟨st', h', h1, h2, h3⟩ := ab_x1_ok ho hs hh hq
        exact ⟨st', h', (if_pos (Nat.eq_of_beq_eq_true hb)).trans h1, h2, h3⟩
      | false =>
        rw [hb] at hq
        dsimp only [cond_false] at hq
        cases hb2 : Nat.beq k 903 with
        | false => rw [hb2] at hq; cases hq
        | true =>
          rw [hb2] at hq
          have e := Nat.eq_of_beq_eq_true hb2
          obtain ⟨st', h1, h2, rfl⟩ := ab_x3_ok ho hs hh hq
          exact ⟨st', h, (if_neg (by omega)).trans ((if_pos e).trans h1), h2, hh⟩
    · next idx =>
      cases hb : Nat.beq k 902 with
      | false => rw [hb] at hq; cases hq
      | true =>
        rw [hb] at hq
        obtain ⟨st', h1, h2, rfl⟩ := ab_x2_ok (h := h) ho hs hq
        exact ⟨st', h, (if_pos (Nat.eq_of_beq_eq_true hb)).trans h1, h2, hh⟩
    · cases hq
  · cases hq
end ABX
