/-! Cells made, over what is known. -/
def ab_bv (n : Nat) (a : ab_V) : Bool := match a with
  | .inr (.inr (.inl k)) => Nat.ble (k + 1) n
  | _ => true
def ab_bs (n : Nat) (sa : List ab_V) : Bool := sa.all (ab_bv n)
def ab_bl (n : Nat) (la : ab_L) : Bool := la.all (fun q => ab_bv n q.2)
noncomputable def ab_allT {α : Type} (f : Nat × α → Bool) (t : Lean.RArray (Nat × α)) : Bool := Lean.RArray.rec (motive := fun _ => Bool) (fun x => f x) (fun _ _ _ l r => Bool.rec (motive := fun _ => Bool) false r l) t
theorem ab_allT_ok {α : Type} {f : Nat × α → Bool} {t : Lean.RArray (Nat × α)} (h : ab_allT f t = true) {k : Nat} {a : α} (hk : ab_get t k = some a) : f (k, a) = true := by
  induction t with
  | leaf x =>
    rw [ab_get_leaf] at hk
    split at hk
    · next he =>
      cases hk
      subst he
      exact h
    · cases hk
  | branch p l r ihl ihr =>
    have h1 : Bool.rec (motive := fun _ => Bool) false (ab_allT f r) (ab_allT f l) = true := h
    rw [ab_get_branch] at hk
    cases hl : ab_allT f l with
    | false => rw [hl] at h1; cases h1
    | true =>
      rw [hl] at h1
      split at hk
      · exact ihr h1 hk
      · exact ihl hl hk
noncomputable def ab_bc (hn : Nat) (q : Nat × ab_C) : Bool := bif Nat.ble hn q.1 then true else bif Nat.ble 100 q.2.1 && Nat.ble q.2.1 103 then true else match q.2.2.2 with
  | .inl ft => ab_allT (fun z => bif Nat.ble q.2.2.1 z.1 then true else ab_bv hn z.2) ft
  | .inr _ => true
theorem ab_bv_ok {ρ : List Int} {n : Nat} {a : ab_V} {v : Value} (hv : ab_R ρ a v) (h : ab_bv n a = true) : sm_bv n v = true := by
  unfold ab_R at hv
  split at hv
  · obtain ⟨_, rfl⟩ := hv; rfl
  · obtain ⟨_, rfl⟩ := hv; rfl
  · subst hv
    exact decide_eq_true (Nat.ble_eq.mp h)
  · subst hv; rfl
  · subst hv; rfl
theorem ab_bs_ok {ρ : List Int} {n : Nat} : ∀ {sa : List ab_V} {st : List Value}, ab_sR ρ sa st → ab_bs n sa = true → sm_bs n st = true
  | [], [], _, _ => rfl
  | [], _ :: _, q, _ => q.elim
  | _ :: _, [], q, _ => q.elim
  | a :: sa, v :: st, q, h => by
    have h1 := (Bool.and_eq_true _ _).mp (by rwa [ab_bs, List.all_cons] at h)
    show List.all (v :: st) (sm_bv n) = true
    rw [List.all_cons, ab_bv_ok q.1 h1.1]
    exact ab_bs_ok q.2 h1.2
theorem ab_bl_ok {ρ : List Int} {n : Nat} : ∀ {la : ab_L} {lv : sm_L}, ab_lR ρ la lv → ab_bl n la = true → sm_bl n lv = true
  | [], [], _, _ => rfl
  | [], _ :: _, q, _ => q.elim
  | _ :: _, [], q, _ => q.elim
  | a :: la, v :: lv, q, h => by
    have h1 := (Bool.and_eq_true _ _).mp (by rwa [ab_bl, List.all_cons] at h)
    show List.all (v :: lv) (fun q => sm_bv n q.2) = true
    rw [List.all_cons, ab_bv_ok q.1.2 h1.1]
    exact ab_bl_ok q.2 h1.2
theorem ab_bh_ok {ρ : List Int} {t : ab_H} {hn : Nat} {h : List sm_C} (hh : ab_hR ρ t hn h) (hb : ab_allT (ab_bc hn) t = true) : sm_bh hn h = true := by
  apply List.all_eq_true.mpr
  intro q hq
  obtain ⟨k, hk⟩ := List.getElem?_of_mem hq
  have hlt : k < h.length := (List.getElem?_eq_some_iff.mp hk).1
  obtain ⟨a, g1, g2, g3, g4⟩ := hh.2 k q hk
  have h1 := ab_allT_ok hb g1
  unfold ab_bc at h1
  dsimp only at h1
  rw [(Bool.eq_false_iff.mpr (fun z => by have := Nat.ble_eq.mp z; have := hh.1; omega) : Nat.ble hn k = false)] at h1
  dsimp only [cond_false] at h1
  rw [g2]
  cases hc : (Nat.ble 100 a.1 && Nat.ble a.1 103) with
  | true =>
    have h2 := (Bool.and_eq_true _ _).mp hc
    rw [decide_eq_true ⟨Nat.ble_eq.mp h2.1, Nat.ble_eq.mp h2.2⟩]
    rfl
  | false =>
    rw [hc] at h1
    dsimp only [cond_false] at h1
    apply Bool.or_eq_true_iff.mpr
    right
    apply List.all_eq_true.mpr
    intro v hv
    obtain ⟨j, hj⟩ := List.getElem?_of_mem hv
    have hjl : j < q.2.length := (List.getElem?_eq_some_iff.mp hj).1
    have hjd : q.2.getD j .null = v := by rw [List.getD_eq_getElem?_getD, hj]; rfl
    split at h1
    · next ft hft =>
      rw [hft] at g4
      obtain ⟨b, e1, e2⟩ := g4 j (by omega)
      have h3 := ab_allT_ok h1 e1
      dsimp only at h3
      rw [(Bool.eq_false_iff.mpr (fun z => by have := Nat.ble_eq.mp z; omega) : Nat.ble a.2.1 j = false)] at h3
      rw [hjd] at e2
      exact ab_bv_ok e2 h3
    · next z hz =>
      rw [hz] at g4
      obtain ⟨x, e1, _, _⟩ := g4 j (by omega)
      rw [hjd] at e1
      rw [e1]
      rfl
/-- a tree of so many -/
def ab_bt (f : Nat → ab_V) : Nat → Nat → Nat → Lean.RArray (Nat × ab_V)
  | 0, lo, _ => .leaf (lo, f lo)
  | k + 1, lo, n => bif Nat.ble n 1 then .leaf (lo, f lo) else .branch (lo + n / 2) (ab_bt f k lo (n / 2)) (ab_bt f k (lo + n / 2) (n - n / 2))
theorem ab_bt_get (f : Nat → ab_V) : ∀ (k lo n : Nat), n ≤ 2 ^ k → ∀ j, lo ≤ j → j < lo + n → ab_get (ab_bt f k lo n) j = some (f j)
  | 0, lo, n, hn, j, h1, h2 => by
    have : j = lo := by simp at hn; omega
    subst this
    show ab_get (.leaf (j, f j)) j = _
    rw [ab_get_leaf, if_pos rfl]
  | k + 1, lo, n, hn, j, h1, h2 => by
    unfold ab_bt
    cases hb : Nat.ble n 1 with
    | true =>
      have := Nat.ble_eq.mp hb
      have : j = lo := by omega
      subst this
      show ab_get (.leaf (j, f j)) j = _
      rw [ab_get_leaf, if_pos rfl]
    | false =>
      have hp : 2 ^ (k + 1) = 2 * 2 ^ k := by rw [Nat.pow_succ]; omega
      show ab_get (.branch _ _ _) j = _
      rw [ab_get_branch]
      split
      · exact ab_bt_get f k _ _ (by omega) j (by omega) (by omega)
      · exact ab_bt_get f k _ _ (by omega) j (by omega) (by omega)
def ab_zero (at0 : ArrayType) : ab_V := match at0 with
  | .long => .inr (.inl (0, 0))
  | _ => .inl (0, 0)
/-- a new array's cell: of ints one by one up to 24 places, or of 104, of longs one by one, else by bounds -/
def ab_nc (at0 : ArrayType) (c : Nat) : ab_C := bif ((Nat.ble c 24 || Nat.beq c 104) && Nat.beq (sm_nk at0) 100) || Nat.beq (sm_nk at0) 103 then (sm_nk at0, c, .inl (ab_bt (fun _ => ab_zero at0) 7 0 c)) else (sm_nk at0, c, .inr (0, 0))
theorem ab_nc_ok {ρ : List Int} {E : ab_E} (ho : ab_ok ρ E) {at0 : ArrayType} {c : Nat} (hc : c ≤ 128 ∨ sm_nk at0 ≠ 103) : ab_cR ρ (ab_nc at0 c) (sm_nk at0, List.replicate c (sm_n0 at0)) := by
  have hz : ∀ j, j < c → (List.replicate c (sm_n0 at0)).getD j .null = sm_n0 at0 := fun j hj => by
    rw [List.getD_eq_getElem?_getD, List.getElem?_replicate, if_pos hj]
    rfl
  unfold ab_nc
  cases hb : (((Nat.ble c 24 || Nat.beq c 104) && Nat.beq (sm_nk at0) 100) || Nat.beq (sm_nk at0) 103) with
  | true =>
    refine ⟨rfl, List.length_replicate, fun j hj => ⟨ab_zero at0, ?_, ?_⟩⟩
    · refine ab_bt_get _ 7 0 c ?_ j (Nat.zero_le _) (by have : j < c := hj; omega)
      rcases Bool.or_eq_true_iff.mp hb with h1 | h1
      · rcases Bool.or_eq_true_iff.mp ((Bool.and_eq_true _ _).mp h1).1 with h2 | h2
        · have := Nat.ble_eq.mp h2
          omega
        · have := Nat.eq_of_beq_eq_true h2
          omega
      · have := Nat.eq_of_beq_eq_true h1
        rcases hc with h2 | h2
        · omega
        · exact absurd this h2
    · rw [hz j hj]
      cases at0 <;> exact ⟨ho.1, by rw [ho.2.1]; rfl⟩
  | false =>
    refine ⟨rfl, List.length_replicate, fun j hj => ⟨0, ?_, Int.le_refl _, Int.le_refl _⟩⟩
    rw [hz j hj]
    have h1 : Nat.beq (sm_nk at0) 103 = false := by
      cases h2 : Nat.beq (sm_nk at0) 103 with
      | false => rfl
      | true => rw [h2, Bool.or_true] at hb; cases hb
    cases at0 <;> first | rfl | (cases h1; done)
noncomputable def ab_has (t : ab_H) (hn : Nat) : Nat → Bool
  | 0 => true
  | m + 1 => (ab_get t hn).isSome && ab_has t (hn + 1) m
noncomputable def ab_puts (t : ab_H) (hn : Nat) : List ab_C → ab_H
  | [] => t
  | c :: cs => ab_puts (ab_set t hn c) (hn + 1) cs
noncomputable def ab_putsK (t : ab_H) (hn : Nat) (cs : List ab_C) (k : ab_H → Bool) : Bool := match cs with
  | [] => k t
  | c :: cs => ab_setK t hn c (fun t' => ab_putsK t' (hn + 1) cs k)
theorem ab_putsK_eq (k : ab_H → Bool) : ∀ (cs : List ab_C) (t : ab_H) (hn : Nat), ab_putsK t hn cs k = k (ab_puts t hn cs)
  | [], _, _ => rfl
  | c :: cs, t, hn => by
    unfold ab_putsK ab_puts
    rw [ab_setK_eq]
    exact ab_putsK_eq k cs _ _
theorem ab_has_set {t : ab_H} {k : Nat} {c : ab_C} : ∀ (m hn : Nat), ab_has t hn m = true → ab_has (ab_set t k c) hn m = true
  | 0, _, _ => rfl
  | m + 1, hn, h => by
    unfold ab_has at h ⊢
    have h1 := (Bool.and_eq_true _ _).mp h
    rw [ab_has_set m (hn + 1) h1.2, Bool.and_true, ab_get_set]
    split
    · rfl
    · exact h1.1
theorem ab_put1 {ρ : List Int} {t : ab_H} {hn : Nat} {h : List sm_C} {c : ab_C} {q : sm_C} (hh : ab_hR ρ t hn h) (hs : (ab_get t hn).isSome = true) (hc : ab_cR ρ c q) : ab_hR ρ (ab_set t hn c) (hn + 1) (h ++ [q]) := by
  refine ⟨by rw [List.length_append, hh.1]; rfl, fun k z hk => ?_⟩
  rw [ab_get_set]
  by_cases he : k = hn
  · rw [if_pos ⟨he, hs⟩]
    rw [he, ← hh.1, List.getElem?_append_right (Nat.le_refl _), Nat.sub_self] at hk
    cases hk
    exact ⟨c, rfl, hc⟩
  · rw [if_neg (fun q => he q.1)]
    have hlt := (List.getElem?_eq_some_iff.mp hk).1
    rw [List.length_append, hh.1] at hlt
    have : k < h.length := by
      rw [hh.1]
      have : ([q] : List sm_C).length = 1 := rfl
      omega
    rw [List.getElem?_append_left this] at hk
    exact hh.2 k z hk
theorem ab_puts_ok {ρ : List Int} : ∀ {cs : List ab_C} {qs : List sm_C} {t : ab_H} {hn : Nat} {h : List sm_C}, ab_hR ρ t hn h → ab_has t hn cs.length = true → ab_all2 (ab_cR ρ) cs qs → ab_hR ρ (ab_puts t hn cs) (hn + cs.length) (h ++ qs)
  | [], [], t, hn, h, hh, _, _ => by rw [List.append_nil]; exact hh
  | [], _ :: _, _, _, _, _, _, q => q.elim
  | _ :: _, [], _, _, _, _, _, q => q.elim
  | c :: cs, q :: qs, t, hn, h, hh, hs, hc => by
    rw [List.length_cons] at hs
    unfold ab_has at hs
    have h1 := (Bool.and_eq_true _ _).mp hs
    have h2 := ab_puts_ok (ab_put1 hh h1.1 hc.1) (ab_has_set _ _ h1.2) hc.2
    rw [List.append_assoc] at h2
    rw [List.length_cons, show hn + (cs.length + 1) = hn + 1 + cs.length by omega]
    exact h2
abbrev ab_Tm : Type := Option (Nat × List ab_V × List ab_C × Nat × Nat)
noncomputable def ab_mm (pc : Nat) (la : ab_L) (sa : List ab_V) (t : ab_H) (hn : Nat) : ab_Tm := match sa with
    | .inl q :: .inl p :: r => if Nat.beq p.1 0 && (Nat.beq q.1 0 && (ab_ile 0 p.2 && (ab_ile p.2 100 && (ab_ile 0 q.2 && (ab_ile q.2 24 && (ab_bs hn r && (ab_bl hn la && (ab_allT (ab_bc hn) t && ab_has t hn (1 + p.2.toNat))))))))) then
        some (pc + 4, .inr (.inr (.inl hn)) :: r, (104, p.2.toNat, .inl (ab_bt (fun j => .inr (.inr (.inl (hn + 1 + j)))) 7 0 p.2.toNat)) :: List.replicate p.2.toNat (ab_nc .int q.2.toNat), 1 + p.2.toNat, p.2.toNat + p.2.toNat * q.2.toNat) else none
    | _ => none
noncomputable def ab_mk (dfl : List ab_C) (i : Instr) (dt : List Nat) (pc : Nat) (la : ab_L) (sa : List ab_V) (t : ab_H) (hn : Nat) : ab_Tm := match i with
  | .newarray at0 => match sa with
    | .inl p :: r => if Nat.beq p.1 0 && (ab_ile 0 p.2 && (ab_ile p.2 1000 && (Nat.ble (sm_nk at0) 199 && ((Nat.ble p.2.toNat 128 || !(Nat.beq (sm_nk at0) 103)) && (ab_bs hn r && (ab_bl hn la && (ab_allT (ab_bc hn) t && ab_has t hn 1))))))) then some (pc + 2, .inr (.inr (.inl hn)) :: r, [ab_nc at0 p.2.toNat], 1, p.2.toNat) else none
    | _ => none
  | .new _ => match dt with
    | [ci] => match dfl[ci]? with
      | some c => if ab_bs hn sa && (ab_bl hn la && (ab_allT (ab_bc hn) t && ab_has t hn 1)) then some (pc + 3, .inr (.inr (.inl hn)) :: sa, [c], 1, c.2.1) else none
      | none => none
    | _ => none
  | .multianewarray _ dim => if dim = 2 then ab_mm pc la sa t hn else none
  | _ => none
/-- the kinds' first contents -/
def ab_dfR (dfl : List ab_C) (df : Nat → List Value) : Prop := ∀ (ci : Nat) (c : ab_C), dfl[ci]? = some c → (df ci).length = c.2.1 ∧ ∀ (ρ : List Int) (E : ab_E), ab_ok ρ E → ab_cR ρ c (ci, df ci)
section ABM
variable {ρ : List Int} {E : ab_E} {n pc pc' hn dc ds : Nat} {la : ab_L} {lv : sm_L} {sa sa' : List ab_V} {st : List Value} {t : ab_H} {h : List sm_C} {dt : List Nat} {cs : List ab_C} {dfl : List ab_C} {df : Nat → List Value}
theorem ab_rep2 {c : ab_C} {q : sm_C} (hc : ab_cR ρ c q) : ∀ m : Nat, ab_all2 (ab_cR ρ) (List.replicate m c) (List.replicate m q)
  | 0 => trivial
  | m + 1 => ⟨hc, ab_rep2 hc m⟩
theorem ab_mk_ok (hdf : ab_dfR dfl df) {i : Instr} (ho : ab_ok ρ E) (hl : ab_lR ρ la lv) (hs : ab_sR ρ sa st) (hh : ab_hR ρ t hn h) (hq : ab_mk dfl i dt pc la sa t hn = some (pc', sa', cs, dc, ds)) : ∃ st' h', sm_mk df i dt pc lv st h = some (pc', st', h', dc, ds) ∧ ab_sR ρ sa' st' ∧ ab_hR ρ (ab_puts t hn cs) (hn + cs.length) h' := by
  cases i
  case newarray at0 =>
    unfold ab_mk at hq
    dsimp only at hq
    split at hq
    · next p r =>
      obtain ⟨v, s1, rfl, h1, hs1⟩ := ab_s_cons hs
      obtain ⟨_, rfl⟩ := h1
      split at hq
      · next hb =>
        cases hq
        simp only [Bool.and_eq_true] at hb
        obtain ⟨b1, b2, b3, b4, b5, b6, b7, b8, b9⟩ := hb
        have e0 := Nat.eq_of_beq_eq_true b1
        have e1 := ab_ile_iff.mp b2
        have e2 := ab_ile_iff.mp b3
        have f := ab_toInt (x := p.2) (by omega) (by omega)
        have g : (Int32.ofInt p.2).toNatClampNeg = p.2.toNat := by
          unfold Int32.toNatClampNeg
          rw [f]
        rw [e0, ho.2.1, Int.zero_add]
        refine ⟨.ref h.length :: s1, h ++ [(sm_nk at0, List.replicate p.2.toNat (sm_n0 at0))], ?_, ⟨?_, hs1⟩, ?_⟩
        · show sm_na at0 pc lv (.int (Int32.ofInt p.2) :: s1) h = _
          unfold sm_na
          dsimp only
          rw [g, if_pos ⟨fun q => by
            rw [Int32.lt_iff_toInt_lt, f] at q
            have : (0 : Int32).toInt = 0 := rfl
            omega, by omega, by have := Nat.ble_eq.mp b4; omega, by rw [hh.1]; exact ab_bs_ok hs1 b6, by rw [hh.1]; exact ab_bl_ok hl b7, by rw [hh.1]; exact ab_bh_ok hh b8⟩]
        · rw [hh.1]; rfl
        · refine ab_puts_ok hh b9 ⟨ab_nc_ok ho ?_, trivial⟩
          rcases Bool.or_eq_true_iff.mp b5 with h1 | h1
          · left
            exact Nat.ble_eq.mp h1
          · right
            intro q
            rw [q] at h1
            cases h1
      · cases hq
    · cases hq
  case new idx =>
    unfold ab_mk at hq
    dsimp only at hq
    split at hq
    · next ci =>
      split at hq
      · next c hc =>
        split at hq
        · next hb =>
          cases hq
          simp only [Bool.and_eq_true] at hb
          obtain ⟨b6, b7, b8, b9⟩ := hb
          obtain ⟨c1, c2⟩ := hdf ci c hc
          refine ⟨.ref h.length :: st, h ++ [(ci, df ci)], ?_, ⟨?_, hs⟩, ab_puts_ok hh b9 ⟨c2 ρ E ho, trivial⟩⟩
          · show sm_ne df [ci] pc lv st h = _
            unfold sm_ne
            dsimp only
            rw [if_pos ⟨by rw [hh.1]; exact ab_bs_ok hs b6, by rw [hh.1]; exact ab_bl_ok hl b7, by rw [hh.1]; exact ab_bh_ok hh b8⟩, c1]
          · rw [hh.1]; rfl
        · cases hq
      · cases hq
    · cases hq
  case multianewarray idx dim =>
    by_cases hd : dim = 2
    · subst hd
      change ab_mm pc la sa t hn = some (pc', sa', cs, dc, ds) at hq
      unfold ab_mm at hq
      split at hq
      · next q p r =>
        obtain ⟨v, s1, rfl, h1, hs1⟩ := ab_s_cons hs
        obtain ⟨v2, s2, rfl, h2, hs2⟩ := ab_s_cons hs1
        obtain ⟨_, rfl⟩ := h1
        obtain ⟨_, rfl⟩ := h2
        split at hq
        · next hb =>
          cases hq
          simp only [Bool.and_eq_true] at hb
          obtain ⟨b1, b1q, b2, b3, b4, b5, b6, b7, b8, b9⟩ := hb
          have e0 := Nat.eq_of_beq_eq_true b1
          have e0q := Nat.eq_of_beq_eq_true b1q
          have e1 := ab_ile_iff.mp b2
          have e2 := ab_ile_iff.mp b3
          have e3 := ab_ile_iff.mp b4
          have e4 := ab_ile_iff.mp b5
          have f := ab_toInt (x := p.2) (by omega) (by omega)
          have g : (Int32.ofInt p.2).toNatClampNeg = p.2.toNat := by
            unfold Int32.toNatClampNeg
            rw [f]
          have f2 := ab_toInt (x := q.2) (by omega) (by omega)
          have g2 : (Int32.ofInt q.2).toNatClampNeg = q.2.toNat := by
            unfold Int32.toNatClampNeg
            rw [f2]
          rw [e0, e0q, ho.2.1, Int.zero_add, Int.zero_add]
          have z0 : (0 : Int32).toInt = 0 := rfl
          refine ⟨.ref h.length :: s2, h ++ ((104, (List.range p.2.toNat).map (fun i => Value.ref (h.length + 1 + i))) :: List.replicate p.2.toNat (100, List.replicate q.2.toNat (.int 0))), ?_, ⟨?_, hs2⟩, ?_⟩
          · show sm_mn pc lv (.int (Int32.ofInt q.2) :: .int (Int32.ofInt p.2) :: s2) h = _
            unfold sm_mn
            dsimp only
            rw [g, g2, if_pos ⟨fun q => by
              rw [Int32.lt_iff_toInt_lt, f] at q
              omega, fun q => by
              rw [Int32.lt_iff_toInt_lt, f2] at q
              omega, by omega, by omega, by rw [hh.1]; exact ab_bs_ok hs2 b6, by rw [hh.1]; exact ab_bl_ok hl b7, by rw [hh.1]; exact ab_bh_ok hh b8⟩]
          · rw [hh.1]; rfl
          · refine ab_puts_ok hh (by rw [List.length_cons, List.length_replicate, Nat.add_comm]; exact b9) ⟨⟨rfl, by rw [List.length_map, List.length_range], fun j hj => ?_⟩, ab_rep2 (ab_nc_ok (at0 := .int) ho (Or.inr (by decide))) _⟩
            dsimp only at hj
            refine ⟨_, ab_bt_get _ 7 0 _ (by omega) j (Nat.zero_le _) (by omega), ?_⟩
            show List.getD _ j Value.null = Value.ref (hn + 1 + j)
            rw [List.getD_eq_getElem?_getD, List.getElem?_map, List.getElem?_range hj, hh.1]
            rfl
        · cases hq
      · cases hq
    · unfold ab_mk at hq
      dsimp only at hq
      rw [if_neg hd] at hq
      cases hq
  all_goals (exact absurd hq (by intro q; cases q))
end ABM
