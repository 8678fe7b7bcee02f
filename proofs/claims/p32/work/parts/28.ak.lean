/-! Branches, over what is known: where it may go. -/
abbrev ab_B : Type := Option (List (ab_E × Nat × List ab_V))
/-- what follows, if it is so; unlike a number: below or above -/
def ab_ats (cd : ClassFile.Cond) (E : ab_E) (p q : Nat × Int) : List ab_E := match cd with
  | .eq => [ab_at .eq E p q]
  | .ne => bif Nat.beq q.1 0 then [ab_at .lt E p q, ab_at .gt E p q] else [ab_at .ne E p q]
  | .lt => [ab_at .lt E p q]
  | .ge => [ab_at .ge E p q]
  | .gt => [ab_at .gt E p q]
  | .le => [ab_at .le E p q]
theorem ab_ats_ok {ρ : List Int} {E : ab_E} (ho : ab_ok ρ E) {cd : ClassFile.Cond} {p q : Nat × Int} (hd : ab_ic cd (ρ.getD p.1 0 + p.2) (ρ.getD q.1 0 + q.2)) : ∃ e ∈ ab_ats cd E p q, ab_ok ρ e := by
  cases cd
  case ne =>
    have hd : ¬ ρ.getD p.1 0 + p.2 = ρ.getD q.1 0 + q.2 := hd
    unfold ab_ats
    cases hb : Nat.beq q.1 0 with
    | false => exact ⟨_, List.mem_singleton.mpr rfl, ab_at_ok (cd := .ne) ho hd⟩
    | true =>
      rcases Int.lt_or_gt_of_ne hd with h | h
      · exact ⟨_, List.mem_cons_self, ab_at_ok (cd := .lt) ho h⟩
      · exact ⟨_, List.mem_cons_of_mem _ List.mem_cons_self, ab_at_ok (cd := .gt) ho h⟩
  all_goals exact ⟨_, List.mem_singleton.mpr rfl, ab_at_ok ho hd⟩
def ab_two (cd : ClassFile.Cond) (E : ab_E) (p q : Nat × Int) (tg nx : Nat) (r : List ab_V) : ab_B := match ab_rg E p, ab_rg E q with
  | some z, some w => bif ab_n32 z && ab_n32 w then (bif ab_dt cd E p q then some [(E, tg, r)] else bif ab_dt (ab_ng cd) E p q then some [(E, nx, r)] else
      some (List.filter (fun e => !(ab_no e.1 p.1 || ab_no e.1 q.1)) ((ab_ats cd E p q).map (fun e => (e, tg, r)) ++ (ab_ats (ab_ng cd) E p q).map (fun e => (e, nx, r))))) else none
  | _, _ => none
def ab_tg (pc : Nat) (off : Int) : Option Nat := bif ab_ile 0 ((pc : Int) + off) then some ((pc : Int) + off).toNat else none
/-- each of a table's numbers -/
def ab_tb (pc : Nat) (E : ab_E) (p : Nat × Int) (r : List ab_V) : List Int → Int → Option (List (ab_E × Nat × List ab_V))
  | [], _ => some []
  | off :: offs, k => match ab_tg pc off, ab_tb pc E p r offs (k + 1) with
    | some t, some l => bif ab_no (ab_at .eq E p (0, k)) p.1 then some l else some ((ab_at .eq E p (0, k), t, r) :: l)
    | _, _ => none
def ab_sw (pc : Nat) (d lo hi : Int) (offs : List Int) (E : ab_E) (p : Nat × Int) (r : List ab_V) : ab_B := match ab_rg E p, ab_tg pc d, ab_tb pc E p r offs lo with
  | some z, some t, some l => bif ab_n32 z && (ab_ile (hi + 1) (lo + (offs.length : Int)) && ab_ile (lo + (offs.length : Int)) (hi + 1)) then
      some (List.filter (fun e => !(ab_no e.1 p.1)) [(ab_at .lt E p (0, lo), t, r), (ab_at .gt E p (0, hi), t, r)] ++ l) else none
  | _, _, _ => none
def ab_br (i : Instr) (pc : Nat) (E : ab_E) (sa : List ab_V) : ab_B := match i with
  | .ifCond cd off => match sa with
    | .inl p :: r => match ab_tg pc off with
      | some t => ab_two cd E p (0, 0) t (pc + 3) r
      | none => none
    | _ => none
  | .if_icmp cd off => match sa with
    | .inl q :: .inl p :: r => match ab_tg pc off with
      | some t => ab_two cd E p q t (pc + 3) r
      | none => none
    | _ => none
  | .tableswitch d lo hi offs => match sa with
    | .inl p :: r => ab_sw pc d lo hi offs.toList E p r
    | _ => none
  | _ => none
section ABK
variable {ρ : List Int} {E : ab_E} {pc ml : Nat} {sa : List ab_V} {st : List Value} {lv : sm_L}
theorem ab_tg_ok {off : Int} {t : Nat} (h : ab_tg pc off = some t) : 0 ≤ (pc : Int) + off ∧ t = ((pc : Int) + off).toNat := by
  unfold ab_tg at h
  cases hb : ab_ile 0 ((pc : Int) + off) with
  | false => rw [hb] at h; cases h
  | true =>
    rw [hb] at h
    cases h
    exact ⟨ab_ile_iff.mp hb, rfl⟩
theorem ab_two_ok (ho : ab_ok ρ E) {cd : ClassFile.Cond} {p q : Nat × Int} {tg nx : Nat} {r : List ab_V} {L : List (ab_E × Nat × List ab_V)} (h : ab_two cd E p q tg nx r = some L) : ∃ e ∈ L, ab_ok ρ e.1 ∧ e.2.2 = r ∧ ((sm_cd cd (Int32.ofInt (ρ.getD p.1 0 + p.2)) (Int32.ofInt (ρ.getD q.1 0 + q.2)) = true ∧ e.2.1 = tg) ∨ (sm_cd cd (Int32.ofInt (ρ.getD p.1 0 + p.2)) (Int32.ofInt (ρ.getD q.1 0 + q.2)) = false ∧ e.2.1 = nx)) := by
  unfold ab_two at h
  split at h
  · next z w hz hw =>
    cases hb : (ab_n32 z && ab_n32 w) with
    | false => rw [hb] at h; cases h
    | true =>
      rw [hb] at h
      have h1 := (Bool.and_eq_true _ _).mp hb
      have h2 := (Bool.and_eq_true _ _).mp h1.1
      have h3 := (Bool.and_eq_true _ _).mp h1.2
      have a1 := ab_ile_iff.mp h2.1
      have a2 := ab_ile_iff.mp h2.2
      have a3 := ab_ile_iff.mp h3.1
      have a4 := ab_ile_iff.mp h3.2
      have z1 := ab_rg_ok ho hz
      have w1 := ab_rg_ok ho hw
      have key := ab_cd (cd := cd) (x := ρ.getD p.1 0 + p.2) (y := ρ.getD q.1 0 + q.2) ⟨by omega, by omega⟩ ⟨by omega, by omega⟩
      have keyf : ¬ ab_ic cd (ρ.getD p.1 0 + p.2) (ρ.getD q.1 0 + q.2) → sm_cd cd (Int32.ofInt (ρ.getD p.1 0 + p.2)) (Int32.ofInt (ρ.getD q.1 0 + q.2)) = false := fun hne => Bool.eq_false_iff.mpr fun q => hne (key.mp q)
      dsimp only [cond_true] at h
      cases hd : ab_dt cd E p q with
      | true =>
        rw [hd] at h
        cases h
        exact ⟨_, List.mem_singleton.mpr rfl, ho, rfl, Or.inl ⟨key.mpr (ab_dt_ok ho hd), rfl⟩⟩
      | false =>
        rw [hd] at h
        dsimp only [cond_false] at h
        cases hd2 : ab_dt (ab_ng cd) E p q with
        | true =>
          rw [hd2] at h
          cases h
          exact ⟨_, List.mem_singleton.mpr rfl, ho, rfl, Or.inr ⟨keyf (ab_ng_iff.mp (ab_dt_ok ho hd2)), rfl⟩⟩
        | false =>
          rw [hd2] at h
          cases h
          by_cases hc : ab_ic cd (ρ.getD p.1 0 + p.2) (ρ.getD q.1 0 + q.2)
          · obtain ⟨e5, m5, h5⟩ := ab_ats_ok ho hc
            exact ⟨(e5, tg, r), List.mem_filter.mpr ⟨List.mem_append_left _ (List.mem_map.mpr ⟨e5, m5, rfl⟩), by dsimp only; rw [ab_no_ok h5, ab_no_ok h5]; rfl⟩, h5, rfl, Or.inl ⟨key.mpr hc, rfl⟩⟩
          · obtain ⟨e5, m5, h5⟩ := ab_ats_ok ho (ab_ng_iff.mpr hc)
            exact ⟨(e5, nx, r), List.mem_filter.mpr ⟨List.mem_append_right _ (List.mem_map.mpr ⟨e5, m5, rfl⟩), by dsimp only; rw [ab_no_ok h5, ab_no_ok h5]; rfl⟩, h5, rfl, Or.inr ⟨keyf hc, rfl⟩⟩
  · cases h
theorem ab_tb_ok (ho : ab_ok ρ E) {p : Nat × Int} {r : List ab_V} : ∀ {offs : List Int} {k : Int} {L : List (ab_E × Nat × List ab_V)}, ab_tb pc E p r offs k = some L → ∀ j : Nat, j < offs.length → ρ.getD p.1 0 + p.2 = k + j → ∃ e ∈ L, ab_ok ρ e.1 ∧ e.2.2 = r ∧ ∃ off, offs[j]? = some off ∧ ab_tg pc off = some e.2.1
  | [], _, _, _, j, hj, _ => by cases hj
  | off :: offs, k, L, h, j, hj, he => by
    unfold ab_tb at h
    split at h
    · next t l ht hl =>
      cases j with
      | zero =>
        have h5 : ab_ok ρ (ab_at .eq E p (0, k)) := ab_at_ok ho (by
          show _ = _
          dsimp only
          rw [ho.2.1]
          omega)
        rw [ab_no_ok h5] at h
        cases h
        exact ⟨_, List.mem_cons_self, h5, rfl, off, rfl, ht⟩
      | succ j =>
        obtain ⟨e, h1, h2⟩ := ab_tb_ok ho hl j (by simpa using hj) (by omega)
        cases hb : ab_no (ab_at .eq E p (0, k)) p.1 with
        | true => rw [hb] at h; cases h; exact ⟨e, h1, h2⟩
        | false => rw [hb] at h; cases h; exact ⟨e, List.mem_cons_of_mem _ h1, h2⟩
    · cases h
theorem ab_br_ok {i : Instr} (ho : ab_ok ρ E) (hs : ab_sR ρ sa st) {L : List (ab_E × Nat × List ab_V)} (h : ab_br i pc E sa = some L) : ∃ e ∈ L, ab_ok ρ e.1 ∧ ∃ st', sm_lo ml i pc lv st = some (e.2.1, lv, st') ∧ ab_sR ρ e.2.2 st' := by
  cases i
  case ifCond cd off =>
    unfold ab_br at h
    dsimp only at h
    split at h
    · next p r =>
      obtain ⟨v, s1, rfl, h1, hs1⟩ := ab_s_cons hs
      obtain ⟨_, rfl⟩ := h1
      split at h
      · next t ht =>
        obtain ⟨t1, rfl⟩ := ab_tg_ok ht
        obtain ⟨e, e1, e2, e3, e4⟩ := ab_two_ok ho h
        refine ⟨e, e1, e2, s1, ?_, by rw [e3]; exact hs1⟩
        show sm_if cd pc off lv (.int (Int32.ofInt (ρ.getD p.1 0 + p.2)) :: s1) = _
        unfold sm_if
        dsimp only
        rw [if_pos t1]
        dsimp only at e4
        rw [ho.2.1, Int.add_zero, show Int32.ofInt 0 = 0 from rfl] at e4
        rcases e4 with ⟨e4, e5⟩ | ⟨e4, e5⟩
        · rw [e4, if_pos rfl, e5]
        · rw [e4, if_neg (by decide), e5]
      · cases h
    · cases h
  case if_icmp cd off =>
    unfold ab_br at h
    dsimp only at h
    split at h
    · next q p r =>
      obtain ⟨v, s1, rfl, h1, hs1⟩ := ab_s_cons hs
      obtain ⟨v2, s2, rfl, h2, hs2⟩ := ab_s_cons hs1
      obtain ⟨_, rfl⟩ := h1
      obtain ⟨_, rfl⟩ := h2
      split at h
      · next t ht =>
        obtain ⟨t1, rfl⟩ := ab_tg_ok ht
        obtain ⟨e, e1, e2, e3, e4⟩ := ab_two_ok ho h
        refine ⟨e, e1, e2, s2, ?_, by rw [e3]; exact hs2⟩
        show sm_ic cd pc off lv (.int (Int32.ofInt (ρ.getD q.1 0 + q.2)) :: .int (Int32.ofInt (ρ.getD p.1 0 + p.2)) :: s2) = _
        unfold sm_ic
        dsimp only
        rw [if_pos t1]
        rcases e4 with ⟨e4, e5⟩ | ⟨e4, e5⟩
        · rw [e4, if_pos rfl, e5]
        · rw [e4, if_neg (by decide), e5]
      · cases h
    · cases h
  case tableswitch d lo hi offs =>
    unfold ab_br at h
    dsimp only at h
    split at h
    · next p r =>
      obtain ⟨v, s1, rfl, h1, hs1⟩ := ab_s_cons hs
      obtain ⟨_, rfl⟩ := h1
      unfold ab_sw at h
      split at h
      · next z t l hz ht hl =>
        cases hb : (ab_n32 z && (ab_ile (hi + 1) (lo + (offs.toList.length : Int)) && ab_ile (lo + (offs.toList.length : Int)) (hi + 1))) with
        | false => rw [hb] at h; cases h
        | true =>
          rw [hb] at h
          cases h
          obtain ⟨b1, b2, b3⟩ := ab_and3 hb
          have b4 := ab_ile_iff.mp b2
          have b5 := ab_ile_iff.mp b3
          have h2 := (Bool.and_eq_true _ _).mp b1
          have a1 := ab_ile_iff.mp h2.1
          have a2 := ab_ile_iff.mp h2.2
          have z1 := ab_rg_ok ho hz
          have f := ab_toInt (x := ρ.getD p.1 0 + p.2) (by omega) (by omega)
          have htb : ∀ (X : sm_R), X = sm_tb pc d lo hi offs lv (.int (Int32.ofInt (ρ.getD p.1 0 + p.2)) :: s1) → sm_lo ml (.tableswitch d lo hi offs) pc lv (.int (Int32.ofInt (ρ.getD p.1 0 + p.2)) :: s1) = X := fun X hX => hX.symm
          obtain ⟨t1, rfl⟩ := ab_tg_ok ht
          by_cases c1 : ρ.getD p.1 0 + p.2 < lo
          · have h5 : ab_ok ρ (ab_at .lt E p (0, lo)) := ab_at_ok ho (by
              show _ < _
              dsimp only
              rw [ho.2.1]
              omega)
            refine ⟨(ab_at .lt E p (0, lo), ((pc : Int) + d).toNat, r), List.mem_append_left _ (List.mem_filter.mpr ⟨List.mem_cons_self, by dsimp only; rw [ab_no_ok h5]; rfl⟩), h5, s1, htb _ ?_, hs1⟩
            unfold sm_tb
            dsimp only
            rw [f, if_pos (Or.inl c1)]
            unfold sm_jp
            rw [if_pos t1]
          · by_cases c2 : hi < ρ.getD p.1 0 + p.2
            · have h5 : ab_ok ρ (ab_at .gt E p (0, hi)) := ab_at_ok ho (by
                show _ < _
                dsimp only
                rw [ho.2.1]
                omega)
              refine ⟨(ab_at .gt E p (0, hi), ((pc : Int) + d).toNat, r), List.mem_append_left _ (List.mem_filter.mpr ⟨List.mem_cons_of_mem _ List.mem_cons_self, by dsimp only; rw [ab_no_ok h5]; rfl⟩), h5, s1, htb _ ?_, hs1⟩
              unfold sm_tb
              dsimp only
              rw [f, if_pos (Or.inr c2)]
              unfold sm_jp
              rw [if_pos t1]
            · obtain ⟨e, e1, e2, e3, off, e4, e5⟩ := ab_tb_ok ho hl (ρ.getD p.1 0 + p.2 - lo).toNat (by omega) (by omega)
              obtain ⟨t2, t3⟩ := ab_tg_ok e5
              refine ⟨e, List.mem_append_right _ e1, e2, s1, htb _ ?_, by rw [e3]; exact hs1⟩
              unfold sm_tb
              dsimp only
              rw [f, if_neg (fun q => q.elim c1 c2)]
              rw [Array.getElem?_toList] at e4
              rw [e4]
              dsimp only
              unfold sm_jp
              rw [if_pos t2, t3]
      · cases h
    · cases h
  all_goals (exact absurd h (by intro q; cases q))
end ABK
