/-! Branches, quotients, rows of rows, answers. -/
def zcc (cd : ClassFile.Cond) : Nat := match cd with
  | .eq => 0
  | .ne => 1
  | .lt => 2
  | .ge => 3
  | .gt => 4
  | .le => 5
abbrev zBr : Type := Option (List (List zK × Nat × List ab_V))
def zb2 (cd : ClassFile.Cond) (p q : Nat × Int) (tg nx : Nat) (r : List ab_V) : List (List zK × Nat × List ab_V) := [([(6, zcc cd, [p, q])], tg, r), ([(6, zcc (ab_ng cd), [p, q])], nx, r)]
def zsw (pc : Nat) (p : Nat × Int) (r : List ab_V) : List Int → Int → zBr
  | [], _ => some []
  | off :: offs, k => match ab_tg pc off, zsw pc p r offs (k + 1) with
    | some t, some l => some (([(6, 0, [p, (0, k)])], t, r) :: l)
    | _, _ => none
def zbr (i : Instr) (pc : Nat) (sa : List ab_V) : zBr := match i with
  | .ifCond cd off => (match sa with
    | .inl p :: r => (match ab_tg pc off with
      | some t => some (zb2 cd p (0, 0) t (pc + 3) r)
      | none => none)
    | _ => none)
  | .if_icmp cd off => (match sa with
    | .inl q :: .inl p :: r => (match ab_tg pc off with
      | some t => some (zb2 cd p q t (pc + 3) r)
      | none => none)
    | _ => none)
  | .tableswitch d lo hi offs => (match sa with
    | .inl p :: r => (match ab_tg pc d, zsw pc p r offs.toList lo with
      | some t, some l => bif ab_ile (hi + 1) (lo + (offs.toList.length : Int)) && ab_ile (lo + (offs.toList.length : Int)) (hi + 1) then some (([(6, 2, [p, (0, lo)])], t, r) :: ([(6, 4, [p, (0, hi)])], t, r) :: l) else none
      | _, _ => none)
    | _ => none)
  | _ => none
def zdv (i : Instr) (pc : Nat) (la : ab_L) (sa : List ab_V) (n : Nat) : Option (List zK × List zK × Nat × Nat × ab_L × List ab_V) := match i with
  | .idiv => (match sa with
    | .inl q :: .inl p :: r => some ([(7, 1, [q])], [(0, 9, [p, q])], n + 1, pc + 1, la, .inl (n, 0) :: r)
    | _ => none)
  | .irem => (match sa with
    | .inl q :: .inl p :: r => some ([(7, 1, [q])], [(0, 10, [p, q])], n + 1, pc + 1, la, .inl (n, 0) :: r)
    | _ => none)
  | .ldiv => (match sa with
    | .inr (.inl q) :: .inr (.inl p) :: r => some ([(7, 1, [q])], [(1, 9, [p, q])], n + 1, pc + 1, la, .inr (.inl (n, 0)) :: r)
    | _ => none)
  | .lrem => (match sa with
    | .inr (.inl q) :: .inr (.inl p) :: r => some ([(7, 1, [q])], [(1, 10, [p, q])], n + 1, pc + 1, la, .inr (.inl (n, 0)) :: r)
    | _ => none)
  | _ => none
def zrows (rt : zRt) (a : Nat) (i : Nat × Int) (pc : Nat) (s : List ab_V) : Nat → Nat → zBr
  | 0, _ => some []
  | m + 1, j => match zrt rt a j, zrows rt a i pc s m (j + 1) with
    | some q, some l => some (([(6, 0, [i, (0, (j : Int))])], pc + 1, .inr (.inr (.inl q)) :: s) :: l)
    | _, _ => none
/-- a row of rows: which one it is -/
noncomputable def zaa (T : zTm) (rt : zRt) (pc : Nat) (sa : List ab_V) : Option (List zK × List (List zK × Nat × List ab_V)) := match sa with
  | .inl i :: .inr (.inr (.inl a)) :: s => (match ab_get T a with
    | some c => bif Nat.beq c.1 104 && Nat.ble c.2.1 1000 then (match zrows rt a i pc s c.2.1 0 with
      | some l => some ([(7, 0, [i, (0, (c.2.1 : Int))])], l)
      | none => none) else none
    | none => none)
  | _ => none
/-- what a method answers: asserts, the value -/
def zre (rk : Nat) (i : Instr) (sa : List ab_V) : Option (List zK × (Nat × Int)) := match i, sa with
  | .ireturn, [.inl q] => bif Nat.beq rk 1 then some ([], q) else bif Nat.beq rk 2 then some ([(7, 2, [q])], q) else none
  | .lreturn, [.inr (.inl q)] => bif Nat.beq rk 3 then some ([], q) else none
  | .return_, [] => bif Nat.beq rk 0 then some ([], (0, 0)) else none
  | _, _ => none
def zres (rk : Nat) (y : Int) (v : Option Value) : Prop := match rk with
  | 0 => v = none ∧ y = 0
  | 1 => v = some (.int (Int32.ofInt y)) ∧ z32 y
  | 2 => v = some (.int (Int32.ofInt y)) ∧ 0 ≤ y ∧ y ≤ 1
  | 3 => v = some (.long (Int64.ofInt y)) ∧ z64 y
  | _ => False
section ZBR
variable {α : Nat → Nat} {ρ : List Int} {η : zE} {T : zTm} {rt ra : zRt} {h : List sm_C} {la la' : ab_L} {lv : sm_L} {sa sa' : List ab_V} {st : List Value} {n n' pc pc' ml : Nat} {as ks : List zK} {ro : Nat → List Int32}
theorem zcc_iff {cd : ClassFile.Cond} {x y : Int} : zcd (zcc cd) x y ↔ ab_ic cd x y := by cases cd <;> exact Iff.rfl
def zAlt (ro : Nat → List Int32) (ρ : List Int) (η : zE) (ks : List zK) : Prop := ∀ C I M Q μ r, zden ro C I M Q μ (ks ++ r) ρ η → zden ro C I M Q μ r ρ η
theorem zAlt_c {c : Nat} {p q : Nat × Int} (h : zcd c (zn ρ p) (zn ρ q)) : zAlt ro ρ η [(6, c, [p, q])] := fun C I M Q μ r w => w h
theorem zb2_ok {cd : ClassFile.Cond} {p q : Nat × Int} {tg nx : Nat} {r : List ab_V} (hp : z32 (zn ρ p)) (hq : z32 (zn ρ q)) : ∃ e ∈ zb2 cd p q tg nx r, e.2.2 = r ∧ zAlt ro ρ η e.1 ∧ ((sm_cd cd (Int32.ofInt (zn ρ p)) (Int32.ofInt (zn ρ q)) = true ∧ e.2.1 = tg) ∨ (sm_cd cd (Int32.ofInt (zn ρ p)) (Int32.ofInt (zn ρ q)) = false ∧ e.2.1 = nx)) := by
  have key := ab_cd (cd := cd) hp hq
  by_cases hc : ab_ic cd (zn ρ p) (zn ρ q)
  · exact ⟨_, List.mem_cons_self, rfl, zAlt_c (zcc_iff.mpr hc), Or.inl ⟨key.mpr hc, rfl⟩⟩
  · exact ⟨_, List.mem_cons_of_mem _ List.mem_cons_self, rfl, zAlt_c (zcc_iff.mpr (ab_ng_iff.mpr hc)), Or.inr ⟨Bool.eq_false_iff.mpr (fun w => hc (key.mp w)), rfl⟩⟩
theorem zsw_ok {p : Nat × Int} {r : List ab_V} : ∀ {offs : List Int} {k : Int} {L : List (List zK × Nat × List ab_V)}, zsw pc p r offs k = some L → ∀ j : Nat, j < offs.length → zn ρ p = k + j → ∃ e ∈ L, e.2.2 = r ∧ zAlt ro ρ η e.1 ∧ ∃ off, offs[j]? = some off ∧ ab_tg pc off = some e.2.1
  | [], _, _, _, j, hj, _ => by cases hj
  | off :: offs, k, L, h, j, hj, he => by
    unfold zsw at h
    split at h
    · next t l ht hl =>
      cases h
      cases j with
      | zero => exact ⟨_, List.mem_cons_self, rfl, zAlt_c (by show zn ρ p = zn ρ (0, k); rw [zn_c, he]; omega), off, rfl, ht⟩
      | succ j =>
        obtain ⟨e, h1, h2, h3, off2, h4, h5⟩ := zsw_ok hl j (by simpa using hj) (by omega)
        exact ⟨e, List.mem_cons_of_mem _ h1, h2, h3, off2, by rw [List.getElem?_cons_succ]; exact h4, h5⟩
    · cases h
theorem zbr_ok (hs : zS α ρ sa st) {i : Instr} {L : List (List zK × Nat × List ab_V)} (h : zbr i pc sa = some L) (h0 : 0 < ρ.length) : ∃ e ∈ L, zAlt ro ρ η e.1 ∧ ∃ st', sm_lo ml i pc lv st = some (e.2.1, lv, st') ∧ zS α ρ e.2.2 st' := by
  cases i
  case ifCond cd off =>
    unfold zbr at h
    dsimp only at h
    split at h
    · next p r =>
      split at h
      · next t ht =>
        cases h
        obtain ⟨v1, s1, rfl, ⟨i1, i2, rfl⟩, hs1⟩ := zS_cons hs
        obtain ⟨t1, t2⟩ := ab_tg_ok ht
        obtain ⟨e, e1, e2, e3, e4⟩ := zb2_ok (ro := ro) (η := η) (cd := cd) (p := p) (q := (0, 0)) (tg := t) (nx := pc + 3) (r := r) i2 (by rw [zn_c]; exact ⟨by decide, by decide⟩)
        refine ⟨e, e1, e3, s1, ?_, by rw [e2]; exact hs1⟩
        unfold sm_lo
        dsimp only
        unfold sm_if
        dsimp only
        rw [if_pos t1]
        rcases e4 with ⟨w1, w2⟩ | ⟨w1, w2⟩
        · rw [zn_c] at w1
          rw [show (0 : Int32) = Int32.ofInt 0 from rfl, if_pos w1, w2, t2]
        · rw [zn_c] at w1
          rw [show (0 : Int32) = Int32.ofInt 0 from rfl, if_neg (by rw [w1]; decide), w2]
      · cases h
    · cases h
  case if_icmp cd off =>
    unfold zbr at h
    dsimp only at h
    split at h
    · next q p r =>
      split at h
      · next t ht =>
        cases h
        obtain ⟨v1, s1, rfl, ⟨i1, i2, rfl⟩, hs1⟩ := zS_cons hs
        obtain ⟨v2, s2, rfl, ⟨j1, j2, rfl⟩, hs2⟩ := zS_cons hs1
        obtain ⟨t1, t2⟩ := ab_tg_ok ht
        obtain ⟨e, e1, e2, e3, e4⟩ := zb2_ok (ro := ro) (η := η) (cd := cd) (p := p) (q := q) (tg := t) (nx := pc + 3) (r := r) j2 i2
        refine ⟨e, e1, e3, s2, ?_, by rw [e2]; exact hs2⟩
        unfold sm_lo
        dsimp only
        unfold sm_ic
        dsimp only
        rw [if_pos t1]
        rcases e4 with ⟨w1, w2⟩ | ⟨w1, w2⟩
        · rw [if_pos w1, w2, t2]
        · rw [if_neg (by rw [w1]; decide), w2]
      · cases h
    · cases h
  case tableswitch d lo hi offs =>
    unfold zbr at h
    dsimp only at h
    split at h
    · next p r =>
      split at h
      · next t l ht hl =>
        cases hb : (ab_ile (hi + 1) (lo + (offs.toList.length : Int)) && ab_ile (lo + (offs.toList.length : Int)) (hi + 1)) with
        | false => rw [hb] at h; cases h
        | true =>
          rw [hb] at h
          cases h
          have hb1 := (Bool.and_eq_true _ _).mp hb
          have z1 := ab_ile_iff.mp hb1.1
          have z2 := ab_ile_iff.mp hb1.2
          obtain ⟨v1, s1, rfl, ⟨i1, i2, rfl⟩, hs1⟩ := zS_cons hs
          obtain ⟨t1, t2⟩ := ab_tg_ok ht
          have ex := z32_of i2
          by_cases c1 : zn ρ p < lo
          · refine ⟨_, List.mem_cons_self, zAlt_c c1, s1, ?_, hs1⟩
            unfold sm_lo
            dsimp only
            unfold sm_tb
            dsimp only
            rw [ex, if_pos (Or.inl c1)]
            unfold sm_jp
            rw [if_pos t1, t2]
          · by_cases c2 : hi < zn ρ p
            · refine ⟨_, List.mem_cons_of_mem _ List.mem_cons_self, zAlt_c c2, s1, ?_, hs1⟩
              unfold sm_lo
              dsimp only
              unfold sm_tb
              dsimp only
              rw [ex, if_pos (Or.inr c2)]
              unfold sm_jp
              rw [if_pos t1, t2]
            · obtain ⟨e, e1, e2, e3, off, e4, e5⟩ := zsw_ok (ρ := ρ) (ro := ro) (η := η) hl (zn ρ p - lo).toNat (by omega) (by omega)
              refine ⟨e, List.mem_cons_of_mem _ (List.mem_cons_of_mem _ e1), e3, s1, ?_, by rw [e2]; exact hs1⟩
              unfold sm_lo
              dsimp only
              obtain ⟨u1, u2⟩ := ab_tg_ok e5
              have e6 : offs[(zn ρ p - lo).toNat]? = some off := by rw [← Array.getElem?_toList]; exact e4
              unfold sm_tb
              dsimp only
              rw [ex, if_neg (by omega), e6]
              dsimp only
              unfold sm_jp
              rw [if_pos u1, u2]
      · cases h
    · cases h
  all_goals cases h
theorem z32_ne {z : Int} (h : z32 z) (h0 : ¬ z = 0) : ¬ Int32.ofInt z = 0 := fun q => h0 (by
  have := congrArg Int32.toInt q
  rw [z32_of h] at this
  exact this)
theorem z64_ne {z : Int} (h : z64 z) (h0 : ¬ z = 0) : ¬ Int64.ofInt z = 0 := fun q => h0 (by
  have := congrArg Int64.toInt q
  rw [z64_of h] at this
  exact this)
theorem zdv_ok (h0 : 0 < ρ.length) (hn : n = ρ.length) (hl : zL α ρ la lv) (hs : zS α ρ sa st) {i : Instr} (h : zdv i pc la sa n = some (as, ks, n', pc', la', sa')) (ha : ∀ a ∈ as, zas ro a.2.1 ρ a.2.2) : ∃ lv' st', sm_lo ml i pc lv st = some (pc', lv', st') ∧ zG α ρ ks n' la' sa' lv' st' ∧ ∃ k c p q, ks = [(k, c, [p, q])] ∧ (k = 0 ∨ k = 1) := by
  cases i
  case idiv =>
    unfold zdv at h
    dsimp only at h
    split at h
    · next q p r =>
      cases h
      obtain ⟨v1, s1, rfl, ⟨i1, i2, rfl⟩, hs1⟩ := zS_cons hs
      obtain ⟨v2, s2, rfl, ⟨j1, j2, rfl⟩, hs2⟩ := zS_cons hs1
      have f0 : ¬ zn ρ q = 0 := ha (7, 1, [q]) List.mem_cons_self
      subst hn
      refine ⟨lv, _, ?_, ⟨by unfold zxs; rw [List.length_append]; rfl, zL_app hl, zS_push (zR_newI h0 _) (zS_app hs2)⟩, 0, 9, p, q, rfl, Or.inl rfl⟩
      unfold sm_lo
      dsimp only
      unfold sm_iid
      dsimp only
      rw [if_neg (z32_ne i2 f0)]
      rfl
    · cases h
  case irem =>
    unfold zdv at h
    dsimp only at h
    split at h
    · next q p r =>
      cases h
      obtain ⟨v1, s1, rfl, ⟨i1, i2, rfl⟩, hs1⟩ := zS_cons hs
      obtain ⟨v2, s2, rfl, ⟨j1, j2, rfl⟩, hs2⟩ := zS_cons hs1
      have f0 : ¬ zn ρ q = 0 := ha (7, 1, [q]) List.mem_cons_self
      subst hn
      refine ⟨lv, _, ?_, ⟨by unfold zxs; rw [List.length_append]; rfl, zL_app hl, zS_push (zR_newI h0 _) (zS_app hs2)⟩, 0, 10, p, q, rfl, Or.inl rfl⟩
      unfold sm_lo
      dsimp only
      unfold sm_iid
      dsimp only
      rw [if_neg (z32_ne i2 f0)]
      rfl
    · cases h
  case ldiv =>
    unfold zdv at h
    dsimp only at h
    split at h
    · next q p r =>
      cases h
      obtain ⟨v1, s1, rfl, ⟨i1, i2, rfl⟩, hs1⟩ := zS_cons hs
      obtain ⟨v2, s2, rfl, ⟨j1, j2, rfl⟩, hs2⟩ := zS_cons hs1
      have f0 : ¬ zn ρ q = 0 := ha (7, 1, [q]) List.mem_cons_self
      subst hn
      refine ⟨lv, _, ?_, ⟨by unfold zxs; rw [List.length_append]; rfl, zL_app hl, zS_push (zR_newL h0 _) (zS_app hs2)⟩, 1, 9, p, q, rfl, Or.inr rfl⟩
      unfold sm_lo
      dsimp only
      unfold sm_lld
      dsimp only
      rw [if_neg (z64_ne i2 f0)]
      rfl
    · cases h
  case lrem =>
    unfold zdv at h
    dsimp only at h
    split at h
    · next q p r =>
      cases h
      obtain ⟨v1, s1, rfl, ⟨i1, i2, rfl⟩, hs1⟩ := zS_cons hs
      obtain ⟨v2, s2, rfl, ⟨j1, j2, rfl⟩, hs2⟩ := zS_cons hs1
      have f0 : ¬ zn ρ q = 0 := ha (7, 1, [q]) List.mem_cons_self
      subst hn
      refine ⟨lv, _, ?_, ⟨by unfold zxs; rw [List.length_append]; rfl, zL_app hl, zS_push (zR_newL h0 _) (zS_app hs2)⟩, 1, 10, p, q, rfl, Or.inr rfl⟩
      unfold sm_lo
      dsimp only
      unfold sm_lld
      dsimp only
      rw [if_neg (z64_ne i2 f0)]
      rfl
    · cases h
  all_goals cases h
theorem zrows_ok {a : Nat} {i : Nat × Int} {s : List ab_V} : ∀ {m j : Nat} {L : List (List zK × Nat × List ab_V)}, zrows rt a i pc s m j = some L → ∀ k : Nat, j ≤ k → k < j + m → zn ρ i = k → ∃ e ∈ L, zAlt ro ρ η e.1 ∧ e.2.1 = pc + 1 ∧ ∃ q, zrt rt a k = some q ∧ e.2.2 = .inr (.inr (.inl q)) :: s
  | 0, j, L, _, k, h1, h2, _ => by omega
  | m + 1, j, L, h, k, h1, h2, h3 => by
    unfold zrows at h
    split at h
    · next q l hq hl =>
      cases h
      by_cases e : k = j
      · subst e
        exact ⟨_, List.mem_cons_self, zAlt_c (by show zn ρ i = zn ρ (0, (k : Int)); rw [zn_c, h3]), rfl, q, hq, rfl⟩
      · obtain ⟨e, e1, e2⟩ := zrows_ok hl k (by omega) (by omega) h3
        exact ⟨e, List.mem_cons_of_mem _ e1, e2⟩
    · cases h
theorem zaa_ok (hs : zS α ρ sa st) (hh : zHp T α ra η h) (hsub : ∀ r j t, zrt rt r j = some t → zrt ra r j = some t) {L : List (List zK × Nat × List ab_V)} (hq : zaa T rt pc sa = some (as, L)) (ha : ∀ a ∈ as, zas ro a.2.1 ρ a.2.2) : ∃ e ∈ L, zAlt ro ρ η e.1 ∧ ∃ st', sm_al pc st h = some (e.2.1, st', h) ∧ zS α ρ e.2.2 st' := by
  unfold zaa at hq
  split at hq
  · next i a s =>
    obtain ⟨v1, s1, rfl, ⟨i1, i2, rfl⟩, hs1⟩ := zS_cons hs
    obtain ⟨v2, s2, rfl, h2, hs2⟩ := zS_cons hs1
    have h2 : v2 = _ := h2
    subst h2
    split at hq
    · next c hc =>
      cases hb : (Nat.beq c.1 104 && Nat.ble c.2.1 1000) with
      | false => rw [hb] at hq; cases hq
      | true =>
        rw [hb] at hq
        dsimp only [cond_true] at hq
        have k1 := Nat.eq_of_beq_eq_true ((Bool.and_eq_true _ _).mp hb).1
        split at hq
        · next l hl =>
          cases hq
          have f0 : 0 ≤ zn ρ i ∧ zn ρ i < (c.2.1 : Int) := ha (7, 0, [i, (0, (c.2.1 : Int))]) List.mem_cons_self
          obtain ⟨x1, x2⟩ := zix i2 f0.1 f0.2
          obtain ⟨q, g1, g2⟩ := hh a c hc
          have hj : (zn ρ i).toNat < c.2.1 := by omega
          obtain ⟨e, e1, e2, e3, q2, e4, e5⟩ := zrows_ok (ρ := ρ) (ro := ro) (η := η) hl (zn ρ i).toNat (Nat.zero_le _) (by omega) (by omega)
          have k2 : zty c (zn ρ i).toNat = 3 := by unfold zty; rw [k1]; rfl
          have e6 := (g2.2.2 _ hj).2 q2 (hsub _ _ _ e4) k2
          refine ⟨e, e1, e2, .ref (α q2) :: s2, ?_, by rw [e5]; exact zS_push (show zR α ρ (.inr (.inr (.inl q2))) (.ref (α q2)) from rfl) hs2⟩
          unfold sm_al
          dsimp only
          rw [g1]
          dsimp only
          rw [if_pos ⟨g2.1.trans k1, by rw [g2.2.1]; exact x1⟩, x2, List.getD_eq_getElem?_getD, e6, e3]
          rfl
        · cases hq
    · cases hq
  · cases hq
theorem zre_ok {rk : Nat} {i : Instr} {q : Nat × Int} (h0 : 0 < ρ.length) (hs : zS α ρ sa st) (h : zre rk i sa = some (as, q)) (ha : ∀ a ∈ as, zas ro a.2.1 ρ a.2.2) : ∃ v, sm_ret (ab_rt rk) i st = some v ∧ zres rk (zn ρ q) v := by
  unfold zre at h
  split at h
  · next q0 =>
    obtain ⟨v1, s1, rfl, ⟨i1, i2, rfl⟩, hs1⟩ := zS_cons hs
    cases s1 with
    | cons _ _ => exact hs1.elim
    | nil =>
      cases hb : Nat.beq rk 1 with
      | true =>
        rw [hb] at h
        cases h
        have := Nat.eq_of_beq_eq_true hb
        subst this
        refine ⟨_, ?_, rfl, i2⟩
        unfold sm_ret
        dsimp only
        exact if_pos (Or.inl rfl)
      | false =>
        rw [hb] at h
        dsimp only [cond_false] at h
        cases hb2 : Nat.beq rk 2 with
        | false => rw [hb2] at h; cases h
        | true =>
          rw [hb2] at h
          cases h
          have := Nat.eq_of_beq_eq_true hb2
          subst this
          have f0 : 0 ≤ zn ρ q ∧ zn ρ q ≤ 1 := ha (7, 2, [q]) List.mem_cons_self
          refine ⟨_, ?_, rfl, f0⟩
          unfold sm_ret
          dsimp only
          exact if_pos (Or.inr ⟨rfl, z01 f0.1 f0.2⟩)
  · next q0 =>
    obtain ⟨v1, s1, rfl, ⟨i1, i2, rfl⟩, hs1⟩ := zS_cons hs
    cases s1 with
    | cons _ _ => exact hs1.elim
    | nil =>
      cases hb : Nat.beq rk 3 with
      | false => rw [hb] at h; cases h
      | true =>
        rw [hb] at h
        cases h
        have := Nat.eq_of_beq_eq_true hb
        subst this
        refine ⟨_, ?_, rfl, i2⟩
        unfold sm_ret
        dsimp only
        exact if_pos rfl
  · cases st with
    | cons _ _ => exact hs.elim
    | nil =>
      cases hb : Nat.beq rk 0 with
      | false => rw [hb] at h; cases h
      | true =>
        rw [hb] at h
        cases h
        have := Nat.eq_of_beq_eq_true hb
        subst this
        refine ⟨none, ?_, rfl, rfl⟩
        unfold sm_ret
        dsimp only
        exact if_pos rfl
  · cases h
end ZBR
