/-! Steps that touch no cell. -/
abbrev zT : Type := Option (List zK × Nat × Nat × ab_L × List ab_V)
def zii (c pc : Nat) (la : ab_L) (sa : List ab_V) (n : Nat) : zT := match sa with
  | .inl q :: .inl p :: r => some ([(0, c, [p, q])], n + 1, pc + 1, la, .inl (n, 0) :: r)
  | _ => none
def zll (c pc : Nat) (la : ab_L) (sa : List ab_V) (n : Nat) : zT := match sa with
  | .inr (.inl q) :: .inr (.inl p) :: r => some ([(1, c, [p, q])], n + 1, pc + 1, la, .inr (.inl (n, 0)) :: r)
  | _ => none
def zi1 (c pc : Nat) (la : ab_L) (sa : List ab_V) (n : Nat) : zT := match sa with
  | .inl p :: r => some ([(0, c, [p, p])], n + 1, pc + 1, la, .inl (n, 0) :: r)
  | _ => none
def zlo (ml : Nat) (i : Instr) (pc : Nat) (la : ab_L) (sa : List ab_V) (n : Nat) : zT := match i with
  | .iload k => (match ab_lk la k with
    | some (.inl q) => some ([], n, pc + 2, la, .inl q :: sa)
    | _ => none)
  | .iload_n k => (match ab_lk la k.val with
    | some (.inl q) => some ([], n, pc + 1, la, .inl q :: sa)
    | _ => none)
  | .lload k => (match ab_lk la k with
    | some (.inr (.inl q)) => some ([], n, pc + 2, la, .inr (.inl q) :: sa)
    | _ => none)
  | .lload_n k => (match ab_lk la k.val with
    | some (.inr (.inl q)) => some ([], n, pc + 1, la, .inr (.inl q) :: sa)
    | _ => none)
  | .aload k => (match ab_lk la k with
    | some (.inr (.inr (.inl q))) => some ([], n, pc + 2, la, .inr (.inr (.inl q)) :: sa)
    | some (.inr (.inr (.inr (.inl q)))) => some ([], n, pc + 2, la, .inr (.inr (.inr (.inl q))) :: sa)
    | _ => none)
  | .aload_n k => (match ab_lk la k.val with
    | some (.inr (.inr (.inl q))) => some ([], n, pc + 1, la, .inr (.inr (.inl q)) :: sa)
    | some (.inr (.inr (.inr (.inl q)))) => some ([], n, pc + 1, la, .inr (.inr (.inr (.inl q))) :: sa)
    | _ => none)
  | .istore k => (match sa with
    | .inl q :: r => bif Nat.ble (k + 1) ml then some ([], n, pc + 2, ab_s1 la k (.inl q), r) else none
    | _ => none)
  | .istore_n k => (match sa with
    | .inl q :: r => bif Nat.ble (k.val + 1) ml then some ([], n, pc + 1, ab_s1 la k.val (.inl q), r) else none
    | _ => none)
  | .lstore k => (match sa with
    | .inr (.inl q) :: r => bif Nat.ble (k + 2) ml then some ([], n, pc + 2, ab_s2 la k (.inr (.inl q)), r) else none
    | _ => none)
  | .lstore_n k => (match sa with
    | .inr (.inl q) :: r => bif Nat.ble (k.val + 2) ml then some ([], n, pc + 1, ab_s2 la k.val (.inr (.inl q)), r) else none
    | _ => none)
  | .astore k => (match sa with
    | .inr (.inr (.inl q)) :: r => bif Nat.ble (k + 1) ml then some ([], n, pc + 2, ab_s1 la k (.inr (.inr (.inl q))), r) else none
    | _ => none)
  | .astore_n k => (match sa with
    | .inr (.inr (.inl q)) :: r => bif Nat.ble (k.val + 1) ml then some ([], n, pc + 1, ab_s1 la k.val (.inr (.inr (.inl q))), r) else none
    | _ => none)
  | .iinc k d => (match ab_lk la k with
    | some (.inl q) => bif Nat.ble (k + 1) ml then some ([(0, 1, [q, (0, d)])], n + 1, pc + 3, ab_s1 la k (.inl (n, 0)), sa) else none
    | _ => none)
  | .iconst z => bif ab_ile (-128) z && ab_ile z 127 then some ([], n, pc + 1, la, .inl (0, z) :: sa) else none
  | .bipush z => bif ab_ile (-128) z && ab_ile z 127 then some ([], n, pc + 2, la, .inl (0, z) :: sa) else none
  | .sipush z => bif ab_ile (-32768) z && ab_ile z 32767 then some ([], n, pc + 3, la, .inl (0, z) :: sa) else none
  | .lconst z => some ([], n, pc + 1, la, .inr (.inl (0, (z.val : Int))) :: sa)
  | .iadd => zii 1 pc la sa n
  | .isub => zii 2 pc la sa n
  | .imul => zii 3 pc la sa n
  | .iand => zii 4 pc la sa n
  | .ior => zii 5 pc la sa n
  | .ishl => zii 6 pc la sa n
  | .ishr => zii 7 pc la sa n
  | .iushr => zii 8 pc la sa n
  | .ladd => zll 1 pc la sa n
  | .lsub => zll 2 pc la sa n
  | .lmul => zll 3 pc la sa n
  | .land => zll 4 pc la sa n
  | .ineg => zi1 11 pc la sa n
  | .i2b => zi1 12 pc la sa n
  | .i2c => zi1 13 pc la sa n
  | .lneg => (match sa with
    | .inr (.inl p) :: r => some ([(1, 11, [p, p])], n + 1, pc + 1, la, .inr (.inl (n, 0)) :: r)
    | _ => none)
  | .i2l => (match sa with
    | .inl p :: r => some ([], n, pc + 1, la, .inr (.inl p) :: r)
    | _ => none)
  | .l2i => (match sa with
    | .inr (.inl p) :: r => some ([(2, 0, [p, p])], n + 1, pc + 1, la, .inl (n, 0) :: r)
    | _ => none)
  | .lcmp => (match sa with
    | .inr (.inl q) :: .inr (.inl p) :: r => some ([(3, 0, [p, q])], n + 1, pc + 1, la, .inl (n, 0) :: r)
    | _ => none)
  | .dup => (match sa with
    | v :: r => bif ab_is2 v then none else some ([], n, pc + 1, la, v :: v :: r)
    | _ => none)
  | .pop => (match sa with
    | v :: r => bif ab_is2 v then none else some ([], n, pc + 1, la, r)
    | _ => none)
  | .pop2 => (match sa with
    | v :: r => bif ab_is2 v then some ([], n, pc + 1, la, r) else none
    | _ => none)
  | .dup2 => (match sa with
    | v :: r => bif ab_is2 v then some ([], n, pc + 1, la, v :: v :: r) else (match r with
      | w :: r2 => bif ab_is2 w then none else some ([], n, pc + 1, la, v :: w :: v :: w :: r2)
      | _ => none)
    | _ => none)
  | .goto off => bif ab_ile 0 ((pc : Int) + off) then some ([], n, ((pc : Int) + off).toNat, la, sa) else none
  | _ => none
/-- the numbers that a making adds -/
def zxs (ρ : List Int) (ks : List zK) : List Int := match ks with
  | (k, c, [p, q]) :: _ => [zd k c (zn ρ p) (zn ρ q)]
  | _ => []
section ZLO
variable {α : Nat → Nat} {ρ : List Int} {la la' : ab_L} {lv : sm_L} {sa sa' : List ab_V} {st : List Value} {n n' pc pc' ml : Nat} {ks : List zK}
theorem zn_new {x : Int} (h0 : 0 < ρ.length) : zn (ρ ++ [x]) (ρ.length, 0) = x := by
  unfold zn
  rw [show Nat.beq (ρ.length, (0 : Int)).1 0 = false from Bool.eq_false_iff.mpr (fun q => by have := Nat.eq_of_beq_eq_true q; dsimp only at this; omega)]
  exact ab_getD_new
def zG (α : Nat → Nat) (ρ : List Int) (ks : List zK) (n' : Nat) (la' : ab_L) (sa' : List ab_V) (lv' : sm_L) (st' : List Value) : Prop := n' = (ρ ++ zxs ρ ks).length ∧ zL α (ρ ++ zxs ρ ks) la' lv' ∧ zS α (ρ ++ zxs ρ ks) sa' st'
theorem zS_push {a : ab_V} {v : Value} (h : zR α ρ a v) (hs : zS α ρ sa st) : zS α ρ (a :: sa) (v :: st) := ⟨h, hs⟩
theorem zG0 (hn : n = ρ.length) {lv' : sm_L} {st' : List Value} (hl : zL α ρ la' lv') (hs : zS α ρ sa' st') : zG α ρ [] n la' sa' lv' st' := by
  unfold zG zxs
  rw [List.append_nil]
  exact ⟨hn, hl, hs⟩
theorem zR_newI (h0 : 0 < ρ.length) (x : Int32) : zR α (ρ ++ [x.toInt]) (.inl (ρ.length, 0)) (.int x) := by
  refine ⟨by rw [List.length_append]; exact Nat.lt_succ_self _, by rw [zn_new h0]; exact z32_to x, ?_⟩
  rw [zn_new h0, Int32.ofInt_toInt]
theorem zR_newL (h0 : 0 < ρ.length) (x : Int64) : zR α (ρ ++ [x.toInt]) (.inr (.inl (ρ.length, 0))) (.long x) := by
  refine ⟨by rw [List.length_append]; exact Nat.lt_succ_self _, by rw [zn_new h0]; exact z64_to x, ?_⟩
  rw [zn_new h0, Int64.ofInt_toInt]
theorem zii_ok (h0 : 0 < ρ.length) (hn : n = ρ.length) (hl : zL α ρ la lv) (hs : zS α ρ sa st) {c : Nat} (h : zii c pc la sa n = some (ks, n', pc', la', sa')) : ∃ lv' st', sm_ii (zf c) (pc + 1) lv st = some (pc', lv', st') ∧ zG α ρ ks n' la' sa' lv' st' := by
  unfold zii at h
  split at h
  · next q p r =>
    cases h
    obtain ⟨v1, s1, rfl, ⟨_, _, rfl⟩, hs1⟩ := zS_cons hs
    obtain ⟨v2, s2, rfl, ⟨_, _, rfl⟩, hs2⟩ := zS_cons hs1
    subst hn
    exact ⟨lv, _, rfl, by unfold zxs; rw [List.length_append]; rfl, zL_app hl, zR_newI h0 _, zS_app hs2⟩
  · cases h
theorem zll_ok (h0 : 0 < ρ.length) (hn : n = ρ.length) (hl : zL α ρ la lv) (hs : zS α ρ sa st) {c : Nat} (h : zll c pc la sa n = some (ks, n', pc', la', sa')) : ∃ lv' st', sm_ll (zg c) (pc + 1) lv st = some (pc', lv', st') ∧ zG α ρ ks n' la' sa' lv' st' := by
  unfold zll at h
  split at h
  · next q p r =>
    cases h
    obtain ⟨v1, s1, rfl, ⟨_, _, rfl⟩, hs1⟩ := zS_cons hs
    obtain ⟨v2, s2, rfl, ⟨_, _, rfl⟩, hs2⟩ := zS_cons hs1
    subst hn
    exact ⟨lv, _, rfl, by unfold zxs; rw [List.length_append]; rfl, zL_app hl, zR_newL h0 _, zS_app hs2⟩
  · cases h
theorem zi1_ok (h0 : 0 < ρ.length) (hn : n = ρ.length) (hl : zL α ρ la lv) (hs : zS α ρ sa st) {c : Nat} (h : zi1 c pc la sa n = some (ks, n', pc', la', sa')) : ∃ lv' st', sm_i1 (fun x => .int (zf c x x)) (pc + 1) lv st = some (pc', lv', st') ∧ zG α ρ ks n' la' sa' lv' st' := by
  unfold zi1 at h
  split at h
  · next p r =>
    cases h
    obtain ⟨v1, s1, rfl, ⟨_, _, rfl⟩, hs1⟩ := zS_cons hs
    subst hn
    exact ⟨lv, _, rfl, by unfold zxs; rw [List.length_append]; rfl, zL_app hl, zR_newI h0 _, zS_app hs1⟩
  · cases h
theorem zlo_ok (h0 : 0 < ρ.length) (hn : n = ρ.length) (hl : zL α ρ la lv) (hs : zS α ρ sa st) {i : Instr} (h : zlo ml i pc la sa n = some (ks, n', pc', la', sa')) : ∃ lv' st', sm_lo ml i pc lv st = some (pc', lv', st') ∧ zG α ρ ks n' la' sa' lv' st' := by
  cases i
  case iload k =>
    unfold zlo at h
    dsimp only at h
    split at h
    · next q hq =>
      cases h
      obtain ⟨v, h1, h2⟩ := zL_lk hl hq
      have h3 := h2
      obtain ⟨_, _, rfl⟩ := h2
      refine ⟨lv, _, ?_, zG0 hn hl (zS_push h3 hs)⟩
      show sm_ldI lv k (pc + 2) st = _
      unfold sm_ldI
      rw [h1]
    · cases h
  case iload_n k =>
    unfold zlo at h
    dsimp only at h
    split at h
    · next q hq =>
      cases h
      obtain ⟨v, h1, h2⟩ := zL_lk hl hq
      have h3 := h2
      obtain ⟨_, _, rfl⟩ := h2
      refine ⟨lv, _, ?_, zG0 hn hl (zS_push h3 hs)⟩
      show sm_ldI lv k.val (pc + 1) st = _
      unfold sm_ldI
      rw [h1]
    · cases h
  case lload k =>
    unfold zlo at h
    dsimp only at h
    split at h
    · next q hq =>
      cases h
      obtain ⟨v, h1, h2⟩ := zL_lk hl hq
      have h3 := h2
      obtain ⟨_, _, rfl⟩ := h2
      refine ⟨lv, _, ?_, zG0 hn hl (zS_push h3 hs)⟩
      show sm_ldL lv k (pc + 2) st = _
      unfold sm_ldL
      rw [h1]
    · cases h
  case lload_n k =>
    unfold zlo at h
    dsimp only at h
    split at h
    · next q hq =>
      cases h
      obtain ⟨v, h1, h2⟩ := zL_lk hl hq
      have h3 := h2
      obtain ⟨_, _, rfl⟩ := h2
      refine ⟨lv, _, ?_, zG0 hn hl (zS_push h3 hs)⟩
      show sm_ldL lv k.val (pc + 1) st = _
      unfold sm_ldL
      rw [h1]
    · cases h
  case aload k =>
    unfold zlo at h
    dsimp only at h
    split at h
    · next q hq =>
      cases h
      obtain ⟨v, h1, h2⟩ := zL_lk hl hq
      have h3 := h2
      have h2 : v = _ := h2
      subst h2
      refine ⟨lv, _, ?_, zG0 hn hl (zS_push h3 hs)⟩
      show sm_ldA lv k (pc + 2) st = _
      unfold sm_ldA
      rw [h1]
    · next q hq =>
      cases h
      obtain ⟨v, h1, h2⟩ := zL_lk hl hq
      have h3 := h2
      have h2 : v = _ := h2
      subst h2
      refine ⟨lv, _, ?_, zG0 hn hl (zS_push h3 hs)⟩
      show sm_ldA lv k (pc + 2) st = _
      unfold sm_ldA
      rw [h1]
    · cases h
  case aload_n k =>
    unfold zlo at h
    dsimp only at h
    split at h
    · next q hq =>
      cases h
      obtain ⟨v, h1, h2⟩ := zL_lk hl hq
      have h3 := h2
      have h2 : v = _ := h2
      subst h2
      refine ⟨lv, _, ?_, zG0 hn hl (zS_push h3 hs)⟩
      show sm_ldA lv k.val (pc + 1) st = _
      unfold sm_ldA
      rw [h1]
    · next q hq =>
      cases h
      obtain ⟨v, h1, h2⟩ := zL_lk hl hq
      have h3 := h2
      have h2 : v = _ := h2
      subst h2
      refine ⟨lv, _, ?_, zG0 hn hl (zS_push h3 hs)⟩
      show sm_ldA lv k.val (pc + 1) st = _
      unfold sm_ldA
      rw [h1]
    · cases h
  case istore k =>
    unfold zlo at h
    dsimp only at h
    split at h
    · next q r =>
      cases hb : Nat.ble (k + 1) ml with
      | false => rw [hb] at h; cases h
      | true =>
        rw [hb] at h
        cases h
        obtain ⟨v1, s1, rfl, h2, hs1⟩ := zS_cons hs
        have h3 := h2
        obtain ⟨_, _, rfl⟩ := h2
        have h4 := Nat.ble_eq.mp hb
        refine ⟨_, s1, ?_, zG0 hn (zL_s1 hl h3) hs1⟩
        unfold sm_lo
        dsimp only
        unfold sm_stI
        dsimp only
        rw [if_pos (by omega)]
    · cases h
  case istore_n k =>
    unfold zlo at h
    dsimp only at h
    split at h
    · next q r =>
      cases hb : Nat.ble (k.val + 1) ml with
      | false => rw [hb] at h; cases h
      | true =>
        rw [hb] at h
        cases h
        obtain ⟨v1, s1, rfl, h2, hs1⟩ := zS_cons hs
        have h3 := h2
        obtain ⟨_, _, rfl⟩ := h2
        have h4 := Nat.ble_eq.mp hb
        refine ⟨_, s1, ?_, zG0 hn (zL_s1 hl h3) hs1⟩
        unfold sm_lo
        dsimp only
        unfold sm_stI
        dsimp only
        rw [if_pos (by omega)]
    · cases h
  case lstore k =>
    unfold zlo at h
    dsimp only at h
    split at h
    · next q r =>
      cases hb : Nat.ble (k + 2) ml with
      | false => rw [hb] at h; cases h
      | true =>
        rw [hb] at h
        cases h
        obtain ⟨v1, s1, rfl, h2, hs1⟩ := zS_cons hs
        have h3 := h2
        obtain ⟨_, _, rfl⟩ := h2
        have h4 := Nat.ble_eq.mp hb
        refine ⟨_, s1, ?_, zG0 hn (zL_s2 hl h3) hs1⟩
        unfold sm_lo
        dsimp only
        unfold sm_stL
        dsimp only
        rw [if_pos (by omega)]
    · cases h
  case lstore_n k =>
    unfold zlo at h
    dsimp only at h
    split at h
    · next q r =>
      cases hb : Nat.ble (k.val + 2) ml with
      | false => rw [hb] at h; cases h
      | true =>
        rw [hb] at h
        cases h
        obtain ⟨v1, s1, rfl, h2, hs1⟩ := zS_cons hs
        have h3 := h2
        obtain ⟨_, _, rfl⟩ := h2
        have h4 := Nat.ble_eq.mp hb
        refine ⟨_, s1, ?_, zG0 hn (zL_s2 hl h3) hs1⟩
        unfold sm_lo
        dsimp only
        unfold sm_stL
        dsimp only
        rw [if_pos (by omega)]
    · cases h
  case astore k =>
    unfold zlo at h
    dsimp only at h
    split at h
    · next q r =>
      cases hb : Nat.ble (k + 1) ml with
      | false => rw [hb] at h; cases h
      | true =>
        rw [hb] at h
        cases h
        obtain ⟨v1, s1, rfl, h2, hs1⟩ := zS_cons hs
        have h3 := h2
        have h2 : v1 = _ := h2
        subst h2
        have h4 := Nat.ble_eq.mp hb
        refine ⟨_, s1, ?_, zG0 hn (zL_s1 hl h3) hs1⟩
        unfold sm_lo
        dsimp only
        unfold sm_stA
        dsimp only
        rw [if_pos (by omega)]
    · cases h
  case astore_n k =>
    unfold zlo at h
    dsimp only at h
    split at h
    · next q r =>
      cases hb : Nat.ble (k.val + 1) ml with
      | false => rw [hb] at h; cases h
      | true =>
        rw [hb] at h
        cases h
        obtain ⟨v1, s1, rfl, h2, hs1⟩ := zS_cons hs
        have h3 := h2
        have h2 : v1 = _ := h2
        subst h2
        have h4 := Nat.ble_eq.mp hb
        refine ⟨_, s1, ?_, zG0 hn (zL_s1 hl h3) hs1⟩
        unfold sm_lo
        dsimp only
        unfold sm_stA
        dsimp only
        rw [if_pos (by omega)]
    · cases h
  case iinc k d =>
    unfold zlo at h
    dsimp only at h
    split at h
    · next q hq =>
      cases hb : Nat.ble (k + 1) ml with
      | false => rw [hb] at h; cases h
      | true =>
        rw [hb] at h
        cases h
        obtain ⟨v, h1, h2⟩ := zL_lk hl hq
        obtain ⟨g1, g2, rfl⟩ := h2
        have h4 := Nat.ble_eq.mp hb
        subst hn
        refine ⟨_, st, ?_, ?_, zL_s1 (zL_app hl) (zR_newI h0 _), zS_app hs⟩
        · show sm_inc ml lv k (pc + 3) d st = _
          unfold sm_inc
          rw [h1]
          dsimp only
          rw [if_pos (by omega)]
          rfl
        · show ρ.length + 1 = (ρ ++ [_]).length
          rw [List.length_append]
          rfl
    · cases h
  case iconst z =>
    unfold zlo at h
    dsimp only at h
    cases hb : (ab_ile (-128) z && ab_ile z 127) with
    | false => rw [hb] at h; cases h
    | true =>
      rw [hb] at h
      cases h
      have h1 := (Bool.and_eq_true _ _).mp hb
      have e1 := ab_ile_iff.mp h1.1
      have e2 := ab_ile_iff.mp h1.2
      exact ⟨lv, _, rfl, zG0 hn hl (zS_push ⟨h0, ⟨by show (-2147483648 : Int) ≤ z; omega, by show z ≤ 2147483647; omega⟩, rfl⟩ hs)⟩
  case bipush z =>
    unfold zlo at h
    dsimp only at h
    cases hb : (ab_ile (-128) z && ab_ile z 127) with
    | false => rw [hb] at h; cases h
    | true =>
      rw [hb] at h
      cases h
      have h1 := (Bool.and_eq_true _ _).mp hb
      have e1 := ab_ile_iff.mp h1.1
      have e2 := ab_ile_iff.mp h1.2
      refine ⟨lv, _, rfl, zG0 hn hl (zS_push ⟨h0, ⟨by show (-2147483648 : Int) ≤ z; omega, by show z ≤ 2147483647; omega⟩, ?_⟩ hs)⟩
      show Value.int ((Int8.ofInt z).toInt32) = .int (Int32.ofInt z)
      congr 1
      exact Int8.toInt32_ofInt (by simpa using e1) (by rw [show Int8.maxValue.toInt = 127 by decide]; exact e2)
  case sipush z =>
    unfold zlo at h
    dsimp only at h
    cases hb : (ab_ile (-32768) z && ab_ile z 32767) with
    | false => rw [hb] at h; cases h
    | true =>
      rw [hb] at h
      cases h
      have h1 := (Bool.and_eq_true _ _).mp hb
      have e1 := ab_ile_iff.mp h1.1
      have e2 := ab_ile_iff.mp h1.2
      refine ⟨lv, _, rfl, zG0 hn hl (zS_push ⟨h0, ⟨by show (-2147483648 : Int) ≤ z; omega, by show z ≤ 2147483647; omega⟩, ?_⟩ hs)⟩
      show Value.int ((Int16.ofInt z).toInt32) = .int (Int32.ofInt z)
      congr 1
      exact Int16.toInt32_ofInt (by simpa using e1) (by rw [show Int16.maxValue.toInt = 32767 by decide]; exact e2)
  case lconst z =>
    unfold zlo at h
    dsimp only at h
    cases h
    refine ⟨lv, _, rfl, zG0 hn hl (zS_push ⟨h0, ⟨by show (-9223372036854775808 : Int) ≤ (z.val : Int); omega, by show (z.val : Int) ≤ 9223372036854775807; have := z.isLt; omega⟩, ?_⟩ hs)⟩
    show Value.long (Int64.ofNat z.val) = .long (Int64.ofInt (z.val : Int))
    rfl
  case iadd => exact zii_ok h0 hn hl hs h
  case isub => exact zii_ok h0 hn hl hs h
  case imul => exact zii_ok h0 hn hl hs h
  case iand => exact zii_ok h0 hn hl hs h
  case ior => exact zii_ok h0 hn hl hs h
  case ishl => exact zii_ok h0 hn hl hs h
  case ishr => exact zii_ok h0 hn hl hs h
  case iushr => exact zii_ok h0 hn hl hs h
  case ladd => exact zll_ok h0 hn hl hs h
  case lsub => exact zll_ok h0 hn hl hs h
  case lmul => exact zll_ok h0 hn hl hs h
  case land => exact zll_ok h0 hn hl hs h
  case ineg => exact zi1_ok h0 hn hl hs h
  case i2b => exact zi1_ok h0 hn hl hs h
  case i2c => exact zi1_ok h0 hn hl hs h
  case lneg =>
    unfold zlo at h
    dsimp only at h
    split at h
    · next p r =>
      cases h
      obtain ⟨v1, s1, rfl, h2, hs1⟩ := zS_cons hs
      obtain ⟨g1, g2, rfl⟩ := h2
      subst hn
      exact ⟨lv, _, rfl, by unfold zxs; rw [List.length_append]; rfl, zL_app hl, zR_newL h0 _, zS_app hs1⟩
    · cases h
  case l2i =>
    unfold zlo at h
    dsimp only at h
    split at h
    · next p r =>
      cases h
      obtain ⟨v1, s1, rfl, h2, hs1⟩ := zS_cons hs
      obtain ⟨g1, g2, rfl⟩ := h2
      subst hn
      exact ⟨lv, _, rfl, by unfold zxs; rw [List.length_append]; rfl, zL_app hl, zR_newI h0 _, zS_app hs1⟩
    · cases h
  case i2l =>
    unfold zlo at h
    dsimp only at h
    split at h
    · next p r =>
      cases h
      obtain ⟨v1, s1, rfl, h2, hs1⟩ := zS_cons hs
      obtain ⟨g1, g2, rfl⟩ := h2
      refine ⟨lv, _, rfl, zG0 hn hl (zS_push ⟨g1, z32_64 g2, ?_⟩ hs1)⟩
      show Value.long (Int32.ofInt (zn ρ p)).toInt64 = _
      congr 1
      apply Int64.toInt_inj.mp
      rw [Int32.toInt_toInt64, z32_of g2, z64_of (z32_64 g2)]
    · cases h
  case lcmp =>
    unfold zlo at h
    dsimp only at h
    split at h
    · next q p r =>
      cases h
      obtain ⟨v1, s1, rfl, h2, hs1⟩ := zS_cons hs
      obtain ⟨v2, s2, rfl, h3, hs2⟩ := zS_cons hs1
      obtain ⟨g1, g2, rfl⟩ := h2
      obtain ⟨g3, g4, rfl⟩ := h3
      subst hn
      exact ⟨lv, _, rfl, by unfold zxs; rw [List.length_append]; rfl, zL_app hl, zR_newI h0 _, zS_app hs2⟩
    · cases h
  case dup =>
    unfold zlo at h
    dsimp only at h
    split at h
    · next v r =>
      obtain ⟨v1, s1, rfl, h2, hs1⟩ := zS_cons hs
      cases hb : ab_is2 v with
      | true => rw [hb] at h; cases h
      | false =>
        rw [hb] at h
        cases h
        refine ⟨lv, v1 :: v1 :: s1, ?_, zG0 hn hl (zS_push h2 (zS_push h2 hs1))⟩
        show sm_du (pc + 1) lv (v1 :: s1) = _
        unfold sm_du
        dsimp only
        rw [if_pos (zR_cat1 h2 hb)]
    · cases h
  case pop =>
    unfold zlo at h
    dsimp only at h
    split at h
    · next v r =>
      obtain ⟨v1, s1, rfl, h2, hs1⟩ := zS_cons hs
      cases hb : ab_is2 v with
      | true => rw [hb] at h; cases h
      | false =>
        rw [hb] at h
        cases h
        refine ⟨lv, s1, ?_, zG0 hn hl hs1⟩
        show sm_po (pc + 1) lv (v1 :: s1) = _
        unfold sm_po
        dsimp only
        rw [if_pos (zR_cat1 h2 hb)]
    · cases h
  case pop2 =>
    unfold zlo at h
    dsimp only at h
    split at h
    · next v r =>
      obtain ⟨v1, s1, rfl, h2, hs1⟩ := zS_cons hs
      cases hb : ab_is2 v with
      | false => rw [hb] at h; cases h
      | true =>
        rw [hb] at h
        cases h
        refine ⟨lv, s1, ?_, zG0 hn hl hs1⟩
        show sm_p2 (pc + 1) lv (v1 :: s1) = _
        unfold sm_p2
        dsimp only
        rw [if_pos (zR_cat2 h2 hb)]
    · cases h
  case dup2 =>
    unfold zlo at h
    dsimp only at h
    split at h
    · next v r =>
      obtain ⟨v1, s1, rfl, h2, hs1⟩ := zS_cons hs
      cases hb : ab_is2 v with
      | true =>
        rw [hb] at h
        cases h
        refine ⟨lv, v1 :: v1 :: s1, ?_, zG0 hn hl (zS_push h2 (zS_push h2 hs1))⟩
        show sm_d2 (pc + 1) lv (v1 :: s1) = _
        unfold sm_d2
        dsimp only
        rw [if_pos (zR_cat2 h2 hb)]
      | false =>
        rw [hb] at h
        dsimp only [cond_false] at h
        split at h
        · next w r2 =>
          obtain ⟨v3, s3, rfl, h3, hs3⟩ := zS_cons hs1
          cases hb2 : ab_is2 w with
          | true => rw [hb2] at h; cases h
          | false =>
            rw [hb2] at h
            cases h
            have c1 := zR_cat1 h2 hb
            have c2 := zR_cat1 h3 hb2
            refine ⟨lv, v1 :: v3 :: v1 :: v3 :: s3, ?_, zG0 hn hl (zS_push h2 (zS_push h3 (zS_push h2 (zS_push h3 hs3))))⟩
            show sm_d2 (pc + 1) lv (v1 :: v3 :: s3) = _
            unfold sm_d2
            dsimp only
            rw [if_neg (by omega), if_pos ⟨c1, c2⟩]
        · cases h
    · cases h
  case goto off =>
    unfold zlo at h
    dsimp only at h
    cases hb : ab_ile 0 ((pc : Int) + off) with
    | false => rw [hb] at h; cases h
    | true =>
      rw [hb] at h
      cases h
      refine ⟨lv, st, ?_, zG0 hn hl hs⟩
      show sm_jp pc off lv st = _
      unfold sm_jp
      rw [if_pos (ab_ile_iff.mp hb)]
  all_goals cases h
end ZLO
