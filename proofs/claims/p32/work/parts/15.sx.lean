/-! The small machine whole: a method's run, calls and all. -/
/-- a method: its name, bytes, how many locals, what it answers, how many it is given, how it is called (0 static, 1 virtual, 2 a maker), its kind of object -/
abbrev sm_M : Type := MethodName × ByteArray × Nat × Option FieldType × Nat × Nat × Nat
abbrev sm_P : Type := Nat → Option sm_M
abbrev sm_K : Type := Nat → Nat → Option (Instr × Nat × List Nat)
abbrev sm_X : Type := Nat → Instr → List Nat → List Value → List sm_C → Option (List Value × List sm_C × Nat × Nat)
abbrev sm_O : Type := Option (Option Value × List sm_C × Nat × Nat)
def sm_ret (rt : Option FieldType) (i : Instr) (st : List Value) : Option (Option Value) := match i, st with
  | .ireturn, [.int x] => if rt = some .int ∨ (rt = some .boolean ∧ (x = 0 ∨ x = 1)) then some (some (.int x)) else none
  | .lreturn, [.long x] => if rt = some .long then some (some (.long x)) else none
  | .return_, [] => if rt = none then some none else none
  | _, _ => none
/-- a call: which method, what it is given, what stays below -/
def sm_cl (P : sm_P) (i : Instr) (dt : List Nat) (st : List Value) (h : List sm_C) : Option (Nat × sm_M × List Value × List Value) := match dt with
  | [mid] => match P mid with
    | none => none
    | some M => match i with
      | .invokestatic _ => if M.2.2.2.2.2.1 = 0 ∧ M.2.2.2.2.1 ≤ st.length then some (mid, M, (st.take M.2.2.2.2.1).reverse, st.drop M.2.2.2.2.1) else none
      | .invokevirtual _ => match st.drop M.2.2.2.2.1 with
        | .ref b :: r => match h[b]? with
          | some q => if M.2.2.2.2.2.1 = 1 ∧ q.1 = M.2.2.2.2.2.2 ∧ q.1 < 100 then some (mid, M, .ref b :: (st.take M.2.2.2.2.1).reverse, r) else none
          | none => none
        | _ => none
      | .invokespecial _ => match st.drop M.2.2.2.2.1 with
        | .ref b :: r => if M.2.2.2.2.2.1 = 2 then some (mid, M, .ref b :: (st.take M.2.2.2.2.1).reverse, r) else none
        | _ => none
      | _ => none
  | _ => none
def sx (P : sm_P) (K : sm_K) (df : Nat → List Value) (ro : Nat → List Int32) (X : sm_X) : Nat → Nat → Nat → Nat → sm_L → List Value → List sm_C → Nat → Nat → sm_O
  | 0, _, _, _, _, _, _, _, _ => none
  | n + 1, d, mid, pc, lv, st, h, c, s => match P mid with
    | none => none
    | some M => match K mid pc with
      | none => none
      | some (i, _, dt) => match sm_ret M.2.2.2.1 i st with
        | some v => some (v, h, c, s)
        | none => match sm_lo M.2.2.1 i pc lv st with
          | some (pc', lv', st') => sx P K df ro X n d mid pc' lv' st' h c s
          | none => match sm_hp ro i dt pc st h with
            | some (pc', st', h') => sx P K df ro X n d mid pc' lv st' h' c s
            | none => match sm_mk df i dt pc lv st h with
              | some (pc', st', h', dc, ds) => sx P K df ro X n d mid pc' lv st' h' (c + dc) (s + ds)
              | none => match X d i dt st h with
                | some (st', h', dc, ds) => sx P K df ro X n d mid (pc + 3) lv st' h' (c + dc) (s + ds)
                | none => match sm_cl P i dt st h with
                  | none => none
                  | some (mid', M', as, r) => match d with
                    | 0 => none
                    | d' + 1 => if (r.map fun v => v.category).sum ≤ 8 ∧ (lg_sl as).length ≤ M'.2.2.1 ∧ M'.2.2.1 ≤ 45 then
                        match sx P K df ro X n d' mid' 0 (lv_args 0 as) [] h 0 0 with
                        | none => none
                        | some (v, h', dc, ds) => if h'.length = h.length ∨ (sm_bs h.length r = true ∧ sm_bl h.length lv = true) then sx P K df ro X n (d' + 1) mid (pc + 3) lv (v.toList ++ r) h' (c + dc) (s + ds) else none
                      else none
theorem sx_mono {P : sm_P} {K : sm_K} {df : Nat → List Value} {ro : Nat → List Int32} {X : sm_X} : ∀ (n d mid pc : Nat) (lv : sm_L) (st : List Value) (h : List sm_C) (c s : Nat) {v : Option Value} {h' : List sm_C} {c' s' : Nat}, sx P K df ro X n d mid pc lv st h c s = some (v, h', c', s') → c ≤ c' ∧ s ≤ s'
  | 0, _, _, _, _, _, _, _, _, _, _, _, _, q => by cases q
  | n + 1, d, mid, pc, lv, st, h, c, s, v, h', c', s', q => by
    unfold sx at q
    split at q
    · cases q
    · split at q
      · cases q
      · split at q
        · cases q
          exact ⟨Nat.le_refl _, Nat.le_refl _⟩
        · split at q
          · exact sx_mono n _ _ _ _ _ _ _ _ q
          · split at q
            · exact sx_mono n _ _ _ _ _ _ _ _ q
            · split at q
              · have h1 := sx_mono n _ _ _ _ _ _ _ _ q
                omega
              · split at q
                · have h1 := sx_mono n _ _ _ _ _ _ _ _ q
                  omega
                · split at q
                  · cases q
                  · split at q
                    · cases q
                    · split at q
                      · split at q
                        · cases q
                        · split at q
                          · have h1 := sx_mono n _ _ _ _ _ _ _ _ q
                            omega
                          · cases q
                      · cases q
