/-! Runs of the small machine that come to an end. -/
section EVA
variable {P : sm_P} {K : sm_K} {df : Nat → List Value} {ro : Nat → List Int32} {X : sm_X}
theorem sx_more : ∀ (n d mid pc : Nat) (lv : sm_L) (st : List Value) (h : List sm_C) (c s : Nat) {r : Option Value × List sm_C × Nat × Nat}, sx P K df ro X n d mid pc lv st h c s = some r → sx P K df ro X (n + 1) d mid pc lv st h c s = some r
  | 0, _, _, _, _, _, _, _, _, _, q => by cases q
  | n + 1, d, mid, pc, lv, st, h, c, s, r, q => by
    rw [sx] at q ⊢
    split at q
    · cases q
    · next M hM =>
      try rw [hM]
      try dsimp only
      split at q
      · cases q
      · next i len dt hk =>
        try rw [hk]
        try dsimp only
        split at q
        · next v hv => (try rw [hv]); exact q
        · next hv =>
          try rw [hv]
          try dsimp only
          split at q
          · next a b c0 h1 => (try rw [h1]); exact sx_more n _ _ _ _ _ _ _ _ q
          · next h1 =>
            try rw [h1]
            try dsimp only
            split at q
            · next a b c0 h2 => (try rw [h2]); exact sx_more n _ _ _ _ _ _ _ _ q
            · next h2 =>
              try rw [h2]
              try dsimp only
              split at q
              · next a b c0 d0 e0 h3 => (try rw [h3]); exact sx_more n _ _ _ _ _ _ _ _ q
              · next h3 =>
                try rw [h3]
                try dsimp only
                split at q
                · next a b c0 d0 h4 => (try rw [h4]); exact sx_more n _ _ _ _ _ _ _ _ q
                · next h4 =>
                  try rw [h4]
                  try dsimp only
                  split at q
                  · cases q
                  · next mid' M' as r0 h5 =>
                    try rw [h5]
                    try dsimp only
                    cases d with
                    | zero => cases q
                    | succ d =>
                      dsimp only at q ⊢
                      split at q
                      · next h6 =>
                        rw [if_pos h6]
                        split at q
                        · cases q
                        · next v h' dc ds h7 =>
                          rw [sx_more n _ _ _ _ _ _ _ _ h7]
                          try dsimp only
                          split at q
                          · next h8 =>
                            rw [if_pos h8]
                            exact sx_more n _ _ _ _ _ _ _ _ q
                          · cases q
                      · cases q
theorem sx_up {n m d mid pc : Nat} {lv : sm_L} {st : List Value} {h : List sm_C} {c s : Nat} {r : Option Value × List sm_C × Nat × Nat} (hq : sx P K df ro X n d mid pc lv st h c s = some r) (hm : n ≤ m) : sx P K df ro X m d mid pc lv st h c s = some r := by
  obtain ⟨k, rfl⟩ := Nat.exists_eq_add_of_le hm
  induction k with
  | zero => exact hq
  | succ k ih => exact sx_more _ _ _ _ _ _ _ _ _ (ih (Nat.le_add_right _ _))
end EVA
theorem sm_lo_not {ml : Nat} {i : Instr} {pc : Nat} {lv : sm_L} {st : List Value} {q : Nat × sm_L × List Value} {rt : Option FieldType} (h : sm_lo ml i pc lv st = some q) : sm_ret rt i st = none := by
  cases i <;> first | rfl | (cases h; done) | skip
theorem sm_hp_not {ro : Nat → List Int32} {i : Instr} {dt : List Nat} {pc : Nat} {st : List Value} {h : List sm_C} {q : Nat × List Value × List sm_C} {rt : Option FieldType} {ml : Nat} {lv : sm_L} (hq : sm_hp ro i dt pc st h = some q) : sm_ret rt i st = none ∧ sm_lo ml i pc lv st = none := by
  cases i <;> first | exact ⟨rfl, rfl⟩ | (cases hq; done)
theorem sm_mk_not {df : Nat → List Value} {ro : Nat → List Int32} {i : Instr} {dt : List Nat} {pc : Nat} {st : List Value} {h : List sm_C} {q : Nat × List Value × List sm_C × Nat × Nat} {rt : Option FieldType} {ml : Nat} {lv : sm_L} (hq : sm_mk df i dt pc lv st h = some q) : sm_ret rt i st = none ∧ sm_lo ml i pc lv st = none ∧ sm_hp ro i dt pc st h = none := by
  cases i <;> first | exact ⟨rfl, rfl, rfl⟩ | (cases hq; done)
def sm_inv (i : Instr) : Bool := match i with
  | .invokestatic _ => true
  | .invokevirtual _ => true
  | .invokespecial _ => true
  | _ => false
theorem sm_inv_not {df : Nat → List Value} {ro : Nat → List Int32} {i : Instr} {dt : List Nat} {pc : Nat} {st : List Value} {h : List sm_C} {rt : Option FieldType} {ml : Nat} {lv : sm_L} (hq : sm_inv i = true) : sm_ret rt i st = none ∧ sm_lo ml i pc lv st = none ∧ sm_hp ro i dt pc st h = none ∧ sm_mk df i dt pc lv st h = none := by
  cases i <;> first | exact ⟨rfl, rfl, rfl, rfl⟩ | (cases hq; done)
abbrev ev_F : Type := Option Value → List sm_C → Nat → Nat → Prop
/-- it comes to an end, and so -/
def ev (P : sm_P) (K : sm_K) (df : Nat → List Value) (ro : Nat → List Int32) (X : sm_X) (d mid pc : Nat) (lv : sm_L) (st : List Value) (h : List sm_C) (c s : Nat) (F : ev_F) : Prop := ∃ n v h' c' s', sx P K df ro X n d mid pc lv st h c s = some (v, h', c', s') ∧ F v h' c' s'
section EVB
variable {P : sm_P} {K : sm_K} {df : Nat → List Value} {ro : Nat → List Int32} {X : sm_X} {d mid pc : Nat} {lv : sm_L} {st : List Value} {h : List sm_C} {c s : Nat} {F : ev_F} {M : sm_M} {i : Instr} {len : Nat} {dt : List Nat}
theorem ev_ret (hM : P mid = some M) (hk : K mid pc = some (i, len, dt)) {v : Option Value} (hr : sm_ret M.2.2.2.1 i st = some v) (hF : F v h c s) : ev P K df ro X d mid pc lv st h c s F := ⟨1, v, h, c, s, by rw [sx, hM]; dsimp only; rw [hk]; dsimp only; rw [hr], hF⟩
theorem ev_lo (hM : P mid = some M) (hk : K mid pc = some (i, len, dt)) {pc' : Nat} {lv' : sm_L} {st' : List Value} (hr : sm_lo M.2.2.1 i pc lv st = some (pc', lv', st')) (hF : ev P K df ro X d mid pc' lv' st' h c s F) : ev P K df ro X d mid pc lv st h c s F := by
  obtain ⟨n, v, h', c', s', h1, h2⟩ := hF
  exact ⟨n + 1, v, h', c', s', by rw [sx, hM]; dsimp only; rw [hk]; dsimp only; rw [sm_lo_not hr, hr]; exact h1, h2⟩
theorem ev_hp (hM : P mid = some M) (hk : K mid pc = some (i, len, dt)) {pc' : Nat} {st' : List Value} {h1 : List sm_C} (hr : sm_hp ro i dt pc st h = some (pc', st', h1)) (hF : ev P K df ro X d mid pc' lv st' h1 c s F) : ev P K df ro X d mid pc lv st h c s F := by
  obtain ⟨n, v, h', c', s', g1, g2⟩ := hF
  obtain ⟨a1, a2⟩ := sm_hp_not (rt := M.2.2.2.1) (ml := M.2.2.1) (lv := lv) hr
  exact ⟨n + 1, v, h', c', s', by rw [sx, hM]; dsimp only; rw [hk]; dsimp only; rw [a1, a2, hr]; exact g1, g2⟩
theorem ev_mk (hM : P mid = some M) (hk : K mid pc = some (i, len, dt)) {pc' : Nat} {st' : List Value} {h1 : List sm_C} {dc ds : Nat} (hr : sm_mk df i dt pc lv st h = some (pc', st', h1, dc, ds)) (hF : ev P K df ro X d mid pc' lv st' h1 (c + dc) (s + ds) F) : ev P K df ro X d mid pc lv st h c s F := by
  obtain ⟨n, v, h', c', s', g1, g2⟩ := hF
  obtain ⟨a1, a2, a3⟩ := sm_mk_not (ro := ro) (rt := M.2.2.2.1) (ml := M.2.2.1) hr
  exact ⟨n + 1, v, h', c', s', by rw [sx, hM]; dsimp only; rw [hk]; dsimp only; rw [a1, a2, a3, hr]; exact g1, g2⟩
theorem ev_x (hM : P mid = some M) (hk : K mid pc = some (i, len, dt)) (hi : sm_inv i = true) {st' : List Value} {h1 : List sm_C} {dc ds : Nat} (hr : X d i dt st h = some (st', h1, dc, ds)) (hF : ev P K df ro X d mid (pc + 3) lv st' h1 (c + dc) (s + ds) F) : ev P K df ro X d mid pc lv st h c s F := by
  obtain ⟨n, v, h', c', s', g1, g2⟩ := hF
  obtain ⟨a1, a2, a3, a4⟩ := sm_inv_not (df := df) (ro := ro) (dt := dt) (pc := pc) (st := st) (h := h) (rt := M.2.2.2.1) (ml := M.2.2.1) (lv := lv) hi
  exact ⟨n + 1, v, h', c', s', by rw [sx, hM]; dsimp only; rw [hk]; dsimp only; rw [a1, a2, a3, a4, hr]; exact g1, g2⟩
theorem ev_call (hM : P mid = some M) (hk : K mid pc = some (i, len, dt)) (hi : sm_inv i = true) (hx : X (d + 1) i dt st h = none) {mid' : Nat} {M' : sm_M} {as r : List Value} (hcl : sm_cl P i dt st h = some (mid', M', as, r)) (hck : (r.map fun v => v.category).sum ≤ 8 ∧ (lg_sl as).length ≤ M'.2.2.1 ∧ M'.2.2.1 ≤ 45) (hbd : sm_bs h.length r = true ∧ sm_bl h.length lv = true)
    (hF : ev P K df ro X d mid' 0 (lv_args 0 as) [] h 0 0 (fun v h' dc ds => ev P K df ro X (d + 1) mid (pc + 3) lv (v.toList ++ r) h' (c + dc) (s + ds) F)) : ev P K df ro X (d + 1) mid pc lv st h c s F := by
  obtain ⟨n, v, h', dc, ds, g1, n2, v2, h2, c2, s2, g2, g3⟩ := hF
  obtain ⟨a1, a2, a3, a4⟩ := sm_inv_not (df := df) (ro := ro) (dt := dt) (pc := pc) (st := st) (h := h) (rt := M.2.2.2.1) (ml := M.2.2.1) (lv := lv) hi
  refine ⟨(n + n2) + 1, v2, h2, c2, s2, ?_, g3⟩
  rw [sx, hM]
  dsimp only
  rw [hk]
  dsimp only
  rw [a1, a2, a3, a4, hx, hcl]
  dsimp only
  rw [if_pos hck, sx_up g1 (Nat.le_add_right n n2)]
  dsimp only
  rw [if_pos (Or.inr hbd)]
  exact sx_up g2 (Nat.le_add_left n2 n)
end EVB
abbrev ev_C : Type := List (Nat × Nat × sm_L × List Value × Nat × Nat)
/-- behind a callee's end, its callers -/
def gk (P : sm_P) (K : sm_K) (df : Nat → List Value) (ro : Nat → List Int32) (X : sm_X) (F : ev_F) : ev_C → Nat → ev_F
  | [], _ => F
  | f :: fs, d => fun v h dc ds => ev P K df ro X (d + 1) f.1 f.2.1 f.2.2.1 (v.toList ++ f.2.2.2.1) h (f.2.2.2.2.1 + dc) (f.2.2.2.2.2 + ds) (gk P K df ro X F fs (d + 1))
