/-! The interpreter whole: loop heads are cut, lemma states are taken. -/
/-- a place: a local, or of a cell -/
abbrev ab_P : Type := Nat ⊕ (Nat × Nat)
/-- a covering state: frames above, method, pc, names there were, places of the new names, which new name grows (and to what at most), what is known, cells, their number, depth, cells and slots made, locals, stack, frames -/
abbrev ab_Y : Type := Nat × Nat × Nat × Nat × List ab_P × Option (Nat × Int) × ab_E × ab_H × Nat × Nat × Nat × Nat × ab_L × List ab_V × List ab_F
noncomputable def cu_at (t : ab_H) (la : ab_L) (p : ab_P) : Option (Nat × Int) := match p with
  | .inl k => match ab_lk la k with
    | some (.inl q) => some q
    | some (.inr (.inl q)) => some q
    | _ => none
  | .inr (a, j) => match ab_get t a with
    | some (_, _, .inl ft) => match ab_get ft j with
      | some (.inl q) => some q
      | some (.inr (.inl q)) => some q
      | _ => none
    | _ => none
noncomputable def cu_vals (t : ab_H) (la : ab_L) : List ab_P → Option ab_N
  | [] => some []
  | p :: ps => match cu_at t la p, cu_vals t la ps with
    | some a, some l => some (a :: l)
    | _, _ => none
theorem cu_vals_len {t : ab_H} {la : ab_L} : ∀ {ps : List ab_P} {l : ab_N}, cu_vals t la ps = some l → l.length = ps.length
  | [], l, h => by cases h; rfl
  | p :: ps, l, h => by
    unfold cu_vals at h
    split at h
    · next a l2 _ h2 =>
      cases h
      rw [List.length_cons, List.length_cons, cu_vals_len h2]
    · cases h
/-- is this state one of Y's; strictly: the growing name has grown -/
noncomputable def cu_sub (R : ab_Ro) (strict : Bool) (Y : ab_Y) (n : Nat) (E : ab_E) (t : ab_H) (hn d c s mid pc : Nat) (la : ab_L) (sa : List ab_V) (fs : List ab_F) : Bool := match Y with
  | (dep, ymid, ypc, n0, ps, mv, E0, t0, hn0, d0, c0, s0, la0, sa0, fs0) => match cu_vals t la ps with
    | none => false
    | some vals => Nat.beq dep fs.length && (Nat.beq ymid mid && (Nat.beq ypc pc && (Nat.beq hn0 hn && (Nat.beq d0 d && (Nat.beq c0 c && (Nat.beq s0 s && (Nat.ble n0 n && (Nat.ble 1 n0 && (sb_ro n0 R && ((match mv with
      | none => true
      | some (m, _) => !strict || (match vals[m]? with
        | some w => Nat.beq w.1 (n0 + m) && ab_ile 1 w.2
        | none => false)) && (sb_E vals n0 E0 E && (sb_l vals n0 la0 la && (sb_s vals n0 sa0 sa && (sb_f vals n0 fs0 fs && sb_t (sb_c vals n0) t0 t))))))))))))))
/-- an end of the growing: the name's bound is known -/
def cu_mv (Y : ab_Y) : Bool := match Y with
  | (_, _, _, n0, ps, mv, E0, _) => match mv with
    | none => false
    | some (m, top) => Nat.ble (m + 1) ps.length && (match ab_iv E0 (n0 + m) with
      | some z => ab_ile z.2 top
      | none => false)
/-- an order for a cut: method, pc, a local that must be a number (if any), the new names (place; bounds), further places by a name and an offset, differences, the growing one -/
abbrev ab_O : Type := Nat × Nat × Option (Nat × Int) × List (ab_P × Int × Int) × List (ab_P × Nat × Int) × List (Nat × Nat × Int) × (Nat × Int)
noncomputable def cu_gd (g : Option (Nat × Int)) (la : ab_L) : Bool := match g with
  | none => true
  | some (k, z) => match ab_lk la k with
    | some (.inl q) => Nat.beq q.1 0 && ab_ieq q.2 z
    | some (.inr (.inl q)) => Nat.beq q.1 0 && ab_ieq q.2 z
    | _ => false
def cu_re (v : ab_V) (q : Nat × Int) : ab_V := match v with
  | .inr (.inl _) => .inr (.inl q)
  | _ => .inl q
/-- a name put at a place -/
noncomputable def cu_put (p : ab_P) (q : Nat × Int) (t : ab_H) (la : ab_L) : ab_H × ab_L := match p with
  | .inl k => (t, la.map (fun e => bif Nat.beq e.1 k then (e.1, cu_re e.2 q) else e))
  | .inr (a, j) => match ab_get t a with
    | some (kd, len, .inl ft) => match ab_get ft j with
      | some v => (ab_set t a (kd, len, .inl (ab_set ft j (cu_re v q))), la)
      | none => (t, la)
    | _ => (t, la)
noncomputable def cu_puts : List (ab_P × Nat × Int) → ab_H → ab_L → ab_H × ab_L
  | [], t, la => (t, la)
  | (p, q) :: r, t, la => cu_puts r (cu_put p q t la).1 (cu_put p q t la).2
def cu_num (n : Nat) : List (ab_P × Int × Int) → Nat → List (ab_P × Nat × Int)
  | [], _ => []
  | (p, _) :: r, j => (p, n + j, 0) :: cu_num n r (j + 1)
def cu_iv (n : Nat) : List (ab_P × Int × Int) → Nat → List (Nat × Int × Int)
  | [], _ => []
  | (_, a, b) :: r, j => (n + j, a, b) :: cu_iv n r (j + 1)
noncomputable def cu_mk (o : ab_O) (n : Nat) (E : ab_E) (t : ab_H) (hn d c s : Nat) (la : ab_L) (sa : List ab_V) (fs : List ab_F) : ab_Y := match o with
  | (omid, opc, _, nv, more, dif, mv) => match cu_puts (cu_num n nv 0 ++ more.map (fun q => (q.1, n + q.2.1, q.2.2))) t la with
    | (t0, la0) => (fs.length, omid, opc, n, nv.map (fun q => q.1), some mv, (cu_iv n nv 0 ++ E.1, dif.map (fun q => (bif Nat.ble 1000 q.1 then n + (q.1 - 1000) else q.1, bif Nat.ble 1000 q.2.1 then n + (q.2.1 - 1000) else q.2.1, q.2.2)) ++ E.2.1, []), t0, hn, d, c, s, la0, sa, fs)
abbrev ax_T : Type := List ab_Y → ax_K
/-- the covering state gone on with -/
noncomputable def cu_go (ih : ax_T) (mt : Lean.RArray (Nat × ab_M)) (R : ab_Ro) (dfl : List ab_C) (gc gs cm sm : Nat) (G : List ab_Y) (Y : ab_Y) (mi : ab_M) (q : ab_I) : Bool := match Y with
  | (_, mid, pc, n0, ps, _, E0, t0, hn0, d0, c0, s0, la0, sa0, fs0) => kf (n0 + ps.length) (fun n1 => ax_E mt R dfl gc gs cm sm (ih (Y :: G)) n1 E0 t0 hn0 d0 c0 s0 mid mi pc la0 sa0 fs0 q)
def cu_key (dep mid pc : Nat) (Y : ab_Y) : Bool := match Y with
  | (d, m, p, _) => Nat.beq d dep && (Nat.beq m mid && Nat.beq p pc)
noncomputable def ax_C (an : List ab_O) (mt : Lean.RArray (Nat × ab_M)) (R : ab_Ro) (dfl : List ab_C) (gc gs cm sm : Nat) (ih : ax_T) (G : List ab_Y) (n : Nat) (E : ab_E) (t : ab_H) (hn d c s mid : Nat) (mi : ab_M) (pc : Nat) (la : ab_L) (sa : List ab_V) (fs : List ab_F) (q : ab_I) : Bool :=
  Bool.rec (motive := fun _ => Bool)
    (match an.find? (fun o => Nat.beq o.1 mid && (Nat.beq o.2.1 pc && cu_gd o.2.2.1 la)) with
      | none => ax_E mt R dfl gc gs cm sm (ih G) n E t hn d c s mid mi pc la sa fs q
      | some o => cu_mv (cu_mk o n E t hn d c s la sa fs) && (cu_sub R false (cu_mk o n E t hn d c s la sa fs) n E t hn d c s mid pc la sa fs && cu_go ih mt R dfl gc gs cm sm (G.filter (fun Y => !(cu_key fs.length mid pc Y))) (cu_mk o n E t hn d c s la sa fs) mi q))
    true
    (G.any (fun Y => cu_key fs.length mid pc Y && cu_sub R true Y n E t hn d c s mid pc la sa fs))
noncomputable def ax_S (an : List ab_O) (mt : Lean.RArray (Nat × ab_M)) (R : ab_Ro) (dfl : List ab_C) (gc gs cm sm : Nat) (ih : ax_T) : ax_T := fun G n E t hn d c s mid mi pc la sa fs => match ab_get mi.2.2.2.2.2 pc with
  | none => false
  | some q => Bool.rec (motive := fun _ => Bool) (ax_E mt R dfl gc gs cm sm (ih G) n E t hn d c s mid mi pc la sa fs q) (ax_C an mt R dfl gc gs cm sm ih G n E t hn d c s mid mi pc la sa fs q) q.1
noncomputable def ax (an : List ab_O) (mt : Lean.RArray (Nat × ab_M)) (R : ab_Ro) (dfl : List ab_C) (gc gs cm sm : Nat) (f : Nat) : ax_T := Nat.rec (motive := fun _ => ax_T) (fun _ _ _ _ _ _ _ _ _ _ _ _ _ _ => false) (fun _ ih => ax_S an mt R dfl gc gs cm sm ih) f
section AXS
variable {P : sm_P} {K : sm_K} {df : Nat → List Value} {ro : Nat → List Int32} {gc gs cm sm : Nat} {mt : Lean.RArray (Nat × ab_M)} {R : ab_Ro} {dfl : List ab_C} {an : List ab_O}
/-- what a covering state stands for: all that it covers, with the growing name beyond, comes to the end -/
def cu_H (P : sm_P) (K : sm_K) (df : Nat → List Value) (ro : Nat → List Int32) (gc gs cm sm : Nat) (R : ab_Ro) (ρ : List Int) (Y : ab_Y) : Prop := match Y with
  | (_, mid, pc, n0, ps, mv, E0, t0, hn0, d0, c0, s0, la0, sa0, fs0) => (∀ m z, mv = some (m, z) → n0 + m < ρ.length) ∧ (n0 ≤ ρ.length → ∀ xs : List Int, xs.length = ps.length → ab_ok (ρ.take n0 ++ xs) E0 → (∀ m z, mv = some (m, z) → ρ.getD (n0 + m) 0 < xs.getD m 0) → ∀ (mi : ab_M) (lv : sm_L) (st : List Value) (h : List sm_C) (cs : ev_C), ab_St P K R (ro 1) (ρ.take n0 ++ xs) (n0 + ps.length) E0 t0 hn0 mid mi la0 sa0 fs0 lv st h cs → ax_G P K df ro gc gs cm sm d0 mid pc lv st h c0 s0 cs)
theorem cu_H_app {ρ x : List Int} {Y : ab_Y} (hn : Y.2.2.2.1 ≤ ρ.length) (h : cu_H P K df ro gc gs cm sm R ρ Y) : cu_H P K df ro gc gs cm sm R (ρ ++ x) Y := by
  obtain ⟨dep, mid, pc, n0, ps, mv, E0, t0, hn0, d0, c0, s0, la0, sa0, fs0⟩ := Y
  obtain ⟨h1, h2⟩ := h
  dsimp only at hn
  refine ⟨fun m z hm => by rw [List.length_append]; have := h1 m z hm; omega, fun _ xs hl he hg => ?_⟩
  have et : (ρ ++ x).take n0 = ρ.take n0 := List.take_append_of_le_length hn
  rw [et] at he ⊢
  exact h2 hn xs hl he (fun m z hm => by have := hg m z hm; rwa [ab_getD_app (h1 m z hm)] at this)
theorem cu_sub_ok {b : Bool} {Y : ab_Y} {n : Nat} {E : ab_E} {t : ab_H} {hn d c s mid pc : Nat} {mi : ab_M} {la : ab_L} {sa : List ab_V} {fs : List ab_F} {ρ : List Int} {lv : sm_L} {st : List Value} {h : List sm_C} {cs : ev_C} (hq : cu_sub R b Y n E t hn d c s mid pc la sa fs = true) (hS : ab_St P K R (ro 1) ρ n E t hn mid mi la sa fs lv st h cs) :
    ∃ xs : List Int, Y.2.2.2.1 ≤ ρ.length ∧ xs.length = Y.2.2.2.2.1.length ∧ ab_ok (ρ.take Y.2.2.2.1 ++ xs) Y.2.2.2.2.2.2.1 ∧ (b = true → ∀ m z, Y.2.2.2.2.2.1 = some (m, z) → ρ.getD (Y.2.2.2.1 + m) 0 < xs.getD m 0) ∧ Y.2.1 = mid ∧ Y.2.2.1 = pc ∧ Y.2.2.2.2.2.2.2.2.2.1 = d ∧ Y.2.2.2.2.2.2.2.2.2.2.1 = c ∧ Y.2.2.2.2.2.2.2.2.2.2.2.1 = s ∧
      ab_St P K R (ro 1) (ρ.take Y.2.2.2.1 ++ xs) (Y.2.2.2.1 + Y.2.2.2.2.1.length) Y.2.2.2.2.2.2.1 Y.2.2.2.2.2.2.2.1 Y.2.2.2.2.2.2.2.2.1 mid mi Y.2.2.2.2.2.2.2.2.2.2.2.2.1 Y.2.2.2.2.2.2.2.2.2.2.2.2.2.1 Y.2.2.2.2.2.2.2.2.2.2.2.2.2.2 lv st h cs := by
  obtain ⟨dep, ymid, ypc, n0, ps, mv, E0, t0, hn0, d0, c0, s0, la0, sa0, fs0⟩ := Y
  unfold cu_sub at hq
  dsimp only at hq ⊢
  split at hq
  · cases hq
  · next vals hv =>
    simp only [Bool.and_eq_true] at hq
    obtain ⟨b1, b2, b3, b4, b5, b6, b7, b8, b9, b10, b11, b12, b13, b14, b15, b16⟩ := hq
    obtain ⟨ho, hn0', hh, hm, hl, hs, hf, hr⟩ := hS
    have hle : n0 ≤ ρ.length := by rw [← hn0']; exact Nat.ble_eq.mp b8
    have h0 : 0 < n0 := Nat.ble_eq.mp b9
    have hlen := cu_vals_len hv
    have e4 := Nat.eq_of_beq_eq_true b4
    subst e4
    refine ⟨vals.map (fun (w : Nat × Int) => ρ.getD w.1 0 + w.2), hle, by rw [List.length_map]; exact hlen, sb_E_ok hle h0 ho b12, ?_, Nat.eq_of_beq_eq_true b2, Nat.eq_of_beq_eq_true b3, Nat.eq_of_beq_eq_true b5, Nat.eq_of_beq_eq_true b6, Nat.eq_of_beq_eq_true b7, sb_E_ok hle h0 ho b12, ?_, sb_h_ok hle b16 hh, hm, sb_l_ok hle b13 hl, sb_s_ok hle b14 hs, sb_f_ok hle b15 hf, sb_ro_ok hle b10 hr⟩
    · intro hb m z hmv
      subst hb
      rw [hmv] at b11
      dsimp only at b11
      rw [Bool.not_true, Bool.false_or] at b11
      split at b11
      · next w hw =>
        have h1 := (Bool.and_eq_true _ _).mp b11
        have h2 := ab_ile_iff.mp h1.2
        have h3 : (vals.map (fun (w : Nat × Int) => ρ.getD w.1 0 + w.2)).getD m 0 = ρ.getD w.1 0 + w.2 := by
          rw [List.getD_eq_getElem?_getD, List.getElem?_map, hw]
          rfl
        rw [h3, Nat.eq_of_beq_eq_true h1.1]
        omega
      · cases b11
    · have := sb_r_len (vals := vals) hle
      unfold sb_r at this
      rw [this, hlen]
theorem cu_filter {G : List ab_Y} {f : ab_Y → Bool} {Y : ab_Y} (h : Y ∈ G.filter f) : Y ∈ G := (List.mem_filter.mp h).1
/-- the interpreter is right -/
theorem ax_ok (hmt : ab_mtR P K mt) (hdf : ab_dfR dfl df) : ∀ (f : Nat) (G : List ab_Y) (n : Nat) (E : ab_E) (t : ab_H) (hn d c s mid : Nat) (mi : ab_M) (pc : Nat) (la : ab_L) (sa : List ab_V) (fs : List ab_F), ax an mt R dfl gc gs cm sm f G n E t hn d c s mid mi pc la sa fs = true →
    ∀ (ρ : List Int) (lv : sm_L) (st : List Value) (h : List sm_C) (cs : ev_C), (∀ Y ∈ G, Y.2.2.2.1 ≤ ρ.length ∧ cu_H P K df ro gc gs cm sm R ρ Y) → ab_St P K R (ro 1) ρ n E t hn mid mi la sa fs lv st h cs → ax_G P K df ro gc gs cm sm d mid pc lv st h c s cs
  | 0, _, _, _, _, _, _, _, _, _, _, _, _, _, _, q => by cases q
  | f + 1, G, n, E, t, hn, d, c, s, mid, mi, pc, la, sa, fs, hx => by
    have ih := ax_ok hmt hdf f
    intro ρ lv st h cs hG hS
    change ax_S an mt R dfl gc gs cm sm (ax an mt R dfl gc gs cm sm f) G n E t hn d c s mid mi pc la sa fs = true at hx
    have step : ∀ (G : List ab_Y) (n : Nat) (E : ab_E) (t : ab_H) (hn d c s mid : Nat) (mi : ab_M) (pc : Nat) (la : ab_L) (sa : List ab_V) (fs : List ab_F) (q : ab_I), ab_get mi.2.2.2.2.2 pc = some q → ax_E mt R dfl gc gs cm sm (ax an mt R dfl gc gs cm sm f G) n E t hn d c s mid mi pc la sa fs q = true → ∀ (ρ : List Int) (lv : sm_L) (st : List Value) (h : List sm_C) (cs : ev_C), (∀ Y ∈ G, Y.2.2.2.1 ≤ ρ.length ∧ cu_H P K df ro gc gs cm sm R ρ Y) → ab_St P K R (ro 1) ρ n E t hn mid mi la sa fs lv st h cs → ax_G P K df ro gc gs cm sm d mid pc lv st h c s cs := by
      intro G n E t hn d c s mid mi pc la sa fs q hg hE ρ lv st h cs hG hS
      refine ax_E_ok hmt hdf hg hE hS (fun n E t hn d c s mid mi pc la sa fs hk x lv st h cs hS => ih G n E t hn d c s mid mi pc la sa fs hk (ρ ++ x) lv st h cs (fun Y hY => ⟨by rw [List.length_append]; have := (hG Y hY).1; omega, cu_H_app (hG Y hY).1 (hG Y hY).2⟩) hS)
    unfold ax_S at hx
    split at hx
    · cases hx
    · next q hg =>
      cases hfl : q.1 with
      | false =>
        rw [hfl] at hx
        exact step G n E t hn d c s mid mi pc la sa fs q hg hx ρ lv st h cs hG hS
      | true =>
        rw [hfl] at hx
        change ax_C an mt R dfl gc gs cm sm (ax an mt R dfl gc gs cm sm f) G n E t hn d c s mid mi pc la sa fs q = true at hx
        unfold ax_C at hx
        cases hany : G.any (fun Y => cu_key fs.length mid pc Y && cu_sub R true Y n E t hn d c s mid pc la sa fs) with
        | true =>
          obtain ⟨Y, hY, hsub⟩ := List.any_eq_true.mp hany
          have hsub := ((Bool.and_eq_true _ _).mp hsub).2
          obtain ⟨xs, g1, g2, g3, g4, g5, g6, g7, g8, g9, g10⟩ := cu_sub_ok hsub hS
          have hH := (hG Y hY).2
          obtain ⟨dep, ymid, ypc, n0, ps, mv, E0, t0, hn0, d0, c0, s0, la0, sa0, fs0⟩ := Y
          dsimp only at g1 g2 g3 g4 g5 g6 g7 g8 g9 g10
          subst g5; subst g6; subst g7; subst g8; subst g9
          exact hH.2 g1 xs g2 g3 (g4 rfl) mi lv st h cs g10
        | false =>
          rw [hany] at hx
          dsimp only at hx
          split at hx
          · exact step G n E t hn d c s mid mi pc la sa fs q hg hx ρ lv st h cs hG hS
          · next o ho =>
            obtain ⟨y1, y2, y3⟩ := ab_and3 hx
            generalize hYe : cu_mk o n E t hn d c s la sa fs = Y at y1 y2 y3
            have hYn : Y.2.2.2.1 = n := by
              rw [← hYe]
              unfold cu_mk
              rfl
            obtain ⟨xs, g1, g2, g3, g4, g5, g6, g7, g8, g9, g10⟩ := cu_sub_ok y2 hS
            obtain ⟨dep, ymid, ypc, n0, ps, mv, E0, t0, hn0, d0, c0, s0, la0, sa0, fs0⟩ := Y
            dsimp only at g1 g2 g3 g5 g6 g7 g8 g9 g10 hYn
            subst g5; subst g6; subst g7; subst g8; subst g9
            have e0 : ρ.take n0 = ρ := by rw [hYn, hS.2.1, List.take_length]
            change kf (n0 + ps.length) (fun n1 => ax_E mt R dfl gc gs cm sm (ax an mt R dfl gc gs cm sm f ((dep, ymid, ypc, n0, ps, mv, E0, t0, hn0, d0, c0, s0, la0, sa0, fs0) :: G.filter (fun Y => !(cu_key fs.length ymid ypc Y)))) n1 E0 t0 hn0 d0 c0 s0 ymid mi ypc la0 sa0 fs0 q) = true at y3
            rw [kf_eq] at y3
            unfold cu_mv at y1
            cases mv with
            | none => cases y1
            | some mt0 =>
              obtain ⟨m, top⟩ := mt0
              dsimp only at y1
              have y4 := (Bool.and_eq_true _ _).mp y1
              have hmlt : m < ps.length := Nat.ble_eq.mp y4.1
              have y5 := y4.2
              split at y5
              · next z hz =>
                have htop := ab_ile_iff.mp y5
                have hrl : ρ.length = n0 := by rw [hYn]; exact hS.2.1.symm
                have hgx : ∀ xs : List Int, (ρ ++ xs).getD (n0 + m) 0 = xs.getD m 0 := fun xs => by
                  rw [List.getD_eq_getElem?_getD, List.getD_eq_getElem?_getD, List.getElem?_append_right (by omega)]
                  congr 2
                  omega
                have key : ∀ (r : Nat) (xs : List Int), (top - xs.getD m 0).toNat = r → xs.length = ps.length → ab_ok (ρ ++ xs) E0 → ∀ (lv : sm_L) (st : List Value) (h : List sm_C) (cs : ev_C), ab_St P K R (ro 1) (ρ ++ xs) (n0 + ps.length) E0 t0 hn0 ymid mi la0 sa0 fs0 lv st h cs → ax_G P K df ro gc gs cm sm d0 ymid ypc lv st h c0 s0 cs := by
                  intro r
                  induction r using Nat.strongRecOn with
                  | _ r ihr =>
                    intro xs hr hlx hokx lv st h cs hSx
                    refine step _ _ _ _ _ _ _ _ _ _ _ _ _ _ q hg y3 (ρ ++ xs) lv st h cs (fun Y hY => ?_) hSx
                    rcases List.mem_cons.mp hY with rfl | hY
                    · dsimp only
                      refine ⟨by rw [List.length_append]; omega, fun m' z' hm' => ?_, fun _ xs' hl' hok' hgt mi2 lv st h cs hS2 => ?_⟩
                      · cases hm'
                        rw [List.length_append]
                        omega
                      · have et : (ρ ++ xs).take n0 = ρ := by rw [← hrl]; exact List.take_left
                        rw [et] at hok' hS2
                        have g1 := hgt m top rfl
                        rw [hgx xs] at g1
                        have g2 := (ab_iv_ok hok' hz).2.2
                        rw [hgx xs'] at g2
                        exact ihr _ (by omega) xs' rfl hl' hok' lv st h cs ⟨hS2.1, hS2.2.1, hS2.2.2.1, hS.2.2.2.1, hS2.2.2.2.2⟩
                    · have hY := cu_filter hY
                      exact ⟨by rw [List.length_append]; have := (hG Y hY).1; omega, cu_H_app (hG Y hY).1 (hG Y hY).2⟩
                rw [e0] at g3 g10
                exact key _ xs rfl g2 g3 lv st h cs g10
              · cases y5
end AXS
