/-! The small machine makes cells: the addresses that come to be are put behind those there are. -/
def sm_bv (n : Nat) : Value → Bool
  | .ref k => decide (k < n)
  | _ => true
def sm_bs (n : Nat) (st : List Value) : Bool := st.all (sm_bv n)
def sm_bl (n : Nat) (lv : sm_L) : Bool := lv.all (fun q => sm_bv n q.2)
def sm_bh (n : Nat) (h : List sm_C) : Bool := h.all (fun q => decide (100 ≤ q.1 ∧ q.1 ≤ 103) || sm_bs n q.2)
theorem sm_getD_app {ad x : List Nat} {k : Nat} (h : k < ad.length) : (ad ++ x).getD k 0 = ad.getD k 0 := by
  rw [List.getD_eq_getElem?_getD, List.getD_eq_getElem?_getD, List.getElem?_append_left h]
theorem sm_tr_app {E : Nat → Nat} {ad x : List Nat} {v : Value} (h : sm_bv ad.length v = true) : sm_tr E (ad ++ x) v = sm_tr E ad v := by
  cases v <;> try rfl
  next k =>
    have h1 : k < ad.length := of_decide_eq_true h
    show Value.ref _ = Value.ref _
    rw [sm_getD_app h1]
theorem sm_rv_app {ad x : List Nat} {v : Value} (h : sm_bv ad.length v = true) : sm_rv (ad ++ x) v = sm_rv ad v := by
  cases v <;> try rfl
  next k =>
    have h1 : k < ad.length := of_decide_eq_true h
    show some _ = some _
    rw [sm_getD_app h1]
theorem sm_st_app {E : Nat → Nat} {ad x : List Nat} {st : List Value} (h : sm_bs ad.length st = true) : st.map (sm_tr E (ad ++ x)) = st.map (sm_tr E ad) :=
  List.map_congr_left fun v hv => sm_tr_app (List.all_eq_true.mp h v hv)
theorem sm_lt_app {E : Nat → Nat} {ad x : List Nat} {lv : sm_L} (h : sm_bl ad.length lv = true) : sm_lt E (ad ++ x) lv = sm_lt E ad lv :=
  List.map_congr_left fun q hq => by rw [sm_tr_app (List.all_eq_true.mp h q hq)]
theorem sm_e_app {G : Nat → ClassId} {E : Nat → Nat} {ad x : List Nat} {q : sm_C} (h : (decide (100 ≤ q.1 ∧ q.1 ≤ 103) || sm_bs ad.length q.2) = true) : sm_e G E (ad ++ x) q = sm_e G E ad q := by
  unfold sm_e
  by_cases h1 : q.1 < 100
  · rw [if_pos h1, if_pos h1]
    have h2 : sm_bs ad.length q.2 = true := by
      rcases Bool.or_eq_true_iff.mp h with h2 | h2
      · have := of_decide_eq_true h2
        omega
      · exact h2
    rw [sm_st_app h2]
  · rw [if_neg h1, if_neg h1]
    by_cases h3 : q.1 = 103
    · rw [if_pos h3, if_pos h3]
    · rw [if_neg h3, if_neg h3]
      by_cases h4 : q.1 = 104
      · rw [if_pos h4, if_pos h4]
        have h2 : sm_bs ad.length q.2 = true := by
          rcases Bool.or_eq_true_iff.mp h with h2 | h2
          · have := of_decide_eq_true h2
            omega
          · exact h2
        congr 7
        funext j
        rw [List.getD_eq_getElem?_getD]
        cases hj : q.2[j]? with
        | none => rfl
        | some v => exact sm_rv_app (List.all_eq_true.mp h2 v (List.mem_of_getElem? hj))
      · rw [if_neg h4, if_neg h4]
theorem sm_zip_congr {F F2 : sm_C → va_E} : ∀ (as : List Nat) (hs : List sm_C), (∀ q ∈ hs, F q = F2 q) → List.zipWith (fun a q => (a, F q)) as hs = List.zipWith (fun a q => (a, F2 q)) as hs
  | [], _, _ => by simp
  | _ :: _, [], _ => by simp
  | a :: as, q :: hs, h => by
    rw [List.zipWith_cons_cons, List.zipWith_cons_cons, h q List.mem_cons_self, sm_zip_congr as hs (fun z hz => h z (List.mem_cons_of_mem _ hz))]
theorem sm_w_app {G : Nat → ClassId} {E : Nat → Nat} {ad x : List Nat} {h y : List sm_C} (hn : ad.length = h.length) (hb : sm_bh ad.length h = true) : sm_w G E (ad ++ x) (h ++ y) = sm_w G E ad h ++ List.zipWith (fun a q => (a, sm_e G E (ad ++ x) q)) x y := by
  unfold sm_w
  rw [List.zipWith_append hn]
  congr 1
  exact sm_zip_congr ad h (fun q hq => sm_e_app (List.all_eq_true.mp hb q hq))
theorem sm_rep_i (N : Nat) : (fun j => sm_ival ((List.replicate N (Value.int 0)).getD j .null)) = fun _ => (0 : Int32) := by
  funext j
  rw [List.getD_eq_getElem?_getD, List.getElem?_replicate]
  by_cases h : j < N
  · rw [if_pos h]; rfl
  · rw [if_neg h]; rfl
theorem sm_rep_l (N : Nat) : (fun j => sm_lval ((List.replicate N (Value.long 0)).getD j .null)) = fun _ => (0 : Int64) := by
  funext j
  rw [List.getD_eq_getElem?_getD, List.getElem?_replicate]
  by_cases h : j < N
  · rw [if_pos h]; rfl
  · rw [if_neg h]; rfl
/-- a new array: its kind and what it holds -/
def sm_nk : ArrayType → Nat
  | .int => 100
  | .byte => 101
  | .boolean => 102
  | .long => 103
  | _ => 200
def sm_n0 : ArrayType → Value
  | .long => .long 0
  | _ => .int 0
abbrev sm_Ra : Type := Option (Nat × List Value × List sm_C × Nat × Nat)
def sm_na (at0 : ArrayType) (pc : Nat) (lv : sm_L) (st : List Value) (h : List sm_C) : sm_Ra := match st with
  | .int n :: r => if ¬ n < 0 ∧ n.toNatClampNeg ≤ 1000 ∧ sm_nk at0 < 200 ∧ sm_bs h.length r = true ∧ sm_bl h.length lv = true ∧ sm_bh h.length h = true then some (pc + 2, .ref h.length :: r, h ++ [(sm_nk at0, List.replicate n.toNatClampNeg (sm_n0 at0))], 1, n.toNatClampNeg) else none
  | _ => none
def sm_ne (df : Nat → List Value) (dt : List Nat) (pc : Nat) (lv : sm_L) (st : List Value) (h : List sm_C) : sm_Ra := match dt with
  | [ci] => if sm_bs h.length st = true ∧ sm_bl h.length lv = true ∧ sm_bh h.length h = true then some (pc + 3, .ref h.length :: st, h ++ [(ci, df ci)], 1, (df ci).length) else none
  | _ => none
def sm_mn (pc : Nat) (lv : sm_L) (st : List Value) (h : List sm_C) : sm_Ra := match st with
  | .int k :: .int n :: r => if ¬ n < 0 ∧ ¬ k < 0 ∧ n.toNatClampNeg ≤ 1000 ∧ k.toNatClampNeg ≤ 1000 ∧ sm_bs h.length r = true ∧ sm_bl h.length lv = true ∧ sm_bh h.length h = true then
      some (pc + 4, .ref h.length :: r, h ++ ((104, (List.range n.toNatClampNeg).map (fun i => Value.ref (h.length + 1 + i))) :: List.replicate n.toNatClampNeg (100, List.replicate k.toNatClampNeg (.int 0))), 1 + n.toNatClampNeg, n.toNatClampNeg + n.toNatClampNeg * k.toNatClampNeg) else none
  | _ => none
def sm_mk (df : Nat → List Value) (i : Instr) (dt : List Nat) (pc : Nat) (lv : sm_L) (st : List Value) (h : List sm_C) : sm_Ra := match i with
  | .newarray at0 => sm_na at0 pc lv st h
  | .new _ => sm_ne df dt pc lv st h
  | .multianewarray _ 2 => sm_mn pc lv st h
  | _ => none
/-- what must be known of an instruction that makes cells -/
def sm_lm (own : String) (i : Instr) (dt : List Nat) : Prop := match i with
  | .newarray at0 => Cond.arrayClass (newarray.typeOf at0) ∈ sm_all
  | .new idx => ∀ ci, dt = [ci] → ∃ (C : String) (T : u_T) (N : Nat), vwCl[ci]? = some (C, T, N) ∧ Cond.classLink own idx C ∈ sm_all
  | .multianewarray idx _ => Cond.classLink own idx ("[" ++ (FieldType.array .int).toString) ∈ sm_all ∧ Cond.arrayClass .int ∈ sm_all
  | _ => True
/-- what is known of the objects' kinds where they are made -/
def sm_cnew (df : Nat → List Value) : Prop := ∀ (ci : Nat) (C : String) (T : u_T) (N : Nat), vwCl[ci]? = some (C, T, N) → ci < 100 ∧ (∀ w ∈ u_ws C T N, w ∈ sm_all) ∧ Cond.instantiable C N ∈ sm_all ∧ Cond.initialized C ∈ sm_all ∧ (df ci).length = N ∧ (∀ (E : Nat → Nat) (ad : List Nat), (df ci).map (sm_tr E ad) = df ci) ∧ ∃ ty0 : Nat → FieldType, (∀ k, k < N → parseFieldDescriptor (T k).2.2.1 = some (ty0 k)) ∧ ∀ j, j < N → defaultValue (ty0 j) = vp_V (df ci) j
section SMA
variable {p : Program} {l : Launch} {e : Env} {R : Room} {s : State} {m : MethodId} {args : Array Value} {below : List Frame} {meth : Method} {c : Code} {H : Heap} {locs : List Loc} {cells slots : Nat} {Q : State → Prop}
variable {cc : ByteArray} {pc ml pc' : Nat} {ls : Array Slot} {E : Nat → Nat} {ad : List Nat} {lv : sm_L} {st st' : List Value} {h h' : List sm_C} {D : va_G} {G : Nat → ClassId} {A : Nat → Prop} {Ts : List Cond} {own : String} {dt : List Nat} {df : Nat → List Value} {dc ds : Nat}
theorem sm_na_ok (hx : p.tables.exec = Jvm.exec) (hb : c.code = cc) (hts : ∀ w ∈ Ts, w.before args s = true) (hTs : ∀ w ∈ sm_all, w ∈ Ts) (hK : va_K D vwCl (sm_ty G) s) (hP : va_P D vwCl (sm_w G E ad h) H) (hD : va_D A (sm_w G E ad h)) (hS : va_S A s.heap H locs) (hA : ∀ q, s.heap.size ≤ q → A q) (hn : ad.length = h.length) {at0 : ArrayType} (hdg : decode cc pc = .ok (.newarray at0, 2)) (hln : Cond.arrayClass (newarray.typeOf at0) ∈ sm_all) (hs : sm_na at0 pc lv st h = some (pc', st', h', dc, ds)) (hrc : cells + dc ≤ R.cells) (hrs : slots + ds ≤ R.slots)
    (K : ∀ (x : List Nat) (H : Heap), sm_lt E (ad ++ x) lv = sm_lt E ad lv → (ad ++ x).length = h'.length → va_P D vwCl (sm_w G E (ad ++ x) h') H → va_D A (sm_w G E (ad ++ x) h') → va_S A s.heap H locs → W p l e R s m args below meth c H locs (cells + dc) (slots + ds) Q (F0 m pc' ls (st'.map (sm_tr E (ad ++ x))))) : W p l e R s m args below meth c H locs cells slots Q (F0 m pc ls (st.map (sm_tr E ad))) := by
  unfold sm_na at hs
  split at hs
  · next n r =>
    split at hs
    · next h0 =>
      obtain ⟨h1, h2, h3, h4, h5, h6⟩ := h0
      cases hs
      rw [← hn] at h4 h5 h6
      have key : ∀ (t : Nat) (ty : FieldType) (a0 : vp_A), newarray.typeOf at0 = ty → (sm_ty G)[t]? = some (G t, ty) → (∀ z : ClassId, va_RA s z ty → va_RA s (G t) ty → z = G t) → (∀ cA : ClassId, vp_cell cA a0 = arrV cA n.toNatClampNeg (fun _ => defaultValue ty)) → n.toNatClampNeg * componentBytes ty ≤ 536870912 → (∀ q : Nat, sm_e G E (ad ++ [q]) (sm_nk at0, List.replicate n.toNatClampNeg (sm_n0 at0)) = .inl (G t, a0)) → W p l e R s m args below meth c H locs cells slots Q (F0 m pc ls ((Value.int n :: r).map (sm_tr E ad))) := by
        intro t ty a0 g1 g2 g3 g4 g5 g6
        refine va_newa (a0 := a0) hx hb (hts _ (hTs _ hln)) g1 hK hP hD hS hA g4 h1 rfl g5 hrc hrs hdg (fun q cA H1 z1 z2 z3 z4 => ?_)
        have g7 : cA = G t := g3 cA (z1.2 5 (cA, ty) rfl).2 (hK.2 t _ g2).2
        subst g7
        have e1 : sm_w G E ad h ++ [(q, .inl (G t, a0))] = sm_w G E (ad ++ [q]) (h ++ [(sm_nk at0, List.replicate n.toNatClampNeg (sm_n0 at0))]) := by
          rw [sm_w_app hn h6]
          show _ = _ ++ [(q, sm_e G E (ad ++ [q]) _)]
          rw [g6]
        rw [e1] at z2 z3
        have h7 := K [q] H1 (sm_lt_app h5) (by simp [hn]) z2 z3 z4
        rw [List.map_cons, sm_st_app h4] at h7
        have h8 : sm_tr E (ad ++ [q]) (.ref h.length) = .ref q := by
          show Value.ref _ = Value.ref q
          rw [← hn, List.getD_eq_getElem?_getD]
          simp
        rw [h8] at h7
        exact h7
      cases at0
      case int => exact key 0 .int (n.toNatClampNeg, .inl (fun _ => 0)) rfl rfl (fun z q1 q2 => Option.some.inj (q1.symm.trans q2)) (fun _ => rfl) (by simp only [componentBytes]; omega) (fun q => by rw [show sm_nk .int = 100 from rfl, sm_e_i, show sm_n0 .int = Value.int 0 from rfl, sm_rep_i, List.length_replicate])
      case byte => exact key 1 .byte (n.toNatClampNeg, .inl (fun _ => 0)) rfl rfl (fun z q1 q2 => Option.some.inj (q1.symm.trans q2)) (fun _ => rfl) (by simp only [componentBytes]; omega) (fun q => by rw [show sm_nk .byte = 101 from rfl, sm_e_b, show sm_n0 .byte = Value.int 0 from rfl, sm_rep_i, List.length_replicate])
      case boolean => exact key 2 .boolean (n.toNatClampNeg, .inl (fun _ => 0)) rfl rfl (fun z q1 q2 => Option.some.inj (q1.symm.trans q2)) (fun _ => rfl) (by simp only [componentBytes]; omega) (fun q => by rw [show sm_nk .boolean = 102 from rfl, sm_e_z, show sm_n0 .boolean = Value.int 0 from rfl, sm_rep_i, List.length_replicate])
      case long => exact key 3 .long (n.toNatClampNeg, .inr (.inl (fun _ => 0))) rfl rfl (fun z q1 q2 => Option.some.inj (q1.symm.trans q2)) (fun _ => rfl) (by simp only [componentBytes]; omega) (fun q => by rw [show sm_nk .long = 103 from rfl, sm_e_l, show sm_n0 .long = Value.long 0 from rfl, sm_rep_l, List.length_replicate])
      all_goals (exact absurd h3 (by decide))
    · cases hs
  · cases hs
theorem sm_ne_ok (hC : sm_cnew df) (hx : p.tables.exec = Jvm.exec) (hb : c.code = cc) (hts : ∀ w ∈ Ts, w.before args s = true) (hTs : ∀ w ∈ sm_all, w ∈ Ts) (hown : s.vm.findClass own = some m.cls) (hK : va_K D vwCl (sm_ty G) s) (hP : va_P D vwCl (sm_w G E ad h) H) (hD : va_D A (sm_w G E ad h)) (hS : va_S A s.heap H locs) (hA : ∀ q, s.heap.size ≤ q → A q) (hn : ad.length = h.length) {idx : Nat} (hdg : decode cc pc = .ok (.new idx, 3)) (hln : ∀ ci, dt = [ci] → ∃ (C : String) (T : u_T) (N : Nat), vwCl[ci]? = some (C, T, N) ∧ Cond.classLink own idx C ∈ sm_all) (hs : sm_ne df dt pc lv st h = some (pc', st', h', dc, ds)) (hrc : cells + dc ≤ R.cells) (hrs : slots + ds ≤ R.slots)
    (K : ∀ (x : List Nat) (H : Heap), sm_lt E (ad ++ x) lv = sm_lt E ad lv → (ad ++ x).length = h'.length → va_P D vwCl (sm_w G E (ad ++ x) h') H → va_D A (sm_w G E (ad ++ x) h') → va_S A s.heap H locs → W p l e R s m args below meth c H locs (cells + dc) (slots + ds) Q (F0 m pc' ls (st'.map (sm_tr E (ad ++ x))))) : W p l e R s m args below meth c H locs cells slots Q (F0 m pc ls (st.map (sm_tr E ad))) := by
  unfold sm_ne at hs
  split at hs
  · next ci =>
    obtain ⟨C, T, N, g1, g2⟩ := hln ci rfl
    obtain ⟨c1, c2, c3, c4, c5, c6, ty0, c7, c8⟩ := hC ci C T N g1
    split at hs
    · next h0 =>
      obtain ⟨h4, h5, h6⟩ := h0
      cases hs
      rw [← hn] at h4 h5 h6
      rw [c5] at hrs K
      refine va_new (fs := df ci) hx hb hts (fun w hw => hTs w (c2 w hw)) ty0 c7 hown (hts _ (hTs _ g2)) (hts _ (hTs _ c3)) (hts _ (hTs _ c4)) hK hP hD hS hA g1 c8 hrc hrs hdg (fun q H1 z2 z3 z4 => ?_)
      have e1 : sm_w G E ad h ++ [(q, .inr (ci, df ci))] = sm_w G E (ad ++ [q]) (h ++ [(ci, df ci)]) := by
        rw [sm_w_app hn h6]
        show _ = _ ++ [(q, sm_e G E (ad ++ [q]) _)]
        rw [sm_e_o c1, c6]
      rw [e1] at z2 z3
      have h7 := K [q] H1 (sm_lt_app h5) (by simp [hn]) z2 z3 z4
      rw [List.map_cons, sm_st_app h4] at h7
      have h8 : sm_tr E (ad ++ [q]) (.ref h.length) = .ref q := by
        show Value.ref _ = Value.ref q
        rw [← hn, List.getD_eq_getElem?_getD]
        simp
      rw [h8] at h7
      exact h7
    · cases hs
  · cases hs
theorem sm_mn_ok (hx : p.tables.exec = Jvm.exec) (hb : c.code = cc) (hts : ∀ w ∈ Ts, w.before args s = true) (hTs : ∀ w ∈ sm_all, w ∈ Ts) (hown : s.vm.findClass own = some m.cls) (hO : (Cond.arrayOver (.array .int)).before args s = true) (hK : va_K D vwCl (sm_ty G) s) (hP : va_P D vwCl (sm_w G E ad h) H) (hD : va_D A (sm_w G E ad h)) (hS : va_S A s.heap H locs) (hA : ∀ q, s.heap.size ≤ q → A q) (hn : ad.length = h.length) {idx : Nat} (hdg : decode cc pc = .ok (.multianewarray idx 2, 4)) (hln : Cond.classLink own idx ("[" ++ (FieldType.array .int).toString) ∈ sm_all ∧ Cond.arrayClass .int ∈ sm_all) (hs : sm_mn pc lv st h = some (pc', st', h', dc, ds)) (hrc : cells + dc ≤ R.cells) (hrs : slots + ds ≤ R.slots)
    (K : ∀ (x : List Nat) (H : Heap), sm_lt E (ad ++ x) lv = sm_lt E ad lv → (ad ++ x).length = h'.length → va_P D vwCl (sm_w G E (ad ++ x) h') H → va_D A (sm_w G E (ad ++ x) h') → va_S A s.heap H locs → W p l e R s m args below meth c H locs (cells + dc) (slots + ds) Q (F0 m pc' ls (st'.map (sm_tr E (ad ++ x))))) : W p l e R s m args below meth c H locs cells slots Q (F0 m pc ls (st.map (sm_tr E ad))) := by
  unfold sm_mn at hs
  split at hs
  · next k n r =>
    split at hs
    · next h0 =>
      obtain ⟨h1, h2, h3, h3b, h4, h5, h6⟩ := h0
      cases hs
      rw [← hn] at h4 h5 h6
      have hcy : s.vm.findClass (FieldType.array .int).toString = some (G 0) := (hK.2 0 (G 0, .int) rfl).2
      refine va_mna (X := sm_w G E ad h) (L := []) (f := fun _ => .inr (0, [])) (cy := G 0) (N' := n.toNatClampNeg) (K' := k.toNatClampNeg) (z := (k.toNatClampNeg, .inl (fun _ => 0))) (ty := .int) hx hb hown (hts _ (hTs _ hln.1)) hO (hts _ (hTs _ hln.2)) hcy hK (by rw [show va_pl [] (fun _ => (.inr (0, []) : va_E)) = [] from rfl, List.append_nil]; exact hP) (by rw [show va_pl [] (fun _ => (.inr (0, []) : va_E)) = [] from rfl, List.append_nil]; exact hD) hS hA h1 h2 rfl rfl (by omega) (by simp only [componentBytes]; omega) (by omega) rfl rfl hrc hrs (fun c0 => arrV_new c0 _ _) hdg (fun q rr cA H1 zi zl z1 z2 z3 z4 => ?_)
      have g7 : cA = G 4 := Option.some.inj ((z1.2 5 (cA, .array .int) rfl).2.symm.trans (hK.2 4 (G 4, .array .int) rfl).2)
      subst g7
      have e1 : (sm_w G E ad h ++ [(q, .inl (G 4, n.toNatClampNeg, .inr (.inr (.inr (.inr (fun i => if i < n.toNatClampNeg then some (rr i) else none))))))]) ++ va_pl ([] ++ (List.range n.toNatClampNeg).map rr) (vr_up (fun _ => .inr (0, [])) ((List.range n.toNatClampNeg).map rr) (.inl (G 0, k.toNatClampNeg, .inl (fun _ => 0)))) = sm_w G E (ad ++ (q :: (List.range n.toNatClampNeg).map rr)) (h ++ ((104, (List.range n.toNatClampNeg).map (fun i => Value.ref (h.length + 1 + i))) :: List.replicate n.toNatClampNeg (100, List.replicate k.toNatClampNeg (.int 0)))) := by
        rw [sm_w_app hn h6, List.append_assoc, List.zipWith_cons_cons]
        congr 1
        show [_] ++ _ = _ :: _
        rw [List.singleton_append]
        congr 1
        · congr 1
          have ef : (fun j => sm_rv (ad ++ q :: (List.range n.toNatClampNeg).map rr) (((List.range n.toNatClampNeg).map (fun i => Value.ref (h.length + 1 + i))).getD j Value.null)) = fun i => if i < n.toNatClampNeg then some (rr i) else none := by
            funext j
            rw [List.getD_eq_getElem?_getD, List.getElem?_map]
            by_cases hj : j < n.toNatClampNeg
            · rw [if_pos hj, List.getElem?_range hj]
              show some _ = some _
              congr 1
              rw [List.getD_eq_getElem?_getD, ← hn, List.getElem?_append_right (by omega), show ad.length + 1 + j - ad.length = j + 1 by omega, List.getElem?_cons_succ, List.getElem?_map, List.getElem?_range hj]
              rfl
            · rw [if_neg hj, List.getElem?_eq_none (by simpa using hj)]
              rfl
          rw [sm_e_a, List.length_map, List.length_range, ef]
        · unfold va_pl
          rw [List.nil_append, List.map_map]
          apply List.ext_getElem?
          intro j
          rw [List.getElem?_map, List.getElem?_zipWith, List.getElem?_map, List.getElem?_replicate]
          by_cases hj : j < n.toNatClampNeg
          · rw [List.getElem?_range hj, if_pos hj]
            show some _ = some _
            congr 1
            show (rr j, vr_up _ _ _ (rr j)) = (rr j, _)
            rw [vr_up_in (List.mem_map.mpr ⟨j, List.mem_range.mpr hj, rfl⟩), sm_e_i, List.length_replicate, sm_rep_i]
          · rw [List.getElem?_eq_none (by simpa using hj)]
            rfl
      rw [e1] at z2 z3
      have h7 := K (q :: (List.range n.toNatClampNeg).map rr) H1 (sm_lt_app h5) (by simp [hn]) z2 z3 z4
      rw [List.map_cons, sm_st_app h4] at h7
      have h8 : sm_tr E (ad ++ (q :: (List.range n.toNatClampNeg).map rr)) (.ref h.length) = .ref q := by
        show Value.ref _ = Value.ref q
        rw [← hn, List.getD_eq_getElem?_getD]
        simp
      rw [h8, ← Nat.add_assoc, ← Nat.add_assoc] at h7
      exact h7
    · cases hs
  · cases hs
theorem sm_mk_ok (hC : sm_cnew df) (hx : p.tables.exec = Jvm.exec) (hb : c.code = cc) (hts : ∀ w ∈ Ts, w.before args s = true) (hTs : ∀ w ∈ sm_all, w ∈ Ts) (hown : s.vm.findClass own = some m.cls) (hO : (Cond.arrayOver (.array .int)).before args s = true) (hK : va_K D vwCl (sm_ty G) s) (hP : va_P D vwCl (sm_w G E ad h) H) (hD : va_D A (sm_w G E ad h)) (hS : va_S A s.heap H locs) (hA : ∀ q, s.heap.size ≤ q → A q) (hn : ad.length = h.length) {i : Instr} {len : Nat} (hdg : decode cc pc = .ok (i, len)) (hlen : sm_len i = 0 ∨ len = sm_len i) (hln : sm_lm own i dt) (hs : sm_mk df i dt pc lv st h = some (pc', st', h', dc, ds)) (hrc : cells + dc ≤ R.cells) (hrs : slots + ds ≤ R.slots)
    (K : ∀ (x : List Nat) (H : Heap), sm_lt E (ad ++ x) lv = sm_lt E ad lv → (ad ++ x).length = h'.length → va_P D vwCl (sm_w G E (ad ++ x) h') H → va_D A (sm_w G E (ad ++ x) h') → va_S A s.heap H locs → W p l e R s m args below meth c H locs (cells + dc) (slots + ds) Q (F0 m pc' ls (st'.map (sm_tr E (ad ++ x))))) : W p l e R s m args below meth c H locs cells slots Q (F0 m pc ls (st.map (sm_tr E ad))) := by
  cases i
  case newarray at0 =>
    obtain rfl := hlen.resolve_left (by intro q; cases q)
    exact sm_na_ok hx hb hts hTs hK hP hD hS hA hn hdg hln hs hrc hrs K
  case new idx =>
    obtain rfl := hlen.resolve_left (by intro q; cases q)
    exact sm_ne_ok hC hx hb hts hTs hown hK hP hD hS hA hn hdg hln hs hrc hrs K
  case multianewarray idx dim =>
    obtain rfl := hlen.resolve_left (by intro q; cases q)
    by_cases hd : dim = 2
    · subst hd
      exact sm_mn_ok hx hb hts hTs hown hO hK hP hD hS hA hn hdg hln hs hrc hrs K
    · unfold sm_mk at hs
      split at hs
      · cases ‹Instr.multianewarray _ _ = _›
      · cases ‹Instr.multianewarray _ _ = _›
      · next heq =>
        cases heq
        exact absurd rfl hd
      · cases hs
  all_goals (exact absurd hs (by intro q; cases q))
end SMA
