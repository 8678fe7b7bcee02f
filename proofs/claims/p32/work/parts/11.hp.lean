/-! The small machine's cells: an object (the number of its kind among vwCl, its fields), or an array (100 int, 101 byte, 102 boolean, 103 long, 104 arrays of int). -/
def sm_all : List Cond := lw_tbl.filter goodWord
theorem sm_all_good {w : Cond} (h : w ∈ sm_all) : (w.onTables && w.keeps) = true ∨ ∃ ty, w = .arrayClass ty := good_of_word (List.mem_filter.mp h).2
def sm_rv (ad : List Nat) : Value → Option Nat
  | .ref k => some (ad.getD k 0)
  | _ => none
def sm_e (G : Nat → ClassId) (E : Nat → Nat) (ad : List Nat) (q : sm_C) : va_E :=
  if q.1 < 100 then .inr (q.1, q.2.map (sm_tr E ad))
  else if q.1 = 103 then .inl (G 3, q.2.length, .inr (.inl (fun j => sm_lval (q.2.getD j .null))))
  else if q.1 = 104 then .inl (G 4, q.2.length, .inr (.inr (.inr (.inr (fun j => sm_rv ad (q.2.getD j .null))))))
  else .inl (G (q.1 - 100), q.2.length, .inl (fun j => sm_ival (q.2.getD j .null)))
def sm_w (G : Nat → ClassId) (E : Nat → Nat) (ad : List Nat) (h : List sm_C) : va_W := List.zipWith (fun a q => (a, sm_e G E ad q)) ad h
def sm_ty (G : Nat → ClassId) : List (ClassId × FieldType) := [(G 0, .int), (G 1, .byte), (G 2, .boolean), (G 3, .long), (G 4, .array .int)]
theorem sm_w_at {G : Nat → ClassId} {E : Nat → Nat} {ad : List Nat} {h : List sm_C} (hn : ad.length = h.length) {k : Nat} {q : sm_C} (hk : h[k]? = some q) : (sm_w G E ad h)[k]? = some (ad.getD k 0, sm_e G E ad q) := by
  have hlt : k < h.length := (List.getElem?_eq_some_iff.mp hk).1
  have ha : ad[k]? = some (ad.getD k 0) := by
    rw [List.getD_eq_getElem?_getD, List.getElem?_eq_getElem (by omega)]
    rfl
  unfold sm_w
  rw [List.getElem?_zipWith, ha, hk]
theorem sm_w_set {G : Nat → ClassId} {E : Nat → Nat} {ad : List Nat} {h : List sm_C} {k : Nat} (q : sm_C) : (sm_w G E ad h).set k (ad.getD k 0, sm_e G E ad q) = sm_w G E ad (h.set k q) := by
  unfold sm_w
  apply List.ext_getElem?
  intro j
  rw [List.getElem?_set, List.getElem?_zipWith, List.getElem?_zipWith, List.getElem?_set]
  by_cases hj : k = j
  · subst hj
    rw [if_pos rfl, if_pos rfl, List.length_zipWith, List.getD_eq_getElem?_getD]
    by_cases h1 : k < ad.length <;> by_cases h2 : k < h.length
    · rw [if_pos (by omega), if_pos h2, List.getElem?_eq_getElem h1]
      rfl
    · rw [if_neg (by omega), if_neg h2]
      cases ad[k]? <;> rfl
    · rw [if_neg (by omega), if_pos h2, List.getElem?_eq_none (by omega)]
    · rw [if_neg (by omega), if_neg h2]
      cases ad[k]? <;> rfl
  · rw [if_neg hj, if_neg hj]
theorem sm_w_len {G : Nat → ClassId} {E : Nat → Nat} {ad : List Nat} {h : List sm_C} (hn : ad.length = h.length) : (sm_w G E ad h).length = h.length := by
  unfold sm_w
  rw [List.length_zipWith]
  omega
theorem sm_e_o {G : Nat → ClassId} {E : Nat → Nat} {ad : List Nat} {ci : Nat} {fs : List Value} (h : ci < 100) : sm_e G E ad (ci, fs) = .inr (ci, fs.map (sm_tr E ad)) := if_pos h
theorem sm_e_i {G : Nat → ClassId} {E : Nat → Nat} {ad : List Nat} {fs : List Value} : sm_e G E ad (100, fs) = .inl (G 0, fs.length, .inl (fun j => sm_ival (fs.getD j .null))) := rfl
theorem sm_e_b {G : Nat → ClassId} {E : Nat → Nat} {ad : List Nat} {fs : List Value} : sm_e G E ad (101, fs) = .inl (G 1, fs.length, .inl (fun j => sm_ival (fs.getD j .null))) := rfl
theorem sm_e_z {G : Nat → ClassId} {E : Nat → Nat} {ad : List Nat} {fs : List Value} : sm_e G E ad (102, fs) = .inl (G 2, fs.length, .inl (fun j => sm_ival (fs.getD j .null))) := rfl
theorem sm_e_l {G : Nat → ClassId} {E : Nat → Nat} {ad : List Nat} {fs : List Value} : sm_e G E ad (103, fs) = .inl (G 3, fs.length, .inr (.inl (fun j => sm_lval (fs.getD j .null)))) := rfl
theorem sm_e_a {G : Nat → ClassId} {E : Nat → Nat} {ad : List Nat} {fs : List Value} : sm_e G E ad (104, fs) = .inl (G 4, fs.length, .inr (.inr (.inr (.inr (fun j => sm_rv ad (fs.getD j .null)))))) := rfl
theorem sm_upd (fs : List Value) (i : Nat) (x : Int32) (hi : i < fs.length) : upd (fun j => sm_ival (fs.getD j .null)) i x = fun j => sm_ival ((fs.set i (.int x)).getD j .null) := by
  funext j
  simp only [upd, List.getD_eq_getElem?_getD, List.getElem?_set]
  by_cases h : j = i
  · subst h
    simp [hi, sm_ival]
  · rw [if_neg h, if_neg (fun q => h q.symm)]
theorem sm_updL (fs : List Value) (i : Nat) (x : Int64) (hi : i < fs.length) : vp_updL (fun j => sm_lval (fs.getD j .null)) i x = fun j => sm_lval ((fs.set i (.long x)).getD j .null) := by
  funext j
  simp only [vp_updL, List.getD_eq_getElem?_getD, List.getElem?_set]
  by_cases h : j = i
  · subst h
    simp [hi, sm_lval]
  · rw [if_neg h, if_neg (fun q => h q.symm)]
/-- types by a number: int, boolean, long, references -/
def sm_tc : FieldType → Nat
  | .int => 0
  | .boolean => 1
  | .long => 2
  | .object _ => 3
  | .array _ => 3
  | _ => 9
def sm_fit (t : Nat) (v : Value) : Bool := match v with
  | .int x => t == 0 || (t == 1 && (x == 0 || x == 1))
  | .long _ => t == 2
  | .ref _ => t == 3
  | .null => t == 3
  | _ => false
theorem sm_fit_ok {E : Nat → Nat} {ad : List Nat} {ty : FieldType} {t : Nat} {v : Value} (ht : sm_tc ty = t) (h : sm_fit t v = true) : narrow ty (sm_tr E ad v) = sm_tr E ad v ∧ fits ty (sm_tr E ad v) = true := by
  subst ht
  cases v with
  | int x =>
    cases ty <;> simp_all [sm_fit, sm_tc, sm_tr, narrow, fits]
    rcases h with rfl | rfl <;> decide
  | long x => cases ty <;> simp_all [sm_fit, sm_tc, sm_tr, narrow, fits]
  | ref x => cases ty <;> simp_all [sm_fit, sm_tc, sm_tr, narrow, fits]
  | null => cases ty <;> simp_all [sm_fit, sm_tc, sm_tr, narrow, fits]
  | _ => cases h
abbrev sm_Rh : Type := Option (Nat × List Value × List sm_C)
def sm_gf (dt : List Nat) (pc : Nat) (st : List Value) (h : List sm_C) : sm_Rh := match dt, st with
  | [ci, k, _], .ref a :: r => match h[a]? with
    | some q => if q.1 = ci ∧ ci < 100 then match q.2[k]? with
      | some v => some (pc + 3, v :: r, h)
      | none => none
      else none
    | none => none
  | _, _ => none
def sm_pf (dt : List Nat) (pc : Nat) (st : List Value) (h : List sm_C) : sm_Rh := match dt, st with
  | [ci, k, t], v :: .ref a :: r => match h[a]? with
    | some q => if q.1 = ci ∧ ci < 100 ∧ k < q.2.length ∧ sm_fit t v = true then some (pc + 3, r, h.set a (ci, q.2.set k v)) else none
    | none => none
  | _, _ => none
/-- a place of an array of ints, bytes or truths (its kind among ks), or of one that is only read -/
def sm_il (ks : List Nat) (ro : Nat → List Int32) (pc : Nat) (st : List Value) (h : List sm_C) : sm_Rh := match st with
  | .int i :: .ref a :: r => match h[a]? with
    | some q => if q.1 ∈ ks ∧ ¬ (i < 0 ∨ q.2.length ≤ i.toNatClampNeg) then some (pc + 1, .int (sm_ival (q.2.getD i.toNatClampNeg .null)) :: r, h) else none
    | none => none
  | .int i :: .retAddr j :: r => if 100 ∈ ks ∧ ¬ (i < 0 ∨ (ro j).length ≤ i.toNatClampNeg) then some (pc + 1, .int ((ro j).getD i.toNatClampNeg 0) :: r, h) else none
  | _ => none
def sm_jl (pc : Nat) (st : List Value) (h : List sm_C) : sm_Rh := match st with
  | .int i :: .ref a :: r => match h[a]? with
    | some q => if q.1 = 103 ∧ ¬ (i < 0 ∨ q.2.length ≤ i.toNatClampNeg) then some (pc + 1, .long (sm_lval (q.2.getD i.toNatClampNeg .null)) :: r, h) else none
    | none => none
  | _ => none
def sm_al (pc : Nat) (st : List Value) (h : List sm_C) : sm_Rh := match st with
  | .int i :: .ref a :: r => match h[a]? with
    | some q => if q.1 = 104 ∧ ¬ (i < 0 ∨ q.2.length ≤ i.toNatClampNeg) then match q.2.getD i.toNatClampNeg .null with
      | .ref z => some (pc + 1, .ref z :: r, h)
      | _ => none
      else none
    | none => none
  | _ => none
def sm_nar (kd : Nat) (x : Int32) : Int32 := if kd = 101 then vp_nar .byte x else if kd = 102 then vp_nar .boolean x else x
def sm_is (ks : List Nat) (pc : Nat) (st : List Value) (h : List sm_C) : sm_Rh := match st with
  | .int x :: .int i :: .ref a :: r => match h[a]? with
    | some q => if q.1 ∈ ks ∧ ¬ (i < 0 ∨ q.2.length ≤ i.toNatClampNeg) then some (pc + 1, r, h.set a (q.1, q.2.set i.toNatClampNeg (.int (sm_nar q.1 x)))) else none
    | none => none
  | _ => none
def sm_js (pc : Nat) (st : List Value) (h : List sm_C) : sm_Rh := match st with
  | .long x :: .int i :: .ref a :: r => match h[a]? with
    | some q => if q.1 = 103 ∧ ¬ (i < 0 ∨ q.2.length ≤ i.toNatClampNeg) then some (pc + 1, r, h.set a (103, q.2.set i.toNatClampNeg (.long x))) else none
    | none => none
  | _ => none
def sm_ln (ro : Nat → List Int32) (pc : Nat) (st : List Value) (h : List sm_C) : sm_Rh := match st with
  | .ref a :: r => match h[a]? with
    | some q => if 100 ≤ q.1 ∧ q.1 ≤ 104 then some (pc + 1, .int (Int32.ofNat q.2.length) :: r, h) else none
    | none => none
  | .retAddr j :: r => if ro j ≠ [] ∨ j = 1 then some (pc + 1, .int (Int32.ofNat (ro j).length) :: r, h) else none
  | _ => none
/-- a constant of the pool: 0 an int, 1 a text, 2 a long -/
def sm_ko (dt : List Nat) (pc n : Nat) (st : List Value) (h : List sm_C) : sm_Rh := match dt with
  | [0, x] => some (pc + n, .int (Int32.ofNat x) :: st, h)
  | [1, x] => some (pc + n, .retAddr x :: st, h)
  | [2, x] => some (pc + n, .long (Int64.ofNat x) :: st, h)
  | _ => none
/-- a step that reads or writes cells, or takes a constant -/
def sm_hp (ro : Nat → List Int32) (i : Instr) (dt : List Nat) (pc : Nat) (st : List Value) (h : List sm_C) : sm_Rh := match i with
  | .getfield _ => sm_gf dt pc st h
  | .putfield _ => sm_pf dt pc st h
  | .iaload => sm_il [100] ro pc st h
  | .baload => sm_il [101, 102] ro pc st h
  | .laload => sm_jl pc st h
  | .aaload => sm_al pc st h
  | .iastore => sm_is [100] pc st h
  | .bastore => sm_is [101, 102] pc st h
  | .lastore => sm_js pc st h
  | .arraylength => sm_ln ro pc st h
  | .ldc _ => sm_ko dt pc 2 st h
  | .ldc2_w _ => sm_ko dt pc 3 st h
  | .ldc_w _ => sm_ko dt pc 3 st h
  | .getstatic _ => sm_ko dt pc 3 st h
  | _ => none
/-- the words of a field at a use -/
def sm_fl (own : String) (idx ci k t : Nat) : Prop := ∃ (C : String) (T : u_T) (N : Nat) (ty : FieldType), vwCl[ci]? = some (C, T, N) ∧ k < N ∧ parseFieldDescriptor (T k).2.2.1 = some ty ∧ sm_tc ty = t ∧ (Cond.fieldLink own idx (T k).1 (T k).2.1 (T k).2.2.1 ∈ sm_all ∨ ∃ host, (own, idx, (T k).1, (T k).2.1, (T k).2.2.1, host) ∈ nfl)
def sm_fp (own : String) (ini : Bool) (idx ci k t : Nat) : Prop := ∃ (C : String) (T : u_T) (N : Nat) (ty : FieldType), vwCl[ci]? = some (C, T, N) ∧ k < N ∧ parseFieldDescriptor (T k).2.2.1 = some ty ∧ sm_tc ty = t ∧
  (((T k).2.2.2 = false ∧ (Cond.fieldLink own idx (T k).1 (T k).2.1 (T k).2.2.1 ∈ sm_all ∨ ∃ host, (own, idx, (T k).1, (T k).2.1, (T k).2.2.1, host) ∈ nfl)) ∨ ((T k).2.2.2 = true ∧ ini = true ∧ (T k).1 = own ∧ Cond.fieldLink own idx (T k).1 (T k).2.1 (T k).2.2.1 ∈ sm_all))
def sm_kl (own : String) (idx : Nat) (dt : List Nat) : Prop := match dt with
  | [0, x] => Cond.constant own idx (Int32.ofNat x) ∈ sm_all
  | [1, x] => own = RX3 ∧ idx = 58 ∧ x = 0
  | [2, x] => Cond.constantLong own idx (Int64.ofNat x) ∈ sm_all
  | _ => False
/-- what must be known of an instruction with its resolved numbers -/
def sm_lh (own : String) (ini : Bool) (i : Instr) (dt : List Nat) : Prop := match i with
  | .getfield idx => ∀ ci k t, dt = [ci, k, t] → sm_fl own idx ci k t
  | .putfield idx => ∀ ci k t, dt = [ci, k, t] → sm_fp own ini idx ci k t
  | .ldc idx => (∀ x, dt = [0, x] → Cond.constant own idx (Int32.ofNat x) ∈ sm_all) ∧ (∀ x, dt = [1, x] → own = RX3 ∧ idx = 58 ∧ x = 0) ∧ ∀ x, dt ≠ [2, x]
  | .ldc_w idx => (∀ x, dt = [0, x] → Cond.constant own idx (Int32.ofNat x) ∈ sm_all) ∧ (∀ x, dt ≠ [1, x]) ∧ ∀ x, dt ≠ [2, x]
  | .getstatic idx => (∀ x, dt = [1, x] → own = RX3 ∧ idx = 170 ∧ x = 2) ∧ (∀ x, dt ≠ [0, x]) ∧ ∀ x, dt ≠ [2, x]
  | .ldc2_w idx => (∀ x, dt = [2, x] → Cond.constantLong own idx (Int64.ofNat x) ∈ sm_all) ∧ (∀ x, dt ≠ [0, x]) ∧ ∀ x, dt ≠ [1, x]
  | _ => True
/-- what is known of the objects' kinds -/
def sm_clok : Prop := ∀ (ci : Nat) (C : String) (T : u_T) (N : Nat), vwCl[ci]? = some (C, T, N) → (∀ w ∈ u_ws C T N, w ∈ sm_all) ∧ ∃ ty0 : Nat → FieldType, (∀ k, k < N → parseFieldDescriptor (T k).2.2.1 = some (ty0 k)) ∧ (∀ a, a < N → ∀ b, b < N → a ≠ b → (T a).2.1 ≠ (T b).2.1)
section SMH
variable {p : Program} {l : Launch} {e : Env} {R : Room} {s : State} {m : MethodId} {args : Array Value} {below : List Frame} {meth : Method} {c : Code} {H : Heap} {locs : List Loc} {cells slots : Nat} {Q : State → Prop}
variable {cc : ByteArray} {pc ml pc' : Nat} {ls : Array Slot} {E : Nat → Nat} {ad : List Nat} {st st' : List Value} {h h' : List sm_C} {D : va_G} {G : Nat → ClassId} {A : Nat → Prop} {H0 : Heap} {Ts : List Cond} {own : String} {ini : Bool} {ro : Nat → List Int32} {dt : List Nat}
theorem sm_nest_f {idx : Nat} {r n d host : String} (hN : nw_ok s) (hm : (own, idx, r, n, d, host) ∈ nfl) : (Cond.fieldLinkNest own idx r n d host).before args s = true := va_Nw.use rfl (hN.1 _ hm)
theorem sm_gf_ok (hC : sm_clok) (hx : p.tables.exec = Jvm.exec) (hb : c.code = cc) (hts : ∀ w ∈ Ts, w.before args s = true) (hTs : ∀ w ∈ sm_all, w ∈ Ts) (hown : s.vm.findClass own = some m.cls) (hK : va_K D vwCl (sm_ty G) s) (hN : nw_ok s) (hP : va_P D vwCl (sm_w G E ad h) H) (hn : ad.length = h.length) {idx : Nat} (hdg : decode cc pc = .ok (.getfield idx, 3)) (hln : ∀ ci k t, dt = [ci, k, t] → sm_fl own idx ci k t) (hs : sm_gf dt pc st h = some (pc', st', h'))
    (K : h' = h → W p l e R s m args below meth c H locs cells slots Q (F0 m pc' ls (st'.map (sm_tr E ad)))) : W p l e R s m args below meth c H locs cells slots Q (F0 m pc ls (st.map (sm_tr E ad))) := by
  unfold sm_gf at hs
  split at hs
  · next ci k t a r =>
    obtain ⟨C, T, N, ty, h1, h2, h3, h4, h5⟩ := hln ci k t rfl
    split at hs
    · next q hq =>
      split at hs
      · next h6 =>
        obtain ⟨kd, fs⟩ := q
        obtain ⟨h6, h7⟩ := h6
        dsimp only at h6
        subst h6
        split at hs
        · next v hv =>
          cases hs
          have he := sm_w_at (G := G) (E := E) hn hq
          rw [sm_e_o h7] at he
          have hv2 : (fs.map (sm_tr E ad))[k]? = some (sm_tr E ad v) := by rw [List.getElem?_map, hv]; rfl
          have hin := fun w hw => hTs w ((hC _ _ _ _ h1).1 w hw)
          rcases h5 with h5 | ⟨host, h5⟩
          · exact va_get hx hb hts hin hown hK hP a he h1 k h2 (hts _ (hTs _ h5)) (fun _ z => z) hv2 hdg (K rfl)
          · exact va_getN hx hb hts hin hown hK hP a he h1 k h2 (sm_nest_f hN h5) (fun _ z => z) hv2 hdg (K rfl)
        · cases hs
      · cases hs
    · cases hs
  · cases hs
theorem sm_pf_ok (hC : sm_clok) (hx : p.tables.exec = Jvm.exec) (hb : c.code = cc) (hts : ∀ w ∈ Ts, w.before args s = true) (hTs : ∀ w ∈ sm_all, w ∈ Ts) (hown : s.vm.findClass own = some m.cls) (hi : ini = true → meth.name = "<init>") (hK : va_K D vwCl (sm_ty G) s) (hN : nw_ok s) (hP : va_P D vwCl (sm_w G E ad h) H) (hD : va_D A (sm_w G E ad h)) (hS : va_S A H0 H locs) (hn : ad.length = h.length) {idx : Nat} (hdg : decode cc pc = .ok (.putfield idx, 3)) (hln : ∀ ci k t, dt = [ci, k, t] → sm_fp own ini idx ci k t) (hs : sm_pf dt pc st h = some (pc', st', h'))
    (K : ∀ (H : Heap) (locs : List Loc), va_P D vwCl (sm_w G E ad h') H → va_D A (sm_w G E ad h') → va_S A H0 H locs → ad.length = h'.length → W p l e R s m args below meth c H locs cells slots Q (F0 m pc' ls (st'.map (sm_tr E ad)))) : W p l e R s m args below meth c H locs cells slots Q (F0 m pc ls (st.map (sm_tr E ad))) := by
  unfold sm_pf at hs
  split at hs
  · next ci k t v a r =>
    obtain ⟨C, T, N, ty, h1, h2, h3, h4, h5⟩ := hln ci k t rfl
    split at hs
    · next q hq =>
      split at hs
      · next h6 =>
        obtain ⟨kd, fs⟩ := q
        obtain ⟨h6, h7, h8, h9⟩ := h6
        dsimp only at h6 h8
        subst h6
        cases hs
        have he := sm_w_at (G := G) (E := E) hn hq
        rw [sm_e_o h7] at he
        obtain ⟨f1, f2⟩ := sm_fit_ok (E := E) (ad := ad) h4 h9
        have hin := fun w hw => hTs w ((hC _ _ _ _ h1).1 w hw)
        obtain ⟨ty0, g1, g2⟩ := (hC _ _ _ _ h1).2
        have hl : k < (fs.map (sm_tr E ad)).length := by rw [List.length_map]; exact h8
        have e1 : (sm_w G E ad h).set a (ad.getD a 0, .inr (kd, (fs.map (sm_tr E ad)).set k (sm_tr E ad v))) = sm_w G E ad (h.set a (kd, fs.set k v)) := by
          rw [← sm_w_set, sm_e_o h7, List.map_set]
        have K2 : ∀ (H : Heap) (locs : List Loc), va_P D vwCl ((sm_w G E ad h).set a (ad.getD a 0, .inr (kd, (fs.map (sm_tr E ad)).set k (sm_tr E ad v)))) H → va_D A ((sm_w G E ad h).set a (ad.getD a 0, .inr (kd, (fs.map (sm_tr E ad)).set k (sm_tr E ad v)))) → va_S A H0 H locs → W p l e R s m args below meth c H locs cells slots Q (F0 m (pc + 3) ls (st'.map (sm_tr E ad))) := fun H locs z1 z2 z3 => by
          rw [e1] at z1 z2
          exact K H locs z1 z2 z3 (by rw [List.length_set]; exact hn)
        rcases h5 with ⟨q1, q2 | ⟨host, q2⟩⟩ | ⟨q1, q2, q3, q4⟩
        · exact va_put hx hb hts hin ty0 g1 g2 hown hK hP hD hS a he h1 k h2 (hts _ (hTs _ q2)) (fun _ z => z) q1 h3 f1 f2 hl hdg K2
        · exact va_putN hx hb hts hin ty0 g1 g2 hown hK hP hD hS a he h1 k h2 (sm_nest_f hN q2) (fun _ z => z) q1 h3 f1 f2 hl hdg K2
        · exact va_putF hx hb hts hin ty0 g1 g2 hown hK hP hD hS a he h1 k h2 (hts _ (hTs _ q4)) (fun _ z => z) q1 (hi q2) q3 h3 f1 f2 hl hdg K2
      · cases hs
    · cases hs
  · cases hs
end SMH
