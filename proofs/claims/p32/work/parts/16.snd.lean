/-! What the small machine does, the machine does. -/
def sm_pre (D : va_G) (G : Nat → ClassId) (E : Nat → Nat) (ro : Nat → List Int32) (ad : List Nat) (h : List sm_C) (sz : Nat) (U : State) : Prop := U.heap.size = sz ∧ va_P D vwCl (sm_w G E ad h) U.heap ∧ va_K D vwCl (sm_ty G) U ∧ va_D (fun _ => True) (sm_w G E ad h) ∧ nw_ok U ∧ sm_ex E ro (va_A (sm_w G E ad h) sz) U U.heap
def sm_post (D : va_G) (G : Nat → ClassId) (E : Nat → Nat) (ad : List Nat) (v : Option Value) (h' : List sm_C) (A : Nat → Prop) : Array Value → State → Outcome → State → Prop := fun _ st oc t => (∃ x : List Nat, (ad ++ x).length = h'.length ∧ oc = .returned (v.map (sm_tr E (ad ++ x))) ∧ va_P D vwCl (sm_w G E (ad ++ x) h') t.heap ∧ va_D A (sm_w G E (ad ++ x) h')) ∧ va_F A st t
def sm_ws (M : sm_M) : List Cond := Cond.code M.1 M.2.1 M.2.2.1 M.2.2.2.1 :: sm_all
def sm_rm (d dc ds : Nat) : Room := { frames := d, cells := dc, slots := ds, locals := 64 * d }
def sm_mok (M : sm_M) : Prop := plainName M.1.cls = true ∧ Cond.code M.1 M.2.1 M.2.2.1 M.2.2.2.1 ∈ sm_all ∧ Cond.initialized M.1.cls ∈ sm_all ∧ (M.1.cls ≠ "java/lang/invoke/MethodHandle" ∧ M.1.cls ≠ "java/lang/invoke/VarHandle" ∧ (parseMethodDescriptor M.1.desc).map (fun d => d.parameters.length) = some M.2.2.2.2.1) ∧
  (M.2.2.2.2.2.1 = 0 → Cond.static M.1 ∈ sm_all) ∧ (M.2.2.2.2.2.1 = 1 → Cond.instanceMethod M.1 ∈ sm_all ∧ Cond.selects M.1.cls M.1 M.1 ∈ sm_all ∧ ∃ (T : u_T) (N : Nat), vwCl[M.2.2.2.2.2.2]? = some (M.1.cls, T, N)) ∧ (M.2.2.2.2.2.1 = 2 → Cond.instanceMethod M.1 ∈ sm_all ∧ M.1.name = "<init>" ∧ M.2.2.2.1 = none)
def sm_ml (own : String) (idx : Nat) (y : MethodName) : Prop := Cond.methodLink own idx y ∈ sm_all ∨ ∃ host, (own, idx, y, host) ∈ nml
def sm_lc (P : sm_P) (own : String) (i : Instr) (dt : List Nat) : Prop := match i with
  | .invokevirtual idx => ∀ mid M, dt = [mid] → P mid = some M → sm_ml own idx M.1 ∧ sm_mok M
  | .invokestatic idx => ∀ mid M, dt = [mid] → P mid = some M → sm_ml own idx M.1 ∧ sm_mok M
  | .invokespecial idx => ∀ mid M, dt = [mid] → P mid = some M → sm_ml own idx M.1 ∧ sm_mok M
  | _ => True
def sm_pok (P : sm_P) (K : sm_K) (L : String → Instr → List Nat → Prop) : Prop := ∀ (mid : Nat) (M : sm_M) (pc : Nat) (i : Instr) (len : Nat) (dt : List Nat), P mid = some M → K mid pc = some (i, len, dt) → decode M.2.1 pc = .ok (i, len) ∧ (sm_len i = 0 ∨ len = sm_len i) ∧ sm_lh M.1.cls (decide (M.2.2.2.2.2.1 = 2)) i dt ∧ sm_lm M.1.cls i dt ∧ sm_lc P M.1.cls i dt ∧ L M.1.cls i dt
def sm_cx (D : va_G) (G : Nat → ClassId) (E : Nat → Nat) (ro : Nat → List Int32) (p : Program) (s : State) (m : MethodId) (args : Array Value) (meth : Method) (c : Code) (A : Nat → Prop) (Ts : List Cond) (own : String) (ini : Bool) (cc : ByteArray) (ml : Nat) : Prop := p.tables.exec = Jvm.exec ∧ c.code = cc ∧ c.maxLocals = ml ∧ (∀ w ∈ Ts, w.before args s = true) ∧ (∀ w ∈ sm_all, w ∈ Ts) ∧ s.vm.findClass own = some m.cls ∧ (ini = true → meth.name = "<init>") ∧ va_K D vwCl (sm_ty G) s ∧ nw_ok s ∧ sm_ex E ro A s s.heap ∧ ∀ q, s.heap.size ≤ q → A q
/-- a call that is taken as one step -/
def sm_XOK (l : Launch) (D : va_G) (G : Nat → ClassId) (E : Nat → Nat) (ro : Nat → List Int32) (X : sm_X) (L : String → Instr → List Nat → Prop) : Prop :=
  ∀ (p : Program) (e : Env) (R : Room) (s : State) (m : MethodId) (args : Array Value) (below : List Frame) (meth : Method) (c : Code) (Q : State → Prop) (A : Nat → Prop) (Ts : List Cond) (own : String) (ini : Bool) (cc : ByteArray) (ml : Nat) (d : Nat) (i : Instr) (dt : List Nat) (pc : Nat) (ls : Array Slot) (ad : List Nat) (st st' : List Value) (h h' : List sm_C) (dc ds : Nat) (H : Heap) (locs : List Loc) (cells slots len : Nat),
    X d i dt st h = some (st', h', dc, ds) → L own i dt → sm_cx D G E ro p s m args meth c A Ts own ini cc ml → ls.size = ml → decode cc pc = .ok (i, len) → (sm_len i = 0 ∨ len = sm_len i) → cells + dc ≤ R.cells → slots + ds ≤ R.slots → d ≤ R.frames → 64 * d ≤ R.locals → ad.length = h.length → va_P D vwCl (sm_w G E ad h) H → va_D A (sm_w G E ad h) → va_S A s.heap H locs →
    (∀ (H : Heap) (locs : List Loc), ad.length = h'.length → va_P D vwCl (sm_w G E ad h') H → va_D A (sm_w G E ad h') → va_S A s.heap H locs → W p l e R s m args below meth c H locs (cells + dc) (slots + ds) Q (F0 m (pc + 3) ls (st'.map (sm_tr E ad)))) →
    W p l e R s m args below meth c H locs cells slots Q (F0 m pc ls (st.map (sm_tr E ad)))
theorem sm_free {A : Nat → Prop} {ws : va_W} {H0 H : Heap} {locs : List Loc} (hD : va_D A ws) (hS : va_S A H0 H locs) (hA : ∀ q, H0.size ≤ q → A q) : ∀ q, va_A ws H.size q → A q := by
  intro q h
  rcases h with ⟨k, e, h⟩ | h
  · exact hD.2 k (q, e) h
  · exact hA q (Nat.le_trans hS.1 h)
theorem sm_good {Ts : List Cond} {M : sm_M} (hTs : ∀ w ∈ sm_all, w ∈ Ts) (hM : Cond.code M.1 M.2.1 M.2.2.1 M.2.2.2.1 ∈ sm_all) : GoodIn Ts (sm_ws M) := by
  intro w hw
  rcases List.mem_cons.mp hw with rfl | hw
  · exact ⟨hTs _ hM, sm_all_good hM⟩
  · exact ⟨hTs _ hw, sm_all_good hw⟩
theorem sm_lv_args (E : Nat → Nat) (ad : List Nat) : ∀ (k : Nat) (as : List Value), lv_args k (as.map (sm_tr E ad)) = sm_lt E ad (lv_args k as)
  | _, [] => rfl
  | k, v :: vs => by
    rw [List.map_cons, lv_args, lv_args, sm_tr_cat, sm_lv_args E ad _ vs]
    rfl
theorem sm_sl_len (E : Nat → Nat) (ad : List Nat) (as : List Value) : (lg_sl (as.map (sm_tr E ad))).length = (lg_sl as).length := by
  unfold lg_sl
  induction as with
  | nil => rfl
  | cons v vs ih =>
    rw [List.map_cons, List.flatMap_cons, List.flatMap_cons, List.length_append, List.length_append, ih, sm_tr_cat]
    by_cases h : v.category = 2
    · rw [if_pos h, if_pos h]; rfl
    · rw [if_neg h, if_neg h]; rfl
theorem sm_cats (E : Nat → Nat) (ad : List Nat) (r : List Value) : ((r.map (sm_tr E ad)).map fun v => v.category) = r.map fun v => v.category := by
  rw [List.map_map]
  exact List.map_congr_left fun v _ => sm_tr_cat E ad v
theorem sm_ret_len {rt : Option FieldType} {i : Instr} {st : List Value} {v : Option Value} (h : sm_ret rt i st = some v) : sm_len i = 1 := by
  unfold sm_ret at h
  split at h <;> first | rfl | cases h
section SMR
variable {p : Program} {l : Launch} {e : Env} {R : Room} {s : State} {m : MethodId} {args : Array Value} {below : List Frame} {meth : Method} {c : Code} {H : Heap} {locs : List Loc} {cells slots : Nat} {Q : State → Prop}
variable {pc : Nat} {ls : Array Slot} {rest st0 : List Value} {a : Array Value} {A0 A1 : Nat → Prop} {H0 : Heap} {mc ms : Nat} {free : Addr → Prop} {D : va_G} {G : Nat → ClassId} {E : Nat → Nat} {ad : List Nat} {v : Option Value} {h1 : List sm_C}
theorem sm_callg (hr : va_Run p l e R s m args below meth c H locs cells slots mc ms (F0 m pc ls st0) rest (sm_post D G E ad v h1 A1 a) free) (hS : va_S A0 H0 H locs) (hA : ∀ q, q < H.size → A1 q → A0 q) (hf : ∀ q, free q → A0 q)
    (kk : ∀ (x : List Nat) (H1 : Heap) (locs1 : List Loc), (ad ++ x).length = h1.length → va_P D vwCl (sm_w G E (ad ++ x) h1) H1 → va_D A1 (sm_w G E (ad ++ x) h1) → va_S A0 H0 H1 locs1 → W p l e R s m args below meth c H1 locs1 (cells + mc) (slots + ms) Q (F0 m (pc + 3) ls ((v.map (sm_tr E (ad ++ x))).toList ++ rest))) : W p l e R s m args below meth c H locs cells slots Q (F0 m pc ls st0) := by
  intro T hT X
  obtain ⟨w, st₀, t, T', L, h0, X', hL, e1, e2, ⟨⟨x, hx1, hv, hp, hd⟩, hz, hk⟩, st⟩ := hr T hT X
  cases hv
  rw [h0] at hz hk
  obtain ⟨t2, a1, b1⟩ := kk x T'.heap (locs ++ L) hx1 (by rw [e1]; exact hp) hd
    ⟨Nat.le_trans hS.1 (by rw [e1]; exact hz), fun q h1 h2 => by rw [e1, hk q (Nat.lt_of_lt_of_le h1 hS.1) (fun z => h2 (hA q (Nat.lt_of_lt_of_le h1 hS.1) z))]; exact hS.2.1 q h1 h2, fun q hq => by
      rcases List.mem_append.mp hq with h | h
      · exact hS.2.2 q h
      · exact hf _ (hL q h)⟩ T' rfl X'
  exact ⟨t2, st t2 a1, b1⟩
end SMR
/-- what is shown of a run of n steps at most -/
def sm_S (l : Launch) (D : va_G) (G : Nat → ClassId) (E : Nat → Nat) (P : sm_P) (K : sm_K) (df : Nat → List Value) (ro : Nat → List Int32) (X : sm_X) (n : Nat) : Prop :=
  ∀ (d mid : Nat) (M : sm_M) (pc : Nat) (lv : sm_L) (st : List Value) (h : List sm_C) (cn sn : Nat) (v : Option Value) (h' : List sm_C) (c' s' : Nat), P mid = some M → sx P K df ro X n d mid pc lv st h cn sn = some (v, h', c', s') →
  ∀ (p : Program) (e : Env) (R : Room) (s : State) (m : MethodId) (args : Array Value) (below : List Frame) (meth : Method) (c : Code) (Q : State → Prop) (A : Nat → Prop) (Ts : List Cond), sm_cx D G E ro p s m args meth c A Ts M.1.cls (decide (M.2.2.2.2.2.1 = 2)) M.2.1 M.2.2.1 → c' ≤ R.cells → s' ≤ R.slots → d ≤ R.frames → 64 * d ≤ R.locals →
  ∀ (ad : List Nat) (H : Heap) (locs : List Loc) (ls : Array Slot), ad.length = h.length → lv_has ls M.2.2.1 (sm_lt E ad lv) → va_P D vwCl (sm_w G E ad h) H → va_D A (sm_w G E ad h) → va_S A s.heap H locs →
  (∀ (x : List Nat) (H : Heap) (locs : List Loc) (ls : Array Slot) (pcr : Nat) (i : Instr) (sr : List Value), sm_ret M.2.2.2.1 i sr = some v → decode M.2.1 pcr = .ok (i, 1) → (ad ++ x).length = h'.length → va_P D vwCl (sm_w G E (ad ++ x) h') H → va_D A (sm_w G E (ad ++ x) h') → va_S A s.heap H locs → W p l e R s m args below meth c H locs c' s' Q (F0 m pcr ls (sr.map (sm_tr E (ad ++ x))))) →
  W p l e R s m args below meth c H locs cn sn Q (F0 m pc ls (st.map (sm_tr E ad)))
section SMB
variable {l : Launch} {D : va_G} {G : Nat → ClassId} {E : Nat → Nat} {P : sm_P} {K : sm_K} {df : Nat → List Value} {ro : Nat → List Int32} {X : sm_X} {L : String → Instr → List Nat → Prop} {n : Nat}
/-- a callee's contract out of its run -/
theorem sm_met (ih : sm_S l D G E P K df ro X n) {d mid : Nat} {M : sm_M} {as : List Value} {h h1 : List sm_C} {v : Option Value} {dc ds : Nat} (hPm : P mid = some M) (hok : sm_mok M) (hlen : (lg_sl as).length ≤ M.2.2.1) (hrun : sx P K df ro X n d mid 0 (lv_args 0 as) [] h 0 0 = some (v, h1, dc, ds)) (ad : List Nat) (sz : Nat) (hn : ad.length = h.length) :
    Met l M.1 (sm_ws M) (sm_rm d dc ds) (va_Pc (as.map (sm_tr E ad)) (sm_pre D G E ro ad h sz)) (sm_post D G E ad v h1 (va_A (sm_w G E ad h) sz)) dc ds (va_A (sm_w G E ad h) sz) := by
  refine Met.ofW (cc := M.2.1) (maxL := M.2.2.1) (ret := M.2.2.2.1) hok.1 rfl ?_
  intro p e s m args below meth c s₁ B hml hv
  obtain ⟨rfl, hsz, hP, hK, hD0, hN, hX⟩ := hv
  have hx := B.exec
  have hb := B.bytes
  have hr := B.returns
  have hts := atoms_spec (ws := sm_ws M) B.pre
  have hown : s.vm.findClass M.1.cls = some m.cls := findClass_of_methodNamed B.named
  have hlocks := B.notSynchronized
  subst hsz
  have hD := hD0.self (sz := s.heap.size)
  have hA : ∀ q : Nat, s.heap.size ≤ q → va_A (sm_w G E ad h) s.heap.size q := fun q h => Or.inr h
  have hl := lv_entry (as.map (sm_tr E ad)) (n := M.2.2.1) (by rw [sm_sl_len]; exact hlen)
  rw [lg_entry_eq]
  generalize (lg_sl (as.map (sm_tr E ad)) ++ List.replicate (M.2.2.1 - (lg_sl (as.map (sm_tr E ad))).length) Slot.unset).toArray = ls at hl ⊢
  rw [sm_lv_args] at hl
  refine ih d mid M 0 (lv_args 0 as) [] h 0 0 v h1 dc ds hPm hrun p e _ s m _ below meth c _ (va_A (sm_w G E ad h) s.heap.size) (sm_ws M) ⟨hx, hb, hml, hts, fun w hw => List.mem_cons_of_mem _ hw, hown, fun q => ((name_of_methodNamed B.named B.method).1).trans (hok.2.2.2.2.2.2 (of_decide_eq_true q)).2.1, hK, hN, hX, hA⟩ (Nat.le_refl _) (Nat.le_refl _) (Nat.le_refl _) (Nat.le_refl _) ad s.heap [] ls hn hl hP hD va_S.rf ?_
  intro x H locs ls pcr i sr hret hdg hlx hP hD hS
  unfold sm_ret at hret
  split at hret
  · next z =>
    split at hret
    · next hrt =>
      cases hret
      rcases hrt with hrt | ⟨hrt, h01⟩
      · exact W.iret hx hb (hr.trans hrt) (fun t ht hW => ⟨⟨x, hlx, rfl, by rw [ht]; exact hP, hD⟩, hS.F ht⟩) hS.2.2 hdg
      · exact W.zret (ty := .boolean) hx hb (hr.trans hrt) (by rcases h01 with rfl | rfl <;> decide) (fun t ht hW => ⟨⟨x, hlx, rfl, by rw [ht]; exact hP, hD⟩, hS.F ht⟩) hS.2.2 hdg
    · cases hret
  · next z =>
    split at hret
    · next hrt =>
      cases hret
      exact W.lret hx hb (hr.trans hrt) (fun t ht hW => ⟨⟨x, hlx, rfl, by rw [ht]; exact hP, hD⟩, hS.F ht⟩) hS.2.2 hdg
    · cases hret
  · split at hret
    · next hrt =>
      cases hret
      exact W.vret hx hb (hr.trans hrt) (fun t ht hW => ⟨⟨x, hlx, rfl, by rw [ht]; exact hP, hD⟩, hS.F ht⟩) hS.2.2 hdg
    · cases hret
  · cases hret
end SMB
