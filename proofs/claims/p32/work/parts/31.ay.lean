/-! The interpreter over what is known: one step. Numbers are forced as they come (the kernel is lazy). -/
noncomputable def kf (x : Nat) (k : Nat → Bool) : Bool := Nat.rec (motive := fun _ => Bool) (k 0) (fun m _ => k (Nat.succ m)) x
theorem kf_eq (x : Nat) (k : Nat → Bool) : kf x k = k x := by cases x <;> rfl
noncomputable def ki (x : Int) (k : Int → Bool) : Bool := Int.rec (motive := fun _ => Bool) (fun m => kf m (fun m => k (.ofNat m))) (fun m => kf m (fun m => k (.negSucc m))) x
theorem ki_eq (x : Int) (k : Int → Bool) : ki x k = k x := by
  cases x with
  | ofNat m => exact kf_eq m (fun m => k (.ofNat m))
  | negSucc m => exact kf_eq m (fun m => k (.negSucc m))
noncomputable def kq (q : Nat × Int) (k : Nat × Int → Bool) : Bool := kf q.1 (fun a => ki q.2 (fun b => k (a, b)))
theorem kq_eq (q : Nat × Int) (k : Nat × Int → Bool) : kq q k = k q := by
  unfold kq
  rw [kf_eq, ki_eq]
noncomputable def kv (v : ab_V) (k : ab_V → Bool) : Bool := Sum.rec (motive := fun _ => Bool) (fun q => kq q (fun q => k (.inl q))) (fun r => Sum.rec (motive := fun _ => Bool) (fun q => kq q (fun q => k (.inr (.inl q)))) (fun r2 => k (.inr (.inr r2))) r) v
theorem kv_eq (v : ab_V) (k : ab_V → Bool) : kv v k = k v := by
  rcases v with q | q | q
  · exact kq_eq q (fun q => k (.inl q))
  · exact kq_eq q (fun q => k (.inr (.inl q)))
  · rfl
/-- the topmost forced -/
noncomputable def kt1 (sa : List ab_V) (k : List ab_V → Bool) : Bool := List.rec (motive := fun _ => Bool) (k []) (fun a r _ => kv a (fun a => k (a :: r))) sa
theorem kt1_eq (sa : List ab_V) (k : List ab_V → Bool) : kt1 sa k = k sa := by
  cases sa with
  | nil => rfl
  | cons a r => exact kv_eq a (fun a => k (a :: r))
noncomputable def kla (la : ab_L) : (ab_L → Bool) → Bool := List.rec (motive := fun _ => (ab_L → Bool) → Bool) (fun k => k []) (fun q _ ih k => kf q.1 (fun j => kv q.2 (fun v => ih (fun r => k ((j, v) :: r))))) la
theorem kla_eq (la : ab_L) (k : ab_L → Bool) : kla la k = k la := by
  induction la generalizing k with
  | nil => rfl
  | cons q r ih =>
    show kf q.1 (fun j => kv q.2 (fun v => kla r (fun r => k ((j, v) :: r)))) = _
    rw [kf_eq, kv_eq, ih]
noncomputable def kls (sa : List ab_V) : (List ab_V → Bool) → Bool := List.rec (motive := fun _ => (List ab_V → Bool) → Bool) (fun k => k []) (fun q _ ih k => ih (fun r => k (q :: r))) sa
theorem kls_eq (sa : List ab_V) (k : List ab_V → Bool) : kls sa k = k sa := by
  induction sa generalizing k with
  | nil => rfl
  | cons q r ih =>
    show kls r (fun r => k (q :: r)) = _
    rw [ih]
/-- what is written, forced -/
noncomputable def kw (w : ab_W) (k : ab_W → Bool) : Bool := match w with
  | .inl u => k (.inl u)
  | .inr (a, kd, len, .inl (ft, j, v)) => kf j (fun j => k (.inr (a, kd, len, .inl (ft, j, v))))
  | .inr (a, kd, len, .inr z) => ki z.1 (fun z1 => ki z.2 (fun z2 => k (.inr (a, kd, len, .inr (z1, z2)))))
theorem kw_eq (w : ab_W) (k : ab_W → Bool) : kw w k = k w := by
  unfold kw
  split
  · rfl
  · rw [kf_eq]
  · rw [ki_eq, ki_eq]
/-- an instruction (is it watched, of which group, itself, its length, its numbers); a method (how many it is given, how called, of which kind, locals, what it answers, its code) -/
abbrev ab_F : Type := Nat × Nat × ab_L × List ab_V × Nat × Nat
def ab_rt (k : Nat) : Option FieldType := match k with
  | 0 => none
  | 1 => some .int
  | 2 => some .boolean
  | 3 => some .long
  | _ => some .float
def ab_mR (P : sm_P) (K : sm_K) (mid : Nat) (m : ab_M) : Prop := ∃ M : sm_M, P mid = some M ∧ M.2.2.2.2.1 = m.1 ∧ M.2.2.2.2.2.1 = m.2.1 ∧ M.2.2.2.2.2.2 = m.2.2.1 ∧ M.2.2.1 = m.2.2.2.1 ∧ M.2.2.2.1 = ab_rt m.2.2.2.2.1 ∧ ∀ (pc : Nat) (e : ab_I), ab_get m.2.2.2.2.2 pc = some e → K mid pc = some (e.2.2.1, e.2.2.2.1, e.2.2.2.2)
def ab_mtR (P : sm_P) (K : sm_K) (mt : Lean.RArray (Nat × ab_M)) : Prop := ∀ (mid : Nat) (m : ab_M), ab_get mt mid = some m → ab_mR P K mid m
def ab_fR (ρ : List Int) (fs : List ab_F) (cs : ev_C) : Prop := ab_all2 (fun a b => a.1 = b.1 ∧ a.2.1 = b.2.1 ∧ ab_lR ρ a.2.2.1 b.2.2.1 ∧ ab_sR ρ a.2.2.2.1 b.2.2.2.1 ∧ a.2.2.2.2.1 = b.2.2.2.2.1 ∧ a.2.2.2.2.2 = b.2.2.2.2.2) fs cs
theorem ab_fR_app {ρ x : List Int} {fs : List ab_F} {cs : ev_C} (h : ab_fR ρ fs cs) : ab_fR (ρ ++ x) fs cs := ab_all2_mono (fun _ _ q => ⟨q.1, q.2.1, ab_lR_app q.2.2.1, ab_sR_app q.2.2.2.1, q.2.2.2.2⟩) fs cs h
/-- a state, as it is known -/
def ab_St (P : sm_P) (K : sm_K) (R : ab_Ro) (xs : List Int32) (ρ : List Int) (n : Nat) (E : ab_E) (t : ab_H) (hn : Nat) (mid : Nat) (mi : ab_M) (la : ab_L) (sa : List ab_V) (fs : List ab_F) (lv : sm_L) (st : List Value) (h : List sm_C) (cs : ev_C) : Prop := ab_ok ρ E ∧ n = ρ.length ∧ ab_hR ρ t hn h ∧ ab_mR P K mid mi ∧ ab_lR ρ la lv ∧ ab_sR ρ sa st ∧ ab_fR ρ fs cs ∧ ab_roR ρ R xs
abbrev ax_K : Type := Nat → ab_E → ab_H → Nat → Nat → Nat → Nat → Nat → ab_M → Nat → ab_L → List ab_V → List ab_F → Bool
noncomputable def ax_0 (k : ax_K) (n : Nat) (E : ab_E) (t : ab_H) (hn d c s mid : Nat) (mi : ab_M) (pc : Nat) (la : ab_L) (sa : List ab_V) (fs : List ab_F) (i : Instr) : Bool := match ab_lo mi.2.2.2.1 i pc E n la sa with
  | some (E', n', pc', la', sa') => kf n' (fun n' => kf pc' (fun pc' => kt1 sa' (fun sa' => k n' E' t hn d c s mid mi pc' la' sa' fs)))
  | none => false
noncomputable def ax_1 (k : ax_K) (n : Nat) (E : ab_E) (t : ab_H) (hn d c s mid : Nat) (mi : ab_M) (pc : Nat) (la : ab_L) (sa : List ab_V) (fs : List ab_F) (i : Instr) : Bool := match ab_lo mi.2.2.2.1 i pc E n la sa with
  | some (E', n', pc', la', sa') => kf n' (fun n' => kf pc' (fun pc' => kla la' (fun la' => k n' E' t hn d c s mid mi pc' la' sa' fs)))
  | none => false
noncomputable def ax_all (f : ab_E → Nat → List ab_V → Bool) (L : List (ab_E × Nat × List ab_V)) : Bool := List.rec (motive := fun _ => Bool) true (fun e _ ih => Bool.rec (motive := fun _ => Bool) false ih (kf e.2.1 (fun pc => f e.1 pc e.2.2))) L
theorem ax_all_ok {f : ab_E → Nat → List ab_V → Bool} {L : List (ab_E × Nat × List ab_V)} (h : ax_all f L = true) : ∀ e ∈ L, f e.1 e.2.1 e.2.2 = true := by
  induction L with
  | nil => intro e he; cases he
  | cons a L ih =>
    have h1 : Bool.rec (motive := fun _ => Bool) false (ax_all f L) (kf a.2.1 (fun pc => f a.1 pc a.2.2)) = true := h
    rw [kf_eq] at h1
    intro e he
    cases hf : f a.1 a.2.1 a.2.2 with
    | false => rw [hf] at h1; cases h1
    | true =>
      rw [hf] at h1
      rcases List.mem_cons.mp he with rfl | he
      · exact hf
      · exact ih h1 e he
noncomputable def ax_2 (k : ax_K) (n : Nat) (E : ab_E) (t : ab_H) (hn d c s mid : Nat) (mi : ab_M) (pc : Nat) (la : ab_L) (sa : List ab_V) (fs : List ab_F) (i : Instr) : Bool := match ab_br i pc E sa with
  | some L => ax_all (fun E' pc' sa' => k n E' t hn d c s mid mi pc' la sa' fs) L
  | none => false
noncomputable def ax_3 (R : ab_Ro) (k : ax_K) (n : Nat) (E : ab_E) (t : ab_H) (hn d c s mid : Nat) (mi : ab_M) (pc : Nat) (la : ab_L) (sa : List ab_V) (fs : List ab_F) (i : Instr) (dt : List Nat) : Bool := match ab_hp R i dt pc E n t hn sa with
  | some (E', n', pc', sa', w) => kf n' (fun n' => kf pc' (fun pc' => kt1 sa' (fun sa' => kw w (fun w => ab_awK t w (fun t' => k n' E' t' hn d c s mid mi pc' la sa' fs)))))
  | none => false
noncomputable def ax_4 (dfl : List ab_C) (k : ax_K) (n : Nat) (E : ab_E) (t : ab_H) (hn d c s mid : Nat) (mi : ab_M) (pc : Nat) (la : ab_L) (sa : List ab_V) (fs : List ab_F) (i : Instr) (dt : List Nat) : Bool := match ab_mk dfl i dt pc la sa t hn with
  | some (pc', sa', cs, dc, ds) => kf pc' (fun pc' => kf (hn + cs.length) (fun hn' => kf (c + dc) (fun c' => kf (s + ds) (fun s' => ab_putsK t hn cs (fun t' => k n E t' hn' d c' s' mid mi pc' la sa' fs)))))
  | none => false
noncomputable def ax_5 (gc gs : Nat) (k : ax_K) (n : Nat) (E : ab_E) (t : ab_H) (hn d c s mid : Nat) (mi : ab_M) (pc : Nat) (la : ab_L) (sa : List ab_V) (fs : List ab_F) (i : Instr) (dt : List Nat) : Bool := match ab_X0 gc gs d i dt t hn sa with
  | some (sa', ws, dc, ds) => kf (pc + 3) (fun pc' => kf (c + dc) (fun c' => kf (s + ds) (fun s' => kt1 sa' (fun sa' => ab_wrK t ws (fun t' => k n E t' hn d c' s' mid mi pc' la sa' fs)))))
  | none => false
/-- what a callee is given, what stays -/
noncomputable def ab_cl (i : Instr) (m : ab_M) (t : ab_H) (hn : Nat) (sa : List ab_V) : Option (List ab_V × List ab_V) := match i with
  | .invokestatic _ => bif Nat.beq m.2.1 0 && Nat.ble m.1 sa.length then some ((sa.take m.1).reverse, sa.drop m.1) else none
  | .invokevirtual _ => match sa.drop m.1 with
    | .inr (.inr (.inl b)) :: r => match ab_get t b with
      | some q => bif Nat.beq m.2.1 1 && (Nat.beq q.1 m.2.2.1 && (ab_lt100 q.1 && Nat.ble (b + 1) hn)) then some (.inr (.inr (.inl b)) :: (sa.take m.1).reverse, r) else none
      | none => none
    | _ => none
  | .invokespecial _ => match sa.drop m.1 with
    | .inr (.inr (.inl b)) :: r => bif Nat.beq m.2.1 2 then some (.inr (.inr (.inl b)) :: (sa.take m.1).reverse, r) else none
    | _ => none
  | _ => none
def ab_args : Nat → List ab_V → ab_L
  | _, [] => []
  | j, a :: as => (j, a) :: ab_args (bif ab_is2 a then j + 2 else j + 1) as
noncomputable def ax_6 (mt : Lean.RArray (Nat × ab_M)) (k : ax_K) (n : Nat) (E : ab_E) (t : ab_H) (hn d c s mid : Nat) (mi : ab_M) (pc : Nat) (la : ab_L) (sa : List ab_V) (fs : List ab_F) (i : Instr) (dt : List Nat) : Bool := match dt with
  | [mid'] => match ab_get mt mid' with
    | some m => match d with
      | 0 => false
      | d' + 1 => match ab_cl i m t hn sa with
        | some (as, r) => Bool.rec (motive := fun _ => Bool) false (kla (ab_args 0 as) (fun la' => kls r (fun r => kf (pc + 3) (fun pc' => kf d' (fun d' => k n E t hn d' 0 0 mid' m 0 la' [] ((mid, pc', la, r, c, s) :: fs)))))) (Nat.ble mid' 899 && (ab_c8 r && (Nat.ble ((as.map fun a => bif ab_is2 a then 2 else 1).sum) m.2.2.2.1 && (Nat.ble m.2.2.2.1 45 && (ab_bs hn r && ab_bl hn la)))))
        | none => false
    | none => false
  | _ => false
/-- what a method answers -/
def ab_re (E : ab_E) (rt : Nat) (i : Instr) (sa : List ab_V) : Option (List ab_V) := match i, sa with
  | .ireturn, [.inl q] => bif Nat.beq rt 1 then some [.inl q] else bif Nat.beq rt 2 then (match ab_rg E q with
    | some z => bif ab_ile 0 z.1 && ab_ile z.2 1 then some [.inl q] else none
    | none => none) else none
  | .lreturn, [.inr (.inl q)] => bif Nat.beq rt 3 then some [.inr (.inl q)] else none
  | .return_, [] => bif Nat.beq rt 0 then some [] else none
  | _, _ => none
noncomputable def ax_7 (mt : Lean.RArray (Nat × ab_M)) (cm sm : Nat) (k : ax_K) (n : Nat) (E : ab_E) (t : ab_H) (hn d c s : Nat) (mi : ab_M) (sa : List ab_V) (fs : List ab_F) (i : Instr) : Bool := match ab_re E mi.2.2.2.2.1 i sa with
  | some vs => match fs with
    | [] => match vs with
      | [.inl q] => Nat.beq q.1 0 && (ab_ile 1 q.2 && (ab_ile q.2 1 && (Nat.ble c cm && Nat.ble s sm)))
      | _ => false
    | f :: fs' => match ab_get mt f.1 with
      | some m => kf (d + 1) (fun d' => kf (f.2.2.2.2.1 + c) (fun c' => kf (f.2.2.2.2.2 + s) (fun s' => k n E t hn d' c' s' f.1 m f.2.1 f.2.2.1 (vs ++ f.2.2.2.1) fs')))
      | none => false
  | none => false
noncomputable def ax_E (mt : Lean.RArray (Nat × ab_M)) (R : ab_Ro) (dfl : List ab_C) (gc gs cm sm : Nat) (k : ax_K) (n : Nat) (E : ab_E) (t : ab_H) (hn d c s mid : Nat) (mi : ab_M) (pc : Nat) (la : ab_L) (sa : List ab_V) (fs : List ab_F) (q : ab_I) : Bool := match q.2.1 with
  | 0 => ax_0 k n E t hn d c s mid mi pc la sa fs q.2.2.1
  | 1 => ax_1 k n E t hn d c s mid mi pc la sa fs q.2.2.1
  | 2 => ax_2 k n E t hn d c s mid mi pc la sa fs q.2.2.1
  | 3 => ax_3 R k n E t hn d c s mid mi pc la sa fs q.2.2.1 q.2.2.2.2
  | 4 => ax_4 dfl k n E t hn d c s mid mi pc la sa fs q.2.2.1 q.2.2.2.2
  | 5 => ax_5 gc gs k n E t hn d c s mid mi pc la sa fs q.2.2.1 q.2.2.2.2
  | 6 => ax_6 mt k n E t hn d c s mid mi pc la sa fs q.2.2.1 q.2.2.2.2
  | _ => ax_7 mt cm sm k n E t hn d c s mi sa fs q.2.2.1
