/-! A small machine: frames, a list of cells, no virtual machine around it. First its steps that touch no cell. -/
abbrev sm_C : Type := Nat × List Value
abbrev sm_L : Type := List (Nat × Value)
def sm_ival : Value → Int32
  | .int x => x
  | _ => 0
def sm_lval : Value → Int64
  | .long x => x
  | _ => 0
def sm_lk (lv : sm_L) (k : Nat) : Option Value := (lv.find? (fun q => q.1 == k)).map (fun q => q.2)
def sm_s1 (lv : sm_L) (k : Nat) (v : Value) : sm_L := (k, v) :: lv.filter (fun q => !(q.1 == k) && !(q.1 + 1 == k && q.2.category == 2))
def sm_s2 (lv : sm_L) (k : Nat) (v : Value) : sm_L := (k, v) :: lv.filter (fun q => !(q.1 == k) && (!(q.1 == k + 1) && !(q.1 + 1 == k && q.2.category == 2)))
/-- a value of the small machine as one of the machine: ad has the addresses of the cells, E those of what is only read -/
def sm_tr (E : Nat → Nat) (ad : List Nat) : Value → Value
  | .ref k => .ref (ad.getD k 0)
  | .retAddr j => .ref (E j)
  | v => v
def sm_lt (E : Nat → Nat) (ad : List Nat) (lv : sm_L) : sm_L := lv.map (fun q => (q.1, sm_tr E ad q.2))
theorem sm_tr_cat (E : Nat → Nat) (ad : List Nat) (v : Value) : (sm_tr E ad v).category = v.category := by cases v <;> rfl
theorem sm_lk_mem {lv : sm_L} {k : Nat} {v : Value} (h : sm_lk lv k = some v) : (k, v) ∈ lv := by
  unfold sm_lk at h
  cases hf : lv.find? (fun q => q.1 == k) with
  | none => rw [hf] at h; cases h
  | some q =>
    rw [hf] at h
    have h1 := List.find?_some hf
    have h2 := List.mem_of_find?_eq_some hf
    have h3 : q.1 = k := by simpa using h1
    have h4 : q.2 = v := by simpa using h
    obtain ⟨a, b⟩ := q
    dsimp only at h3 h4
    subst h3; subst h4
    exact h2
theorem sm_at {E : Nat → Nat} {ad : List Nat} {ls : Array Slot} {ml : Nat} {lv : sm_L} (hl : lv_has ls ml (sm_lt E ad lv)) {k : Nat} {v : Value} (h : sm_lk lv k = some v) : ls[k]? = some (.val (sm_tr E ad v)) :=
  hl.2.2 (k, sm_tr E ad v) (List.mem_map.mpr ⟨(k, v), sm_lk_mem h, rfl⟩)
theorem sm_lt_s1 (E : Nat → Nat) (ad : List Nat) (lv : sm_L) (k : Nat) (v : Value) : (k, sm_tr E ad v) :: (sm_lt E ad lv).filter (fun q => !(q.1 == k) && !(q.1 + 1 == k && q.2.category == 2)) = sm_lt E ad (sm_s1 lv k v) := by
  unfold sm_s1 sm_lt
  rw [List.map_cons, List.filter_map]
  congr 2
  apply List.filter_congr
  intro q _
  simp [sm_tr_cat]
theorem sm_lt_s2 (E : Nat → Nat) (ad : List Nat) (lv : sm_L) (k : Nat) (v : Value) : (k, sm_tr E ad v) :: (sm_lt E ad lv).filter (fun q => !(q.1 == k) && (!(q.1 == k + 1) && !(q.1 + 1 == k && q.2.category == 2))) = sm_lt E ad (sm_s2 lv k v) := by
  unfold sm_s2 sm_lt
  rw [List.map_cons, List.filter_map]
  congr 2
  apply List.filter_congr
  intro q _
  simp [sm_tr_cat]
abbrev sm_R : Type := Option (Nat × sm_L × List Value)
def sm_ldI (lv : sm_L) (k n : Nat) (st : List Value) : sm_R := match sm_lk lv k with
  | some (.int x) => some (n, lv, .int x :: st)
  | _ => none
def sm_ldL (lv : sm_L) (k n : Nat) (st : List Value) : sm_R := match sm_lk lv k with
  | some (.long x) => some (n, lv, .long x :: st)
  | _ => none
def sm_ldA (lv : sm_L) (k n : Nat) (st : List Value) : sm_R := match sm_lk lv k with
  | some (.ref x) => some (n, lv, .ref x :: st)
  | some (.retAddr x) => some (n, lv, .retAddr x :: st)
  | _ => none
def sm_stI (ml : Nat) (lv : sm_L) (k n : Nat) (st : List Value) : sm_R := match st with
  | .int x :: r => if k < ml then some (n, sm_s1 lv k (.int x), r) else none
  | _ => none
def sm_stA (ml : Nat) (lv : sm_L) (k n : Nat) (st : List Value) : sm_R := match st with
  | .ref x :: r => if k < ml then some (n, sm_s1 lv k (.ref x), r) else none
  | _ => none
def sm_stL (ml : Nat) (lv : sm_L) (k n : Nat) (st : List Value) : sm_R := match st with
  | .long x :: r => if k + 1 < ml then some (n, sm_s2 lv k (.long x), r) else none
  | _ => none
def sm_inc (ml : Nat) (lv : sm_L) (k n : Nat) (d : Int) (st : List Value) : sm_R := match sm_lk lv k with
  | some (.int x) => if k < ml then some (n, sm_s1 lv k (.int (x + Int32.ofInt d)), st) else none
  | _ => none
def sm_ii (f : Int32 → Int32 → Int32) (n : Nat) (lv : sm_L) (st : List Value) : sm_R := match st with
  | .int y :: .int x :: r => some (n, lv, .int (f x y) :: r)
  | _ => none
def sm_ll (f : Int64 → Int64 → Int64) (n : Nat) (lv : sm_L) (st : List Value) : sm_R := match st with
  | .long y :: .long x :: r => some (n, lv, .long (f x y) :: r)
  | _ => none
def sm_iid (f : Int32 → Int32 → Int32) (n : Nat) (lv : sm_L) (st : List Value) : sm_R := match st with
  | .int y :: .int x :: r => if y = 0 then none else some (n, lv, .int (f x y) :: r)
  | _ => none
def sm_lld (f : Int64 → Int64 → Int64) (n : Nat) (lv : sm_L) (st : List Value) : sm_R := match st with
  | .long y :: .long x :: r => if y = 0 then none else some (n, lv, .long (f x y) :: r)
  | _ => none
def sm_i1 (f : Int32 → Value) (n : Nat) (lv : sm_L) (st : List Value) : sm_R := match st with
  | .int x :: r => some (n, lv, f x :: r)
  | _ => none
def sm_l1 (f : Int64 → Value) (n : Nat) (lv : sm_L) (st : List Value) : sm_R := match st with
  | .long x :: r => some (n, lv, f x :: r)
  | _ => none
def sm_cp (n : Nat) (lv : sm_L) (st : List Value) : sm_R := match st with
  | .long y :: .long x :: r => some (n, lv, .int (lg_cmp x y) :: r)
  | _ => none
def sm_du (n : Nat) (lv : sm_L) (st : List Value) : sm_R := match st with
  | v :: r => if v.category = 1 then some (n, lv, v :: v :: r) else none
  | _ => none
def sm_po (n : Nat) (lv : sm_L) (st : List Value) : sm_R := match st with
  | v :: r => if v.category = 1 then some (n, lv, r) else none
  | _ => none
def sm_p2 (n : Nat) (lv : sm_L) (st : List Value) : sm_R := match st with
  | v :: r => if v.category = 2 then some (n, lv, r) else none
  | _ => none
def sm_d2 (n : Nat) (lv : sm_L) (st : List Value) : sm_R := match st with
  | v :: r => if v.category = 2 then some (n, lv, v :: v :: r) else match r with
    | w :: r2 => if v.category = 1 ∧ w.category = 1 then some (n, lv, v :: w :: v :: w :: r2) else none
    | _ => none
  | _ => none
def sm_jp (pc : Nat) (off : Int) (lv : sm_L) (st : List Value) : sm_R := if 0 ≤ (pc : Int) + off then some (((pc : Int) + off).toNat, lv, st) else none
def sm_cd (c : ClassFile.Cond) (x y : Int32) : Bool := match c with
  | .eq => decide (x = y)
  | .ne => decide (¬ x = y)
  | .lt => decide (x < y)
  | .ge => decide (y ≤ x)
  | .gt => decide (y < x)
  | .le => decide (x ≤ y)
def sm_if (c : ClassFile.Cond) (pc : Nat) (off : Int) (lv : sm_L) (st : List Value) : sm_R := match st with
  | .int x :: r => if 0 ≤ (pc : Int) + off then (if sm_cd c x 0 then some (((pc : Int) + off).toNat, lv, r) else some (pc + 3, lv, r)) else none
  | _ => none
def sm_ic (c : ClassFile.Cond) (pc : Nat) (off : Int) (lv : sm_L) (st : List Value) : sm_R := match st with
  | .int y :: .int x :: r => if 0 ≤ (pc : Int) + off then (if sm_cd c x y then some (((pc : Int) + off).toNat, lv, r) else some (pc + 3, lv, r)) else none
  | _ => none
def sm_tb (pc : Nat) (dflt lo hi : Int) (offs : Array Int) (lv : sm_L) (st : List Value) : sm_R := match st with
  | .int x :: r => if x.toInt < lo ∨ hi < x.toInt then sm_jp pc dflt lv r else match offs[(x.toInt - lo).toNat]? with
    | some off => sm_jp pc off lv r
    | none => none
  | _ => none
/-- a step that touches no cell -/
def sm_lo (ml : Nat) (i : Instr) (pc : Nat) (lv : sm_L) (st : List Value) : sm_R := match i with
  | .iload k => sm_ldI lv k (pc + 2) st
  | .iload_n k => sm_ldI lv k.val (pc + 1) st
  | .lload k => sm_ldL lv k (pc + 2) st
  | .lload_n k => sm_ldL lv k.val (pc + 1) st
  | .aload k => sm_ldA lv k (pc + 2) st
  | .aload_n k => sm_ldA lv k.val (pc + 1) st
  | .istore k => sm_stI ml lv k (pc + 2) st
  | .istore_n k => sm_stI ml lv k.val (pc + 1) st
  | .lstore k => sm_stL ml lv k (pc + 2) st
  | .lstore_n k => sm_stL ml lv k.val (pc + 1) st
  | .astore k => sm_stA ml lv k (pc + 2) st
  | .astore_n k => sm_stA ml lv k.val (pc + 1) st
  | .iinc k d => sm_inc ml lv k (pc + 3) d st
  | .iconst n => some (pc + 1, lv, .int (Int32.ofInt n) :: st)
  | .bipush n => some (pc + 2, lv, .int (Int8.ofInt n).toInt32 :: st)
  | .sipush n => some (pc + 3, lv, .int (Int16.ofInt n).toInt32 :: st)
  | .lconst n => some (pc + 1, lv, .long (Int64.ofNat n.val) :: st)
  | .iadd => sm_ii (fun x y => x + y) (pc + 1) lv st
  | .isub => sm_ii (fun x y => x - y) (pc + 1) lv st
  | .imul => sm_ii (fun x y => x * y) (pc + 1) lv st
  | .iand => sm_ii (fun x y => x &&& y) (pc + 1) lv st
  | .ior => sm_ii (fun x y => x ||| y) (pc + 1) lv st
  | .ishl => sm_ii (fun x y => x <<< (y &&& 31)) (pc + 1) lv st
  | .ishr => sm_ii (fun x y => x >>> (y &&& 31)) (pc + 1) lv st
  | .iushr => sm_ii (fun x y => (x.toUInt32 >>> (y.toUInt32 &&& Int32.toUInt32 31)).toInt32) (pc + 1) lv st
  | .idiv => sm_iid (fun x y => x / y) (pc + 1) lv st
  | .irem => sm_iid (fun x y => x - x / y * y) (pc + 1) lv st
  | .ladd => sm_ll (fun x y => x + y) (pc + 1) lv st
  | .lsub => sm_ll (fun x y => x - y) (pc + 1) lv st
  | .lmul => sm_ll (fun x y => x * y) (pc + 1) lv st
  | .land => sm_ll (fun x y => x &&& y) (pc + 1) lv st
  | .ldiv => sm_lld (fun x y => x / y) (pc + 1) lv st
  | .lrem => sm_lld (fun x y => x - x / y * y) (pc + 1) lv st
  | .ineg => sm_i1 (fun x => .int (-x)) (pc + 1) lv st
  | .lneg => sm_l1 (fun x => .long (-x)) (pc + 1) lv st
  | .i2l => sm_i1 (fun x => .long x.toInt64) (pc + 1) lv st
  | .l2i => sm_l1 (fun x => .int x.toInt32) (pc + 1) lv st
  | .i2b => sm_i1 (fun x => .int x.toInt8.toInt32) (pc + 1) lv st
  | .i2c => sm_i1 (fun x => .int (x.toUInt32 % 65536).toInt32) (pc + 1) lv st
  | .lcmp => sm_cp (pc + 1) lv st
  | .dup => sm_du (pc + 1) lv st
  | .pop => sm_po (pc + 1) lv st
  | .pop2 => sm_p2 (pc + 1) lv st
  | .dup2 => sm_d2 (pc + 1) lv st
  | .goto off => sm_jp pc off lv st
  | .ifCond c off => sm_if c pc off lv st
  | .if_icmp c off => sm_ic c pc off lv st
  | .tableswitch d lo hi offs => sm_tb pc d lo hi offs lv st
  | _ => none
/-- how long it is (0: as it may be) -/
def sm_len (i : Instr) : Nat := match i with
  | .iload _ => 2
  | .lload _ => 2
  | .aload _ => 2
  | .istore _ => 2
  | .lstore _ => 2
  | .astore _ => 2
  | .bipush _ => 2
  | .ldc _ => 2
  | .newarray _ => 2
  | .iinc _ _ => 3
  | .sipush _ => 3
  | .goto _ => 3
  | .ifCond _ _ => 3
  | .if_icmp _ _ => 3
  | .ldc_w _ => 3
  | .ldc2_w _ => 3
  | .getfield _ => 3
  | .putfield _ => 3
  | .getstatic _ => 3
  | .invokevirtual _ => 3
  | .invokespecial _ => 3
  | .invokestatic _ => 3
  | .new _ => 3
  | .multianewarray _ _ => 4
  | .tableswitch _ _ _ _ => 0
  | _ => 1
section SML
variable {p : Program} {l : Launch} {e : Env} {R : Room} {s : State} {m : MethodId} {args : Array Value} {below : List Frame} {meth : Method} {c : Code} {H : Heap} {locs : List Loc} {cells slots : Nat} {Q : State → Prop}
variable {cc : ByteArray} {pc ml pc' : Nat} {ls : Array Slot} {E : Nat → Nat} {ad : List Nat} {lv lv' : sm_L} {st st' : List Value}
theorem sm_jp_inv {off : Int} (h : sm_jp pc off lv st = some (pc', lv', st')) : (pc : Int) + off = (pc' : Int) ∧ lv' = lv ∧ st' = st := by
  unfold sm_jp at h
  split at h
  · next h0 =>
    simp only [Option.some.injEq, Prod.mk.injEq] at h
    obtain ⟨h1, h2, h3⟩ := h
    refine ⟨?_, h2.symm, h3.symm⟩
    rw [← h1]
    omega
  · cases h
theorem sm_ii_inv {f : Int32 → Int32 → Int32} {n : Nat} (h : sm_ii f n lv st = some (pc', lv', st')) : ∃ x y r, st = .int y :: .int x :: r ∧ pc' = n ∧ lv' = lv ∧ st' = .int (f x y) :: r := by
  unfold sm_ii at h
  split at h
  · simp only [Option.some.injEq, Prod.mk.injEq] at h
    obtain ⟨rfl, rfl, rfl⟩ := h
    exact ⟨_, _, _, rfl, rfl, rfl, rfl⟩
  · cases h
theorem sm_ll_inv {f : Int64 → Int64 → Int64} {n : Nat} (h : sm_ll f n lv st = some (pc', lv', st')) : ∃ x y r, st = .long y :: .long x :: r ∧ pc' = n ∧ lv' = lv ∧ st' = .long (f x y) :: r := by
  unfold sm_ll at h
  split at h
  · simp only [Option.some.injEq, Prod.mk.injEq] at h
    obtain ⟨rfl, rfl, rfl⟩ := h
    exact ⟨_, _, _, rfl, rfl, rfl, rfl⟩
  · cases h
theorem sm_iid_inv {f : Int32 → Int32 → Int32} {n : Nat} (h : sm_iid f n lv st = some (pc', lv', st')) : ∃ x y r, st = .int y :: .int x :: r ∧ ¬ y = 0 ∧ pc' = n ∧ lv' = lv ∧ st' = .int (f x y) :: r := by
  unfold sm_iid at h
  split at h
  · split at h
    · cases h
    · next h0 =>
      simp only [Option.some.injEq, Prod.mk.injEq] at h
      obtain ⟨rfl, rfl, rfl⟩ := h
      exact ⟨_, _, _, rfl, h0, rfl, rfl, rfl⟩
  · cases h
theorem sm_lld_inv {f : Int64 → Int64 → Int64} {n : Nat} (h : sm_lld f n lv st = some (pc', lv', st')) : ∃ x y r, st = .long y :: .long x :: r ∧ ¬ y = 0 ∧ pc' = n ∧ lv' = lv ∧ st' = .long (f x y) :: r := by
  unfold sm_lld at h
  split at h
  · split at h
    · cases h
    · next h0 =>
      simp only [Option.some.injEq, Prod.mk.injEq] at h
      obtain ⟨rfl, rfl, rfl⟩ := h
      exact ⟨_, _, _, rfl, h0, rfl, rfl, rfl⟩
  · cases h
theorem sm_i1_inv {f : Int32 → Value} {n : Nat} (h : sm_i1 f n lv st = some (pc', lv', st')) : ∃ x r, st = .int x :: r ∧ pc' = n ∧ lv' = lv ∧ st' = f x :: r := by
  unfold sm_i1 at h
  split at h
  · simp only [Option.some.injEq, Prod.mk.injEq] at h
    obtain ⟨rfl, rfl, rfl⟩ := h
    exact ⟨_, _, rfl, rfl, rfl, rfl⟩
  · cases h
theorem sm_l1_inv {f : Int64 → Value} {n : Nat} (h : sm_l1 f n lv st = some (pc', lv', st')) : ∃ x r, st = .long x :: r ∧ pc' = n ∧ lv' = lv ∧ st' = f x :: r := by
  unfold sm_l1 at h
  split at h
  · simp only [Option.some.injEq, Prod.mk.injEq] at h
    obtain ⟨rfl, rfl, rfl⟩ := h
    exact ⟨_, _, rfl, rfl, rfl, rfl⟩
  · cases h
theorem sm_ldI_inv {k n : Nat} (h : sm_ldI lv k n st = some (pc', lv', st')) : ∃ x, sm_lk lv k = some (.int x) ∧ pc' = n ∧ lv' = lv ∧ st' = .int x :: st := by
  unfold sm_ldI at h
  split at h
  · next x h0 =>
    simp only [Option.some.injEq, Prod.mk.injEq] at h
    obtain ⟨rfl, rfl, rfl⟩ := h
    exact ⟨x, h0, rfl, rfl, rfl⟩
  · cases h
theorem sm_ldL_inv {k n : Nat} (h : sm_ldL lv k n st = some (pc', lv', st')) : ∃ x, sm_lk lv k = some (.long x) ∧ pc' = n ∧ lv' = lv ∧ st' = .long x :: st := by
  unfold sm_ldL at h
  split at h
  · next x h0 =>
    simp only [Option.some.injEq, Prod.mk.injEq] at h
    obtain ⟨rfl, rfl, rfl⟩ := h
    exact ⟨x, h0, rfl, rfl, rfl⟩
  · cases h
theorem sm_ldA_inv {k n : Nat} (h : sm_ldA lv k n st = some (pc', lv', st')) : ∃ v a, sm_lk lv k = some v ∧ sm_tr E ad v = .ref a ∧ pc' = n ∧ lv' = lv ∧ st' = v :: st := by
  unfold sm_ldA at h
  split at h
  · next x h0 =>
    simp only [Option.some.injEq, Prod.mk.injEq] at h
    obtain ⟨rfl, rfl, rfl⟩ := h
    exact ⟨_, _, h0, rfl, rfl, rfl, rfl⟩
  · next x h0 =>
    simp only [Option.some.injEq, Prod.mk.injEq] at h
    obtain ⟨rfl, rfl, rfl⟩ := h
    exact ⟨_, _, h0, rfl, rfl, rfl, rfl⟩
  · cases h
theorem sm_stI_inv {k n : Nat} (h : sm_stI ml lv k n st = some (pc', lv', st')) : ∃ x r, st = .int x :: r ∧ k < ml ∧ pc' = n ∧ lv' = sm_s1 lv k (.int x) ∧ st' = r := by
  unfold sm_stI at h
  split at h
  · split at h
    · next h0 =>
      simp only [Option.some.injEq, Prod.mk.injEq] at h
      obtain ⟨rfl, rfl, rfl⟩ := h
      exact ⟨_, _, rfl, h0, rfl, rfl, rfl⟩
    · cases h
  · cases h
theorem sm_stA_inv {k n : Nat} (h : sm_stA ml lv k n st = some (pc', lv', st')) : ∃ x r, st = .ref x :: r ∧ k < ml ∧ pc' = n ∧ lv' = sm_s1 lv k (.ref x) ∧ st' = r := by
  unfold sm_stA at h
  split at h
  · split at h
    · next h0 =>
      simp only [Option.some.injEq, Prod.mk.injEq] at h
      obtain ⟨rfl, rfl, rfl⟩ := h
      exact ⟨_, _, rfl, h0, rfl, rfl, rfl⟩
    · cases h
  · cases h
theorem sm_stL_inv {k n : Nat} (h : sm_stL ml lv k n st = some (pc', lv', st')) : ∃ x r, st = .long x :: r ∧ k + 1 < ml ∧ pc' = n ∧ lv' = sm_s2 lv k (.long x) ∧ st' = r := by
  unfold sm_stL at h
  split at h
  · split at h
    · next h0 =>
      simp only [Option.some.injEq, Prod.mk.injEq] at h
      obtain ⟨rfl, rfl, rfl⟩ := h
      exact ⟨_, _, rfl, h0, rfl, rfl, rfl⟩
    · cases h
  · cases h
theorem sm_inc_inv {k n : Nat} {d : Int} (h : sm_inc ml lv k n d st = some (pc', lv', st')) : ∃ x, sm_lk lv k = some (.int x) ∧ k < ml ∧ pc' = n ∧ lv' = sm_s1 lv k (.int (x + Int32.ofInt d)) ∧ st' = st := by
  unfold sm_inc at h
  split at h
  · next x hx =>
    split at h
    · next h0 =>
      simp only [Option.some.injEq, Prod.mk.injEq] at h
      obtain ⟨rfl, rfl, rfl⟩ := h
      exact ⟨_, hx, h0, rfl, rfl, rfl⟩
    · cases h
  · cases h
theorem sm_if_inv {cd : ClassFile.Cond} {off : Int} (h : sm_if cd pc off lv st = some (pc', lv', st')) : ∃ x r t, st = .int x :: r ∧ (pc : Int) + off = ((t : Nat) : Int) ∧ lv' = lv ∧ st' = r ∧ ((sm_cd cd x 0 = true ∧ pc' = t) ∨ (sm_cd cd x 0 = false ∧ pc' = pc + 3)) := by
  unfold sm_if at h
  split at h
  · split at h
    · next h0 =>
      split at h
      · next h1 =>
        cases h
        exact ⟨_, _, _, rfl, (by omega : (pc : Int) + off = ((((pc : Int) + off).toNat : Nat) : Int)), rfl, rfl, Or.inl ⟨h1, rfl⟩⟩
      · next h1 =>
        cases h
        exact ⟨_, _, _, rfl, (by omega : (pc : Int) + off = ((((pc : Int) + off).toNat : Nat) : Int)), rfl, rfl, Or.inr ⟨Bool.eq_false_iff.mpr h1, rfl⟩⟩
    · cases h
  · cases h
theorem sm_ic_inv {cd : ClassFile.Cond} {off : Int} (h : sm_ic cd pc off lv st = some (pc', lv', st')) : ∃ x y r t, st = .int y :: .int x :: r ∧ (pc : Int) + off = ((t : Nat) : Int) ∧ lv' = lv ∧ st' = r ∧ ((sm_cd cd x y = true ∧ pc' = t) ∨ (sm_cd cd x y = false ∧ pc' = pc + 3)) := by
  unfold sm_ic at h
  split at h
  · split at h
    · next h0 =>
      split at h
      · next h1 =>
        cases h
        exact ⟨_, _, _, _, rfl, (by omega : (pc : Int) + off = ((((pc : Int) + off).toNat : Nat) : Int)), rfl, rfl, Or.inl ⟨h1, rfl⟩⟩
      · next h1 =>
        cases h
        exact ⟨_, _, _, _, rfl, (by omega : (pc : Int) + off = ((((pc : Int) + off).toNat : Nat) : Int)), rfl, rfl, Or.inr ⟨Bool.eq_false_iff.mpr h1, rfl⟩⟩
    · cases h
  · cases h
/-- where the values are of the machine: what holds of a step holds of the machine's -/
theorem sm_lo_ok (hx : p.tables.exec = Jvm.exec) (hb : c.code = cc) {i : Instr} {len : Nat} (hdg : decode cc pc = .ok (i, len)) (hlen : sm_len i = 0 ∨ len = sm_len i) (hl : lv_has ls ml (sm_lt E ad lv)) (h : sm_lo ml i pc lv st = some (pc', lv', st'))
    (K : ∀ ls : Array Slot, lv_has ls ml (sm_lt E ad lv') → W p l e R s m args below meth c H locs cells slots Q (F0 m pc' ls (st'.map (sm_tr E ad)))) : W p l e R s m args below meth c H locs cells slots Q (F0 m pc ls (st.map (sm_tr E ad))) := by
  cases i
  case iload k =>
    obtain rfl := hlen.resolve_left (by intro q; cases q)
    obtain ⟨x, h0, rfl, rfl, rfl⟩ := sm_ldI_inv h
    exact lv_iload hx hb hdg (sm_at hl h0) (K ls hl)
  case iload_n k =>
    obtain rfl := hlen.resolve_left (by intro q; cases q)
    obtain ⟨x, h0, rfl, rfl, rfl⟩ := sm_ldI_inv h
    exact lv_iload_n hx hb hdg rfl (sm_at hl h0) (K ls hl)
  case lload k =>
    obtain rfl := hlen.resolve_left (by intro q; cases q)
    obtain ⟨x, h0, rfl, rfl, rfl⟩ := sm_ldL_inv h
    exact lv_lload hx hb hdg (sm_at hl h0) (K ls hl)
  case lload_n k =>
    obtain rfl := hlen.resolve_left (by intro q; cases q)
    obtain ⟨x, h0, rfl, rfl, rfl⟩ := sm_ldL_inv h
    exact lv_lload_n hx hb hdg rfl (sm_at hl h0) (K ls hl)
  case aload k =>
    obtain rfl := hlen.resolve_left (by intro q; cases q)
    obtain ⟨v, a, h0, h1, rfl, rfl, rfl⟩ := sm_ldA_inv (E := E) (ad := ad) h
    have h2 := sm_at hl h0
    rw [h1] at h2
    have h3 := K ls hl
    rw [List.map_cons, h1] at h3
    exact lv_aload hx hb hdg h2 h3
  case aload_n k =>
    obtain rfl := hlen.resolve_left (by intro q; cases q)
    obtain ⟨v, a, h0, h1, rfl, rfl, rfl⟩ := sm_ldA_inv (E := E) (ad := ad) h
    have h2 := sm_at hl h0
    rw [h1] at h2
    have h3 := K ls hl
    rw [List.map_cons, h1] at h3
    exact lv_aload_n hx hb hdg rfl h2 h3
  case istore k =>
    obtain rfl := hlen.resolve_left (by intro q; cases q)
    obtain ⟨x, r, rfl, h0, rfl, rfl, rfl⟩ := sm_stI_inv h
    exact lv_istore hx hb hdg hl h0 (sm_lt_s1 E ad lv k (.int x)) (fun ls hl => K ls hl)
  case istore_n k =>
    obtain rfl := hlen.resolve_left (by intro q; cases q)
    obtain ⟨x, r, rfl, h0, rfl, rfl, rfl⟩ := sm_stI_inv h
    exact lv_istore_n hx hb hdg rfl hl h0 (sm_lt_s1 E ad lv k.val (.int x)) (fun ls hl => K ls hl)
  case lstore k =>
    obtain rfl := hlen.resolve_left (by intro q; cases q)
    obtain ⟨x, r, rfl, h0, rfl, rfl, rfl⟩ := sm_stL_inv h
    exact lv_lstore hx hb hdg hl h0 (sm_lt_s2 E ad lv k (.long x)) (fun ls hl => K ls hl)
  case lstore_n k =>
    obtain rfl := hlen.resolve_left (by intro q; cases q)
    obtain ⟨x, r, rfl, h0, rfl, rfl, rfl⟩ := sm_stL_inv h
    exact lv_lstore_n hx hb hdg rfl hl h0 (sm_lt_s2 E ad lv k.val (.long x)) (fun ls hl => K ls hl)
  case astore k =>
    obtain rfl := hlen.resolve_left (by intro q; cases q)
    obtain ⟨x, r, rfl, h0, rfl, rfl, rfl⟩ := sm_stA_inv h
    exact lv_astore hx hb hdg hl h0 (sm_lt_s1 E ad lv k (.ref x)) (fun ls hl => K ls hl)
  case astore_n k =>
    obtain rfl := hlen.resolve_left (by intro q; cases q)
    obtain ⟨x, r, rfl, h0, rfl, rfl, rfl⟩ := sm_stA_inv h
    exact lv_astore_n hx hb hdg rfl hl h0 (sm_lt_s1 E ad lv k.val (.ref x)) (fun ls hl => K ls hl)
  case iinc k d =>
    obtain rfl := hlen.resolve_left (by intro q; cases q)
    obtain ⟨x, h1, h0, rfl, rfl, rfl⟩ := sm_inc_inv h
    obtain ⟨j, hj⟩ := List.getElem?_of_mem (List.mem_map.mpr ⟨(k, .int x), sm_lk_mem h1, rfl⟩ : (k, Value.int x) ∈ sm_lt E ad lv)
    exact lv_iinc hx hb hdg hl hj rfl h0 (sm_lt_s1 E ad lv k (.int (x + Int32.ofInt d))) (fun ls hl => K ls hl)
  case iconst n =>
    obtain rfl := hlen.resolve_left (by intro q; cases q)
    cases h
    exact lv_iconst hx hb hdg rfl (K ls hl)
  case bipush n =>
    obtain rfl := hlen.resolve_left (by intro q; cases q)
    cases h
    exact lv_bipush hx hb hdg rfl (K ls hl)
  case sipush n =>
    obtain rfl := hlen.resolve_left (by intro q; cases q)
    cases h
    exact lv_sipush hx hb hdg rfl (K ls hl)
  case lconst n =>
    obtain rfl := hlen.resolve_left (by intro q; cases q)
    cases h
    exact lv_lconst hx hb hdg rfl (K ls hl)
  case iadd =>
    obtain rfl := hlen.resolve_left (by intro q; cases q)
    obtain ⟨x, y, r, rfl, rfl, rfl, rfl⟩ := sm_ii_inv h
    exact lv_iadd hx hb hdg (K ls hl)
  case isub =>
    obtain rfl := hlen.resolve_left (by intro q; cases q)
    obtain ⟨x, y, r, rfl, rfl, rfl, rfl⟩ := sm_ii_inv h
    exact lv_isub hx hb hdg (K ls hl)
  case imul =>
    obtain rfl := hlen.resolve_left (by intro q; cases q)
    obtain ⟨x, y, r, rfl, rfl, rfl, rfl⟩ := sm_ii_inv h
    exact lv_imul hx hb hdg (K ls hl)
  case iand =>
    obtain rfl := hlen.resolve_left (by intro q; cases q)
    obtain ⟨x, y, r, rfl, rfl, rfl, rfl⟩ := sm_ii_inv h
    exact lv_iand hx hb hdg (K ls hl)
  case ior =>
    obtain rfl := hlen.resolve_left (by intro q; cases q)
    obtain ⟨x, y, r, rfl, rfl, rfl, rfl⟩ := sm_ii_inv h
    exact lv_ior hx hb hdg (K ls hl)
  case ishl =>
    obtain rfl := hlen.resolve_left (by intro q; cases q)
    obtain ⟨x, y, r, rfl, rfl, rfl, rfl⟩ := sm_ii_inv h
    exact lv_ishl hx hb hdg (K ls hl)
  case ishr =>
    obtain rfl := hlen.resolve_left (by intro q; cases q)
    obtain ⟨x, y, r, rfl, rfl, rfl, rfl⟩ := sm_ii_inv h
    exact lv_ishr hx hb hdg (K ls hl)
  case iushr =>
    obtain rfl := hlen.resolve_left (by intro q; cases q)
    obtain ⟨x, y, r, rfl, rfl, rfl, rfl⟩ := sm_ii_inv h
    exact lv_iushr hx hb hdg rfl (K ls hl)
  case idiv =>
    obtain rfl := hlen.resolve_left (by intro q; cases q)
    obtain ⟨x, y, r, rfl, h0, rfl, rfl, rfl⟩ := sm_iid_inv h
    exact lv_idiv hx hb hdg h0 (K ls hl)
  case irem =>
    obtain rfl := hlen.resolve_left (by intro q; cases q)
    obtain ⟨x, y, r, rfl, h0, rfl, rfl, rfl⟩ := sm_iid_inv h
    exact lv_irem hx hb hdg h0 (K ls hl)
  case ladd =>
    obtain rfl := hlen.resolve_left (by intro q; cases q)
    obtain ⟨x, y, r, rfl, rfl, rfl, rfl⟩ := sm_ll_inv h
    exact lv_ladd hx hb hdg (K ls hl)
  case lsub =>
    obtain rfl := hlen.resolve_left (by intro q; cases q)
    obtain ⟨x, y, r, rfl, rfl, rfl, rfl⟩ := sm_ll_inv h
    exact lv_lsub hx hb hdg (K ls hl)
  case lmul =>
    obtain rfl := hlen.resolve_left (by intro q; cases q)
    obtain ⟨x, y, r, rfl, rfl, rfl, rfl⟩ := sm_ll_inv h
    exact lv_lmul hx hb hdg (K ls hl)
  case land =>
    obtain rfl := hlen.resolve_left (by intro q; cases q)
    obtain ⟨x, y, r, rfl, rfl, rfl, rfl⟩ := sm_ll_inv h
    exact lv_land hx hb hdg (K ls hl)
  case ldiv =>
    obtain rfl := hlen.resolve_left (by intro q; cases q)
    obtain ⟨x, y, r, rfl, h0, rfl, rfl, rfl⟩ := sm_lld_inv h
    exact lv_ldiv hx hb hdg h0 (K ls hl)
  case lrem =>
    obtain rfl := hlen.resolve_left (by intro q; cases q)
    obtain ⟨x, y, r, rfl, h0, rfl, rfl, rfl⟩ := sm_lld_inv h
    exact lv_lrem hx hb hdg h0 (K ls hl)
  case ineg =>
    obtain rfl := hlen.resolve_left (by intro q; cases q)
    obtain ⟨x, r, rfl, rfl, rfl, rfl⟩ := sm_i1_inv h
    exact lv_ineg hx hb hdg (K ls hl)
  case i2l =>
    obtain rfl := hlen.resolve_left (by intro q; cases q)
    obtain ⟨x, r, rfl, rfl, rfl, rfl⟩ := sm_i1_inv h
    exact lv_i2l hx hb hdg rfl (K ls hl)
  case i2b =>
    obtain rfl := hlen.resolve_left (by intro q; cases q)
    obtain ⟨x, r, rfl, rfl, rfl, rfl⟩ := sm_i1_inv h
    exact lv_i2b hx hb hdg rfl (K ls hl)
  case i2c =>
    obtain rfl := hlen.resolve_left (by intro q; cases q)
    obtain ⟨x, r, rfl, rfl, rfl, rfl⟩ := sm_i1_inv h
    exact lv_i2c hx hb hdg rfl (K ls hl)
  case lneg =>
    obtain rfl := hlen.resolve_left (by intro q; cases q)
    obtain ⟨x, r, rfl, rfl, rfl, rfl⟩ := sm_l1_inv h
    exact lv_lneg hx hb hdg (K ls hl)
  case l2i =>
    obtain rfl := hlen.resolve_left (by intro q; cases q)
    obtain ⟨x, r, rfl, rfl, rfl, rfl⟩ := sm_l1_inv h
    exact lv_l2i hx hb hdg rfl (K ls hl)
  case lcmp =>
    obtain rfl := hlen.resolve_left (by intro q; cases q)
    unfold sm_lo sm_cp at h
    dsimp only at h
    split at h
    · cases h
      exact W.lcmp hx hb hdg (K ls hl)
    · cases h
  case dup =>
    obtain rfl := hlen.resolve_left (by intro q; cases q)
    unfold sm_lo sm_du at h
    dsimp only at h
    split at h
    · split at h
      · next h0 =>
        cases h
        exact lv_dup hx hb hdg ((sm_tr_cat E ad _).trans h0) (K ls hl)
      · cases h
    · cases h
  case pop =>
    obtain rfl := hlen.resolve_left (by intro q; cases q)
    unfold sm_lo sm_po at h
    dsimp only at h
    split at h
    · split at h
      · next h0 =>
        cases h
        exact lv_pop hx hb hdg ((sm_tr_cat E ad _).trans h0) (K ls hl)
      · cases h
    · cases h
  case pop2 =>
    obtain rfl := hlen.resolve_left (by intro q; cases q)
    unfold sm_lo sm_p2 at h
    dsimp only at h
    split at h
    · split at h
      · next h0 =>
        cases h
        exact lv_pop2_2 hx hb hdg ((sm_tr_cat E ad _).trans h0) (K ls hl)
      · cases h
    · cases h
  case dup2 =>
    obtain rfl := hlen.resolve_left (by intro q; cases q)
    unfold sm_lo sm_d2 at h
    dsimp only at h
    split at h
    · split at h
      · next h0 =>
        cases h
        exact lv_dup2_2 hx hb hdg ((sm_tr_cat E ad _).trans h0) (K ls hl)
      · split at h
        · split at h
          · next h0 =>
            cases h
            exact lv_dup2_11 hx hb hdg ((sm_tr_cat E ad _).trans h0.1) ((sm_tr_cat E ad _).trans h0.2) (K ls hl)
          · cases h
        · cases h
    · cases h
  case goto off =>
    obtain rfl := hlen.resolve_left (by intro q; cases q)
    obtain ⟨h0, rfl, rfl⟩ := sm_jp_inv h
    exact lv_goto hx hb hdg h0 (K ls hl)
  case ifCond cd off =>
    obtain rfl := hlen.resolve_left (by intro q; cases q)
    obtain ⟨x, r, t, rfl, ht, rfl, rfl, hd⟩ := sm_if_inv h
    have kt : sm_cd cd x 0 = true → W p l e R s m args below meth c H locs cells slots Q (F0 m t ls (st'.map (sm_tr E ad))) := fun q => by
      rcases hd with ⟨_, rfl⟩ | ⟨q2, _⟩
      · exact K ls hl
      · rw [q] at q2; cases q2
    have kf : sm_cd cd x 0 = false → W p l e R s m args below meth c H locs cells slots Q (F0 m (pc + 3) ls (st'.map (sm_tr E ad))) := fun q => by
      rcases hd with ⟨q2, _⟩ | ⟨_, rfl⟩
      · rw [q] at q2; cases q2
      · exact K ls hl
    cases cd
    case eq => exact lv_if_eq hx hb hdg ht (fun q => kt (decide_eq_true q)) (fun q => kf (decide_eq_false q))
    case ne => exact lv_if_ne hx hb hdg ht (fun q => kt (decide_eq_true q)) (fun q => kf (decide_eq_false (fun z => z q)))
    case lt => exact lv_if_lt hx hb hdg ht (fun q => kt (decide_eq_true q)) (fun q => kf (decide_eq_false q))
    case ge => exact lv_if_ge hx hb hdg ht (fun q => kt (decide_eq_true q)) (fun q => kf (decide_eq_false q))
    case gt => exact lv_if_gt hx hb hdg ht (fun q => kt (decide_eq_true q)) (fun q => kf (decide_eq_false q))
    case le => exact lv_if_le hx hb hdg ht (fun q => kt (decide_eq_true q)) (fun q => kf (decide_eq_false q))
  case if_icmp cd off =>
    obtain rfl := hlen.resolve_left (by intro q; cases q)
    obtain ⟨x, y, r, t, rfl, ht, rfl, rfl, hd⟩ := sm_ic_inv h
    have kt : sm_cd cd x y = true → W p l e R s m args below meth c H locs cells slots Q (F0 m t ls (st'.map (sm_tr E ad))) := fun q => by
      rcases hd with ⟨_, rfl⟩ | ⟨q2, _⟩
      · exact K ls hl
      · rw [q] at q2; cases q2
    have kf : sm_cd cd x y = false → W p l e R s m args below meth c H locs cells slots Q (F0 m (pc + 3) ls (st'.map (sm_tr E ad))) := fun q => by
      rcases hd with ⟨q2, _⟩ | ⟨_, rfl⟩
      · rw [q] at q2; cases q2
      · exact K ls hl
    cases cd
    case eq => exact lv_icmp_eq hx hb hdg ht (fun q => kt (decide_eq_true q)) (fun q => kf (decide_eq_false q))
    case ne => exact lv_icmp_ne hx hb hdg ht (fun q => kt (decide_eq_true q)) (fun q => kf (decide_eq_false (fun z => z q)))
    case lt => exact lv_icmp_lt hx hb hdg ht (fun q => kt (decide_eq_true q)) (fun q => kf (decide_eq_false q))
    case ge => exact lv_icmp_ge hx hb hdg ht (fun q => kt (decide_eq_true q)) (fun q => kf (decide_eq_false q))
    case gt => exact lv_icmp_gt hx hb hdg ht (fun q => kt (decide_eq_true q)) (fun q => kf (decide_eq_false q))
    case le => exact lv_icmp_le hx hb hdg ht (fun q => kt (decide_eq_true q)) (fun q => kf (decide_eq_false q))
  case tableswitch d lo hi offs =>
    unfold sm_lo sm_tb at h
    dsimp only at h
    split at h
    · split at h
      · next h0 =>
        obtain ⟨h1, rfl, rfl⟩ := sm_jp_inv h
        exact lv_tableOut hx hb hdg h0 h1 (K ls hl)
      · next h0 =>
        split at h
        · next off ho =>
          obtain ⟨h1, rfl, rfl⟩ := sm_jp_inv h
          exact lv_tableIn hx hb hdg (fun q => h0 (Or.inl q)) (fun q => h0 (Or.inr q)) ho h1 (K ls hl)
        · cases h
    · cases h
  all_goals (exact absurd h (by intro q; cases q))
end SML
