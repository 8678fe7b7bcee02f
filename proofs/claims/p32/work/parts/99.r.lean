/-! What the law's start gives. -/
theorem nfl_in : ∀ q ∈ nfl, Cond.fieldLinkNest q.1 q.2.1 q.2.2.1 q.2.2.2.1 q.2.2.2.2.1 q.2.2.2.2.2 ∈ lw_tbl := by decide +kernel
theorem nml_in : ∀ q ∈ nml, Cond.methodLinkNest q.1 q.2.1 q.2.2.1 q.2.2.2 ∈ lw_tbl := by decide +kernel
theorem nw_start {b : Nat} {s : State} (hts0 : ∀ w ∈ lw_tbl, w.before #[Value.ref b] s = true) : nw_ok s := ⟨fun q hq => va_Nw.of rfl (hts0 _ (nfl_in q hq)), fun q hq => va_Nw.of rfl (hts0 _ (nml_in q hq))⟩
theorem xs_start {b : Nat} {s : State} {A : Nat → Prop} (hts0 : ∀ w ∈ lw_tbl, w.before #[Value.ref b] s = true) (hgv : (Jvm.Cond.and given_1 narrow_1).before #[Value.ref b] s = true) (hA : ∀ a : Nat, a < s.heap.size → ¬ A a) : ∃ (K V : Nat), xs_ok K V sm_tx A s s.heap := by
  have hs := flat_of_before _ hgv
  have hel : ∀ j : Nat, j < 120 → (Cond.eq (.elem (.field (.string "StuckGroove$Reader" 58) "java/lang/String" "value" "[B") (.int (Int32.ofNat j))) (.int (sm_tl.getD j 0))).before #[Value.ref b] s = true := fun j hj => hs _ ((show ∀ j : Nat, j < 120 → Cond.eq (.elem (.field (.string "StuckGroove$Reader" 58) "java/lang/String" "value" "[B") (.int (Int32.ofNat j))) (.int (sm_tl.getD j 0)) ∈ _ from by decide +kernel) j hj)
  obtain ⟨adK, adV, hSt, hev⟩ := vk_Sof (args := #[Value.ref b]) (s := s) (N := 1) (tm := fun _ => Term.string "StuckGroove$Reader" 58) (len := [120]) (byt := [sm_tl]) (A := A) (fun i hi => by rw [show i = 0 by omega]; decide) (fun _ _ => hs _ (by decide +kernel)) (fun _ _ => hs _ (by decide +kernel)) (fun _ _ => hs _ (by decide +kernel)) (fun i hi => by rw [show i = 0 by omega]; exact hs _ (by decide +kernel)) (fun i hi j hj => by rw [show i = 0 by omega] at hj ⊢; exact hel j hj) (fun i j hi hj h => absurd (show i = j by omega) h) hA
  obtain ⟨h1, h2, h3, h4⟩ := hSt.1 0 (by decide)
  exact ⟨adK 0, adV 0, vk_R.of (hts0 (.stringRef "StuckGroove$Reader" 58 "groovescrat guest arm   price seed  law   back  wear  worth or    and   not   place odds  worn  heavy round heard turn  ") (by decide +kernel)) (hev 0 (by decide)), h1, h2, h3, h4, va_Zof (hts0 (.laysStatic "java/lang/String" "COMPACT_STRINGS" "Z") (by decide +kernel)) (hts0 (.initialized "java/lang/String") (by decide +kernel)) (va_eqt (hs (Cond.eq (.static "java/lang/String" "COMPACT_STRINGS" "Z") (.int 1)) (by decide +kernel))) hA, va_Zqof (hts0 (.laysStatic "jdk/internal/util/Preconditions" "SIOOBE_FORMATTER" "Ljava/util/function/BiFunction;") (by decide +kernel)) (hts0 (.initialized "jdk/internal/util/Preconditions") (by decide +kernel)) (hs (Cond.isRef (.static "jdk/internal/util/Preconditions" "SIOOBE_FORMATTER" "Ljava/util/function/BiFunction;")) (by decide +kernel)) hA, ao_vm rfl (hts0 (.arrayOver (.array .int)) (by decide +kernel))⟩
def ex_by : List Int32 := [110, 111, 32, 115, 117, 99, 104, 32, 103, 114, 111, 111, 118, 101]
theorem ex_start {b : Nat} {s : State} {A : Nat → Prop} (hts0 : ∀ w ∈ lw_tbl, w.before #[Value.ref b] s = true) (hgv : (Jvm.Cond.and given_1 narrow_1).before #[Value.ref b] s = true) (hA : ∀ a : Nat, a < s.heap.size → ¬ A a) : ∃ sa : Nat, ex_ok sa A s s.heap := by
  have hs := flat_of_before _ hgv
  have hel : ∀ j : Nat, j < 14 → (Cond.eq (.elem (.field (.string "StuckGroove" 131) "java/lang/String" "value" "[B") (.int (Int32.ofNat j))) (.int (ex_by.getD j 0))).before #[Value.ref b] s = true := fun j hj => hs _ ((show ∀ j : Nat, j < 14 → Cond.eq (.elem (.field (.string "StuckGroove" 131) "java/lang/String" "value" "[B") (.int (Int32.ofNat j))) (.int (ex_by.getD j 0)) ∈ _ from by decide +kernel) j hj)
  obtain ⟨adK, adV, hSt, hev⟩ := vk_Sof (args := #[Value.ref b]) (s := s) (N := 1) (tm := fun _ => Term.string "StuckGroove" 131) (len := [14]) (byt := [ex_by]) (A := A) (fun i hi => by rw [show i = 0 by omega]; decide) (fun _ _ => hs _ (by decide +kernel)) (fun _ _ => hs _ (by decide +kernel)) (fun _ _ => hs _ (by decide +kernel)) (fun i hi => by rw [show i = 0 by omega]; exact hs _ (by decide +kernel)) (fun i hi j hj => by rw [show i = 0 by omega] at hj ⊢; exact hel j hj) (fun i j hi hj h => absurd (show i = j by omega) h) hA
  exact ⟨adK 0, ⟨va_Nw.of rfl (hts0 (.declares (Bundle.initS "java/lang/RuntimeException")) (by decide +kernel)), va_Nw.of rfl (hts0 (.declares (Bundle.initS "java/lang/Exception")) (by decide +kernel)), va_Nw.of rfl (hts0 (.declares (Bundle.initS Bundle.tN)) (by decide +kernel)), va_Nw.of rfl (hts0 (.castable exI exI) (by decide +kernel))⟩, vk_R.of (hts0 (.stringRef "StuckGroove" 131 "no such groove") (by decide +kernel)) (hev 0 (by decide)), vx_Zqof (hts0 (.laysStatic Bundle.tN "UNASSIGNED_STACK" Bundle.steD) (by decide +kernel)) (hts0 (.initialized Bundle.tN) (by decide +kernel)) (hs (Cond.isRef (.static Bundle.tN "UNASSIGNED_STACK" Bundle.steD)) (by decide +kernel)) hA, vx_Zqof (hts0 (.laysStatic Bundle.tN "SUPPRESSED_SENTINEL" Bundle.listD) (by decide +kernel)) (hts0 (.initialized Bundle.tN) (by decide +kernel)) (hs (Cond.isRef (.static Bundle.tN "SUPPRESSED_SENTINEL" Bundle.listD)) (by decide +kernel)) hA⟩
def ne_by : List Int32 := [110, 111, 32, 115, 117, 99, 104, 32, 119, 104, 97, 116]
theorem ne_start {b : Nat} {s : State} (hts0 : ∀ w ∈ lw_tbl, w.before #[Value.ref b] s = true) (hgv : (Jvm.Cond.and given_1 narrow_1).before #[Value.ref b] s = true) : ∃ sb : Nat, ne_ok sb s := by
  have hs := flat_of_before _ hgv
  have hA : ∀ a : Nat, a < s.heap.size → ¬ (fun _ : Nat => False) a := fun _ _ h => h
  have hel : ∀ j : Nat, j < 12 → (Cond.eq (.elem (.field (.string "StuckGroove" 150) "java/lang/String" "value" "[B") (.int (Int32.ofNat j))) (.int (ne_by.getD j 0))).before #[Value.ref b] s = true := fun j hj => hs _ ((show ∀ j : Nat, j < 12 → Cond.eq (.elem (.field (.string "StuckGroove" 150) "java/lang/String" "value" "[B") (.int (Int32.ofNat j))) (.int (ne_by.getD j 0)) ∈ _ from by decide +kernel) j hj)
  obtain ⟨adK, adV, hSt, hev⟩ := vk_Sof (args := #[Value.ref b]) (s := s) (N := 1) (tm := fun _ => Term.string "StuckGroove" 150) (len := [12]) (byt := [ne_by]) (A := fun _ => False) (fun i hi => by rw [show i = 0 by omega]; decide) (fun _ _ => hs _ (by decide +kernel)) (fun _ _ => hs _ (by decide +kernel)) (fun _ _ => hs _ (by decide +kernel)) (fun i hi => by rw [show i = 0 by omega]; exact hs _ (by decide +kernel)) (fun i hi j hj => by rw [show i = 0 by omega] at hj ⊢; exact hel j hj) (fun i j hi hj h => absurd (show i = j by omega) h) hA
  exact ⟨adK 0, va_Nw.of rfl (hts0 (.castable neI neI) (by decide +kernel)), va_Nc.of (hs (Cond.not (.castable neI exI)) (by decide +kernel)), vk_R.of (hts0 (.stringRef "StuckGroove" 150 "no such what") (by decide +kernel)) (hev 0 (by decide))⟩
/-- the ranks -/
def rk_l : List Int32 := [0, 1, 2, 3, 4, 4, 4, 4, 4, 4, 5, 5, 6, 6]
theorem rk_start {b : Nat} {s : State} {A : Nat → Prop} (hts0 : ∀ w ∈ lw_tbl, w.before #[Value.ref b] s = true) (hgv : (Jvm.Cond.and given_1 narrow_1).before #[Value.ref b] s = true) (hA : ∀ a : Nat, a < s.heap.size → ¬ A a) : ∃ t : Nat, va_T .int t rk_l.length (fun k => .int (rk_l.getD k 0)) A s s.heap ∧ va_Z RX7 "RANKS" "[I" (.ref t) A s s.heap := by
  have hs := flat_of_before _ hgv
  have hel : ∀ j : Nat, j < 14 → (Cond.eq (.elem (.static "StuckGroove" "RANKS" "[I") (.int (Int32.ofNat j))) (.int (rk_l.getD j 0))).before #[Value.ref b] s = true := fun j hj => hs _ ((show ∀ j : Nat, j < 14 → Cond.eq (.elem (.static "StuckGroove" "RANKS" "[I") (.int (Int32.ofNat j))) (.int (rk_l.getD j 0)) ∈ _ from by decide +kernel) j hj)
  obtain ⟨t, ht, hT⟩ := va_Tof (args := #[Value.ref b]) (s := s) (tm := .static "StuckGroove" "RANKS" "[I") (ty := .int) (N := 14) (f := fun k => .int (rk_l.getD k 0)) (A := A) (by decide) (hs (Cond.arrayOf (.static "StuckGroove" "RANKS" "[I") .int) (by decide +kernel)) (va_eqt (hs (Cond.eq (.length (.static "StuckGroove" "RANKS" "[I")) (.int 14)) (by decide +kernel))) (fun j hj => va_eqt (hel j hj)) hA
  exact ⟨t, hT, va_Zof (hts0 (.laysStatic "StuckGroove" "RANKS" "[I") (by decide +kernel)) (hts0 (.initialized "StuckGroove") (by decide +kernel)) ht hA⟩
/-- the kinds of arrays -/
theorem ty_of {args : Array Value} {s : State} {ty : FieldType} (hp : ∀ C, ty ≠ .object C) (h : (Cond.arrayClass ty).before args s = true) : ∃ c : ClassId, ArrOfT s c ty ∧ va_RA s c ty := by
  obtain ⟨c, k, comp, h1, h2, h3⟩ := Cond.arrayClass_spec h
  refine ⟨c, fun n z => ⟨(fun k h => by cases h), k, h2, comp, h3⟩, ?_⟩
  cases ty with
  | object C => exact absurd rfl (hp C)
  | _ => exact h1
theorem ty_over {args : Array Value} {s : State} {t : FieldType} (h : (Cond.arrayOver (.array t)).before args s = true) : ∃ c : ClassId, ArrOfT s c (.array t) ∧ va_RA s c (.array t) := by
  simp only [Cond.before, Cond.holds, Cond.value, beq_iff_eq] at h
  cases hc : s.vm.findClass (FieldType.array t).toString with
  | none => simp [hc] at h
  | some comp =>
    simp only [hc, Option.bind_some, Option.bind_eq_some_iff, Option.map_eq_some_iff] at h
    obtain ⟨c, hi, k, hk, hb⟩ := h
    obtain ⟨hlt, hp, -⟩ := Array.findIdx?_eq_some_iff_getElem.mp hi
    have hkk : s.vm.classes[c] = k := (Array.getElem?_eq_some_iff.mp hk).2
    rw [hkk] at hp
    cases hkind : k.kind with
    | array component ty =>
      rw [hkind] at hb hp
      simp at hb hp
      exact ⟨c, fun n z => ⟨(fun k h => by cases h), k, hk, component, by rw [hkind, hb.1]⟩, hb.2⟩
    | _ => rw [hkind] at hb; simp at hb
theorem K_start {b : Nat} {s : State} (hts0 : ∀ w ∈ lw_tbl, w.before #[Value.ref b] s = true) : ∃ (D : va_G) (G : Nat → ClassId), va_K D vwCl (sm_ty G) s := by
  have hin : ∀ w ∈ sm_all, w ∈ lw_tbl := fun w h => (List.mem_filter.mp h).1
  obtain ⟨g0, a0⟩ := ty_of (ty := .int) (fun _ q => by cases q) (hts0 _ (hin _ ar_int))
  obtain ⟨g1, a1⟩ := ty_of (ty := .byte) (fun _ q => by cases q) (hts0 _ (hin _ ar_byte))
  obtain ⟨g2, a2⟩ := ty_of (ty := .boolean) (fun _ q => by cases q) (hts0 _ (hin _ ar_bool))
  obtain ⟨g3, a3⟩ := ty_of (ty := .long) (fun _ q => by cases q) (hts0 _ (hin _ ar_long))
  obtain ⟨g4, a4⟩ := ty_over (t := .int) (hts0 (.arrayOver (.array .int)) (by decide +kernel))
  obtain ⟨c0, iS0, hKn0⟩ := u_known (C := RX0) (T := TX0) (N := 7) (n := 7) hts0 (fun w h => hin _ (luX0 w h)) (hts0 _ (hin _ pw_1279))
  obtain ⟨c1, iS1, hKn1⟩ := u_known (C := RX1) (T := TX1) (N := 11) (n := 11) hts0 (fun w h => hin _ (luX1 w h)) (hts0 _ (hin _ pw_1280))
  obtain ⟨c2, iS2, hKn2⟩ := u_known (C := RX2) (T := TX2) (N := 12) (n := 12) hts0 (fun w h => hin _ (luX2 w h)) (hts0 _ (hin _ pw_1281))
  obtain ⟨c3, iS3, hKn3⟩ := u_known (C := RX3) (T := TX3) (N := 14) (n := 14) hts0 (fun w h => hin _ (luX3 w h)) (hts0 _ (hin _ pw_1282))
  obtain ⟨c4, iS4, hKn4⟩ := u_known (C := RX4) (T := TX4) (N := 15) (n := 15) hts0 (fun w h => hin _ (luX4 w h)) (hts0 _ (hin _ pw_1283))
  obtain ⟨c5, iS5, hKn5⟩ := u_known (C := RX5) (T := TX5) (N := 4) (n := 4) hts0 (fun w h => hin _ (luX5 w h)) (hts0 _ (hin _ pw_1284))
  obtain ⟨c6, iS6, hKn6⟩ := u_known (C := RX6) (T := TX6) (N := 7) (n := 7) hts0 (fun w h => hin _ (luX6 w h)) (hts0 _ (hin _ pw_1285))
  obtain ⟨c7, iS7, hKn7⟩ := u_known (C := RX7) (T := TX7) (N := 17) (n := 17) hts0 (fun w h => hin _ (luX7 w h)) (hts0 _ (hin _ pw_1286))
  obtain ⟨c8, iS8, hKn8⟩ := u_known (C := RX8) (T := TX8) (N := 84) (n := 84) hts0 (fun w h => hin _ (luX8 w h)) (hts0 _ (hin _ pw_1287))
  refine ⟨(fun k => if k = 0 then c0 else if k = 1 then c1 else if k = 2 then c2 else if k = 3 then c3 else if k = 4 then c4 else if k = 5 then c5 else if k = 6 then c6 else if k = 7 then c7 else c8, fun k => if k = 0 then iS0 else if k = 1 then iS1 else if k = 2 then iS2 else if k = 3 then iS3 else if k = 4 then iS4 else if k = 5 then iS5 else if k = 6 then iS6 else if k = 7 then iS7 else iS8), fun k => if k = 0 then g0 else if k = 1 then g1 else if k = 2 then g2 else if k = 3 then g3 else g4, fun k q hq => ?_, fun k q hq => ?_⟩
  · match k, hq with
    | 0, hq => cases hq; exact hKn0
    | 1, hq => cases hq; exact hKn1
    | 2, hq => cases hq; exact hKn2
    | 3, hq => cases hq; exact hKn3
    | 4, hq => cases hq; exact hKn4
    | 5, hq => cases hq; exact hKn5
    | 6, hq => cases hq; exact hKn6
    | 7, hq => cases hq; exact hKn7
    | 8, hq => cases hq; exact hKn8
    | k + 9, hq => simp [vwCl] at hq
  · match k, hq with
    | 0, hq => cases hq; exact a0
    | 1, hq => cases hq; exact a1
    | 2, hq => cases hq; exact a2
    | 3, hq => cases hq; exact a3
    | 4, hq => cases hq; exact a4
    | k + 5, hq => simp [sm_ty] at hq
