/-! What bounds say of a path: run over its tokens. -/
/-- less than at the start -/
def zml (E : ab_E) (al : zAl) (m m0 : zMm) (n0 : Nat) (e0 e : zMe) (vs : List (Nat × Int)) : Bool :=
  match zmn (fun t => match t.1 with
      | 0 => bif Nat.ble (t.2.1 + 1) n0 then some (zt al (t.2.1 + 1, 0)) else none
      | _ => zmf m0 t.2.1 t.2.2) (-1) e0.2 (0 - e0.1, []) with
  | some a => (match zlu E a.2, zmn (fun t => match t.1 with
      | 0 => bif Nat.ble (t.2.1 + 1) vs.length then some (zt al (vs.getD t.2.1 (0, 0))) else none
      | _ => zmf m t.2.1 t.2.2) 1 e.2 (e.1 + a.1, a.2) with
    | some u, some b => ab_ile (a.1 + u) (-1) && (match zlu E b.2 with
      | some w => ab_ile (b.1 + w) (-1)
      | none => false)
    | _, _ => false)
  | none => false
/-- comparisons of longs that were made -/
abbrev zCm : Type := List (Nat × (Nat × Int) × (Nat × Int))
def zcm1 (cm : zCm) (E : ab_E) (n : Nat) (p q : Nat × Int) : zCm := match ab_rg E p, ab_rg E q with
  | some z, some w => bif ab_n64 z && ab_n64 w then (n, p, q) :: cm else cm
  | _, _ => cm
def zcm2 (cm : zCm) (cd : ClassFile.Cond) (E : ab_E) (p q : Nat × Int) : ab_E := bif Nat.beq q.1 0 && (ab_ile q.2 0 && (ab_ile 0 q.2 && (ab_ile p.2 0 && ab_ile 0 p.2))) then (match cm.find? (fun e => Nat.beq e.1 p.1) with
  | some e => ab_at cd E e.2.1 e.2.2
  | none => E) else E
def zKc (ρ : List Int) (cm : zCm) : Prop := ∀ e ∈ cm, e.1 < ρ.length ∧ e.2.1.1 < ρ.length ∧ e.2.2.1 < ρ.length ∧ ∀ cd : ClassFile.Cond, ab_ic cd (ρ.getD e.1 0) 0 → ab_ic cd (ρ.getD e.2.1.1 0 + e.2.1.2) (ρ.getD e.2.2.1 0 + e.2.2.2)
theorem zKc_app {ρ : List Int} {cm : zCm} {x : List Int} (h : zKc ρ cm) : zKc (ρ ++ x) cm := fun e he => by
  obtain ⟨a, b, c, d⟩ := h e he
  rw [ab_getD_app a, ab_getD_app b, ab_getD_app c, List.length_append]
  exact ⟨by omega, by omega, by omega, d⟩
theorem zd_p {c : Nat} {x y : Int} (hx : z64 x) (hy : z64 y) : zd 3 c x y = if y < x then 1 else if x = y then 0 else -1 := by
  show (lg_cmp (Int64.ofInt x) (Int64.ofInt y)).toInt = _
  unfold lg_cmp
  simp only [gt_iff_lt, Int64.lt_iff_toInt_lt, ← Int64.toInt_inj, z64_of hx, z64_of hy]
  split
  · rfl
  · split <;> rfl
theorem zcm1_ok {ρ : List Int} {cm : zCm} {E : ab_E} {n c : Nat} {p q : Nat × Int} (h : ab_ok ρ E) (hk : zKc ρ cm) (hn : n = ρ.length) : zKc (ρ ++ [zd 3 c (ρ.getD p.1 0 + p.2) (ρ.getD q.1 0 + q.2)]) (zcm1 cm E n p q) := by
  unfold zcm1
  split
  · next z w hz hw =>
    cases hb : (ab_n64 z && ab_n64 w) with
    | false => exact zKc_app hk
    | true =>
      have g := (Bool.and_eq_true _ _).mp hb
      have g1 := ab_n64_ok g.1
      have g2 := ab_n64_ok g.2
      have a := ab_rg_ok h hz
      have b := ab_rg_ok h hw
      intro e he
      rcases List.mem_cons.mp he with rfl | he
      · dsimp only
        rw [hn, ab_getD_new, ab_getD_app a.1, ab_getD_app b.1, List.length_append, zd_p ⟨by omega, by omega⟩ ⟨by omega, by omega⟩]
        refine ⟨Nat.lt_succ_self _, by omega, by omega, fun cd hc => ?_⟩
        cases cd <;> unfold ab_ic at hc ⊢ <;> dsimp only at hc ⊢ <;> split at hc <;> (try split at hc) <;> omega
      · exact zKc_app hk e he
  · exact zKc_app hk
theorem zcm2_ok {ρ : List Int} {cm : zCm} {E : ab_E} {cd : ClassFile.Cond} {p q : Nat × Int} (h : ab_ok ρ E) (hk : zKc ρ cm) (hc : ab_ic cd (ρ.getD p.1 0 + p.2) (ρ.getD q.1 0 + q.2)) : ab_ok ρ (zcm2 cm cd E p q) := by
  unfold zcm2
  cases hb : (Nat.beq q.1 0 && (ab_ile q.2 0 && (ab_ile 0 q.2 && (ab_ile p.2 0 && ab_ile 0 p.2)))) with
  | false => exact h
  | true =>
    obtain ⟨g1, g2⟩ := (Bool.and_eq_true _ _).mp hb
    obtain ⟨g2, g3, g4, g5⟩ := ab_and4 g2
    have g2 := ab_ile_iff.mp g2
    have g3 := ab_ile_iff.mp g3
    have g4 := ab_ile_iff.mp g4
    have g5 := ab_ile_iff.mp g5
    rw [Nat.eq_of_beq_eq_true g1, h.2.1, show q.2 = 0 by omega, show p.2 = 0 by omega, Int.add_zero, Int.add_zero] at hc
    dsimp only [cond_true]
    split
    · next e he =>
      have h1 := List.find?_some he
      have h2 := hk e (List.mem_of_find?_eq_some he)
      refine ab_at_ok h (h2.2.2.2 cd ?_)
      rw [Nat.eq_of_beq_eq_true h1]
      exact hc
    · exact h
/-- what was read at places that aren't sure -/
abbrev zMs : Type := List (Nat × (Nat × Int) × (Nat × Int))
def zmsf (ms : zMs) (r : Nat) (p : Nat × Int) : Option (Nat × Int) := match ms.find? (fun e => Nat.beq e.1 r && (Nat.beq e.2.1.1 p.1 && (ab_ile e.2.1.2 p.2 && ab_ile p.2 e.2.1.2))) with
  | some e => some e.2.2
  | none => none
def zKs (ρ : List Int) (η : zE) (ms : zMs) : Prop := ∀ e ∈ ms, e.2.1.1 < ρ.length ∧ e.2.2.1 < ρ.length ∧ η e.1 (ρ.getD e.2.1.1 0 + e.2.1.2).toNat = ρ.getD e.2.2.1 0 + e.2.2.2
theorem zKs_app {ρ : List Int} {η : zE} {ms : zMs} {x : List Int} (h : zKs ρ η ms) : zKs (ρ ++ x) η ms := fun e he => by
  obtain ⟨a, b, c⟩ := h e he
  rw [ab_getD_app a, ab_getD_app b, List.length_append]
  exact ⟨by omega, by omega, c⟩
theorem zmsf_ok {ρ : List Int} {η : zE} {ms : zMs} {r : Nat} {p v : Nat × Int} (h : zKs ρ η ms) (hf : zmsf ms r p = some v) : v.1 < ρ.length ∧ η r (ρ.getD p.1 0 + p.2).toNat = ρ.getD v.1 0 + v.2 := by
  unfold zmsf at hf
  split at hf
  · next e he =>
    cases hf
    have g := List.find?_some he
    obtain ⟨g1, g2, g3, g4⟩ := ab_and4 g
    have g3 := ab_ile_iff.mp g3
    have g4 := ab_ile_iff.mp g4
    obtain ⟨a, b, c⟩ := h e (List.mem_of_find?_eq_some he)
    rw [Nat.eq_of_beq_eq_true g1, Nat.eq_of_beq_eq_true g2, show e.2.1.2 = p.2 by omega] at c
    exact ⟨b, c⟩
  · cases hf
theorem zKs_fil {ρ : List Int} {η η' : zE} {ms : zMs} {f : Nat → Bool} (h : zKs ρ η ms) (hf : ∀ r j, f r = true → η' r j = η r j) : zKs ρ η' (ms.filter (fun e => f e.1)) := fun e he => by
  have g := List.mem_filter.mp he
  rw [hf _ _ g.2]
  exact h e g.1
theorem zKs_new {ρ : List Int} {η : zE} {ms : zMs} {r n : Nat} {p : Nat × Int} (h : zKs ρ η ms) (hn : n = ρ.length) (hp : p.1 < ρ.length) : zKs (ρ ++ [η r (ρ.getD p.1 0 + p.2).toNat]) η ((r, p, n, 0) :: ms) := fun e he => by
  rcases List.mem_cons.mp he with rfl | he
  · dsimp only
    rw [hn, ab_getD_new, ab_getD_app hp, List.length_append, Int.add_zero]
    exact ⟨by omega, Nat.lt_succ_self _, rfl⟩
  · exact zKs_app h e he
def zms1 (ms : zMs) (E : ab_E) (n r : Nat) (p : Nat × Int) : zMs := match ab_rg E p with
  | some _ => (r, p, n, 0) :: ms
  | none => ms
theorem zms1_ok {ρ : List Int} {η : zE} {ms : zMs} {E : ab_E} {r n : Nat} {p : Nat × Int} (ho : ab_ok ρ E) (h : zKs ρ η ms) (hn : n = ρ.length) : zKs (ρ ++ [η r (ρ.getD p.1 0 + p.2).toNat]) η (zms1 ms E n r p) := by
  unfold zms1
  split
  · next z hz => exact zKs_new h hn (ab_rg_ok ho hz).1
  · exact zKs_app h
/-- what follows if an answer is no 0 -/
abbrev zCr : Type := List (Nat × zRl)
def zrm (al : zAl) (vs : List (Nat × Int)) (w : Nat × Int) : Nat × Int := match w.1 with
  | 0 => (0, w.2)
  | k + 1 => ((zt al (vs.getD k (0, 0))).1, (zt al (vs.getD k (0, 0))).2 + w.2)
def zrl1 (E : ab_E) (al : zAl) (vs : List (Nat × Int)) (l : zRl) : zRl := (l.map (fun w => (zrm al vs w.1, zrm al vs w.2))).filter (fun w => (ab_rg E w.1).isSome && (ab_rg E w.2).isSome)
def zcr2 (cr : zCr) (c : Nat) (E : ab_E) (p q : Nat × Int) : ab_E := bif Nat.beq c 1 && (Nat.beq q.1 0 && (ab_ile q.2 0 && (ab_ile 0 q.2 && (ab_ile p.2 0 && ab_ile 0 p.2)))) then (match cr.find? (fun e => Nat.beq e.1 p.1) with
  | some e => e.2.foldl (fun E w => ab_as E w.1 w.2) E
  | none => E) else E
def zrk (E : ab_E) (al : zAl) (n0 : Nat) (w : (Nat × Int) × (Nat × Int)) : Bool := Nat.ble w.1.1 n0 && (Nat.ble w.2.1 n0 && ab_le E ((zt al (w.1.1, 0)).1, (zt al (w.1.1, 0)).2 + w.1.2) ((zt al (w.2.1, 0)).1, (zt al (w.2.1, 0)).2 + w.2.2))
def zKr (ρ : List Int) (cr : zCr) : Prop := ∀ e ∈ cr, e.1 < ρ.length ∧ (∀ w ∈ e.2, w.1.1 < ρ.length ∧ w.2.1 < ρ.length) ∧ (¬ ρ.getD e.1 0 = 0 → ∀ w ∈ e.2, ρ.getD w.1.1 0 + w.1.2 ≤ ρ.getD w.2.1 0 + w.2.2)
theorem zKr_app {ρ : List Int} {cr : zCr} {x : List Int} (h : zKr ρ cr) : zKr (ρ ++ x) cr := fun e he => by
  obtain ⟨a, b, c⟩ := h e he
  refine ⟨by rw [List.length_append]; omega, fun w hw => by have := b w hw; rw [List.length_append]; omega, fun hn w hw => ?_⟩
  rw [ab_getD_app a] at hn
  rw [ab_getD_app (b w hw).1, ab_getD_app (b w hw).2]
  exact c hn w hw
theorem zas_fold {ρ : List Int} : ∀ {l : zRl} {E : ab_E}, ab_ok ρ E → (∀ w ∈ l, ρ.getD w.1.1 0 + w.1.2 ≤ ρ.getD w.2.1 0 + w.2.2) → ab_ok ρ (l.foldl (fun E w => ab_as E w.1 w.2) E)
  | [], _, h, _ => h
  | w :: l, E, h, hw => zas_fold (l := l) (ab_as_ok h (hw w (List.mem_cons_self ..))) (fun v hv => hw v (List.mem_cons_of_mem _ hv))
theorem zcr2_ok {ρ : List Int} {cr : zCr} {c : Nat} {E : ab_E} {p q : Nat × Int} (h : ab_ok ρ E) (hk : zKr ρ cr) (hc : zcd c (ρ.getD p.1 0 + p.2) (ρ.getD q.1 0 + q.2)) : ab_ok ρ (zcr2 cr c E p q) := by
  unfold zcr2
  cases hb : (Nat.beq c 1 && (Nat.beq q.1 0 && (ab_ile q.2 0 && (ab_ile 0 q.2 && (ab_ile p.2 0 && ab_ile 0 p.2))))) with
  | false => exact h
  | true =>
    obtain ⟨g0, g1⟩ := (Bool.and_eq_true _ _).mp hb
    obtain ⟨g1, g2⟩ := (Bool.and_eq_true _ _).mp g1
    obtain ⟨g2, g3, g4, g5⟩ := ab_and4 g2
    have g2 := ab_ile_iff.mp g2
    have g3 := ab_ile_iff.mp g3
    have g4 := ab_ile_iff.mp g4
    have g5 := ab_ile_iff.mp g5
    rw [Nat.eq_of_beq_eq_true g0, Nat.eq_of_beq_eq_true g1, h.2.1, show q.2 = 0 by omega, show p.2 = 0 by omega, Int.add_zero, Int.add_zero] at hc
    have hc : ¬ ρ.getD p.1 0 = 0 := hc
    dsimp only [cond_true]
    split
    · next e he =>
      have h1 := List.find?_some he
      refine zas_fold h ((hk e (List.mem_of_find?_eq_some he)).2.2 ?_)
      rw [Nat.eq_of_beq_eq_true h1]
      exact hc
    · exact h
def zi (L : wL) (GR : List zCe) (cs : List zCs) (iv : List zIv) (po : List zPo) (en : Bool) (mods : List zCe) (n0 : Nat) (e0 : zMe) : List zK → zCr → zMs → zCm → ab_E → zAl → Nat → zMm → zFc → zMm → List zCe → Bool
  | [], _, _, _, _, _, _, _, _, _, _ => true
  | (k, c, vs) :: r, cr, ms, cm, E, al, n, m, F, m0, dr => match k with
    | 0 => zi L GR cs iv po en mods n0 e0 r cr ms cm (zpE E n (zop 0 c E (zt al (za vs 0)) (zt al (za vs 1)))) (zpA al n (zop 0 c E (zt al (za vs 0)) (zt al (za vs 1)))) (n + 1) m F m0 dr
    | 1 => zi L GR cs iv po en mods n0 e0 r cr ms cm (zpE E n (zop 1 c E (zt al (za vs 0)) (zt al (za vs 1)))) (zpA al n (zop 1 c E (zt al (za vs 0)) (zt al (za vs 1)))) (n + 1) m F m0 dr
    | 2 => zi L GR cs iv po en mods n0 e0 r cr ms cm (zpE E n (zop 2 c E (zt al (za vs 0)) (zt al (za vs 1)))) (zpA al n (zop 2 c E (zt al (za vs 0)) (zt al (za vs 1)))) (n + 1) m F m0 dr
    | 3 => zi L GR cs iv po en mods n0 e0 r cr ms (zcm1 cm E n (zt al (za vs 0)) (zt al (za vs 1))) (zpE E n (zop 3 c E (zt al (za vs 0)) (zt al (za vs 1)))) (zpA al n (zop 3 c E (zt al (za vs 0)) (zt al (za vs 1)))) (n + 1) m F m0 dr
    | 4 => (Nat.ble c 2 || Nat.beq c 4) && (match zsu E (zt al (za vs 1)) with
      | some j => (match zmf m (za vs 0).1 j with
        | some v => zi L GR cs iv po en mods n0 e0 r cr ms cm E ((n, v) :: al) (n + 1) m F m0 dr
        | none => zi L GR cs iv po en mods n0 e0 r cr ms cm (zpE E n (zlo1 L F c (za vs 0).1 j)) (zpA al n (zlo1 L F c (za vs 0).1 j)) (n + 1) (((za vs 0).1, j, n, 0) :: m) F (bif zin2 dr (za vs 0).1 j then m0 else ((za vs 0).1, j, n, 0) :: m0) dr)
      | none => (match zmsf ms (za vs 0).1 (zt al (za vs 1)) with
        | some v => zi L GR cs iv po en mods n0 e0 r cr ms cm E ((n, v) :: al) (n + 1) m F m0 dr
        | none => zi L GR cs iv po en mods n0 e0 r cr (zms1 ms E n (za vs 0).1 (zt al (za vs 1))) cm (zpE E n (zlo2 L E c (za vs 0).1 (zt al (za vs 1)))) (zpA al n (zlo2 L E c (za vs 0).1 (zt al (za vs 1)))) (n + 1) m F m0 dr))
    | 5 => (match zbe E (zt al (za vs 1)), ab_rg E (zt al (za vs 2)) with
      | some w, some z => wk L GR (za vs 0).1 w.1 w.2 z && (match zsu E (zt al (za vs 1)) with
        | some j => zi L GR cs iv po en mods n0 e0 r cr (ms.filter (fun e => !(Nat.beq e.1 (za vs 0).1))) cm E al n (((za vs 0).1, j, zt al (za vs 2)) :: m.filter (fun e => !(Nat.beq e.1 (za vs 0).1 && Nat.beq e.2.1 j))) (F.filter (fun e => !(Nat.beq e.1 (za vs 0).1 && Nat.beq e.2.1 j))) m0 (bif zin2 dr (za vs 0).1 j then dr else ((za vs 0).1, j + 1) :: dr)
        | none => zi L GR cs iv po en mods n0 e0 r cr (ms.filter (fun e => !(Nat.beq e.1 (za vs 0).1))) cm E al n (m.filter (fun e => !(Nat.beq e.1 (za vs 0).1))) (F.filter (fun e => !(Nat.beq e.1 (za vs 0).1))) m0 (((za vs 0).1, 0) :: dr))
      | _, _ => false)
    | 6 => ab_dt (ab_ng (zcf c)) E (zt al (za vs 0)) (zt al (za vs 1)) || (ab_no (ab_at (zcf c) E (zt al (za vs 0)) (zt al (za vs 1))) (zt al (za vs 0)).1 || (ab_no (ab_at (zcf c) E (zt al (za vs 0)) (zt al (za vs 1))) (zt al (za vs 1)).1 || zi L GR cs iv po en mods n0 e0 r cr ms cm (zcr2 cr c (zcm2 cm (zcf c) (ab_at (zcf c) E (zt al (za vs 0)) (zt al (za vs 1))) (zt al (za vs 0)) (zt al (za vs 1))) (zt al (za vs 0)) (zt al (za vs 1))) al n m F m0 dr))
    | 7 => (match c with
      | 0 => ab_le E (0, 0) (zt al (za vs 0)) && ab_le E (ab_up (zt al (za vs 0))) (zt al (za vs 1))
      | 1 => ab_dt .ne E (zt al (za vs 0)) (0, 0)
      | 2 => ab_le E (0, 0) (zt al (za vs 0)) && ab_le E (zt al (za vs 0)) (0, 1)
      | _ => false)
    | 8 => (match cs.find? (fun e => Nat.beq e.1 c) with
      | some e => zi L GR cs iv po en mods n0 e0 r ((n, zrl1 E al vs e.2.2.1.2.2) :: cr) (ms.filter (fun q => !(zinr e.2.2.2 q.1))) cm (zpE E n (.inr e.2.2.1.1)) (zpA al n (.inr e.2.2.1.1)) (n + 1) (m.filter (fun q => !(zin2 e.2.2.2 q.1 q.2.1))) (e.2.2.1.2.1 ++ F.filter (fun q => !(zin2 e.2.2.2 q.1 q.2.1))) m0 (e.2.2.2 ++ dr)
      | none => false)
    | 9 => zi L GR cs iv po en mods n0 e0 r cr ms cm (zpE E n zF32) (zpA al n zF32) (n + 1) m F m0 dr
    | 10 => (match iv.find? (fun e => Nat.beq e.1 c) with
      | some e => zsb E al e.2.1.1 vs && (zsf L E m F e.2.1.2 && (zsd mods dr && zml E al m m0 n0 e0 e.2.2 vs))
      | none => false)
    | 11 => (match po[c]?, ab_rg E (zt al (za vs 0)) with
      | some o, some z => ab_ile o.1.1 z.1 && (ab_ile z.2 o.1.2 && (zsf L E m F o.2.1 && (zsd mods dr && ((ab_ile 0 z.1 && ab_ile z.2 0) || o.2.2.all (fun w => en && zrk E al n0 w)))))
      | _, _ => false)
    | 12 => (match iv.find? (fun e => Nat.beq e.1 c) with
      | some e => zsb E al e.2.1.1 vs && (zsf L E m F e.2.1.2 && zsd mods dr)
      | none => false)
    | 13 => (match cs.find? (fun e => Nat.beq e.1 c) with
      | some e => zsb E al e.2.1.1 vs && zsf L E m F e.2.1.2
      | none => false)
    | _ => false
section ZO
variable {L : wL} {G : zE → Prop} {ηs : zE} {ρ : List Int} {η : zE} {E : ab_E} {al : zAl} {n : Nat} {m : zMm} {F : zFc} {m0 : zMm} {dr : List zCe}
theorem zin2_cons {l : List zCe} {r j : Nat} {d : zCe} (h : zin2 (d :: l) r j = false) : zin2 l r j = false ∧ ¬ (d.1 = r ∧ (d.2 = 0 ∨ d.2 = j + 1)) := by
  refine ⟨Bool.eq_false_iff.mpr (fun w => ?_), fun w => ?_⟩
  · obtain ⟨q, h1, h2, h3⟩ := zin2_mem w
    rw [zin2_of (List.mem_cons_of_mem _ h1) h2 h3] at h
    cases h
  · rw [zin2_of (List.mem_cons_self ..) w.1 w.2] at h
    cases h
theorem zml_ok {n0 : Nat} {e0 e : zMe} {ys0 : List Int} {vs : List (Nat × Int)} (h : zJ L G ηs ρ η E al n m F m0 dr) (hy : ∀ a, a < n0 → ρ.getD (a + 1) 0 = ys0.getD a 0) (hq : zml E al m m0 n0 e0 e vs = true) : (sMv e (vs.map (zn ρ)) η).toNat < (sMv e0 ys0 ηs).toNat := by
  unfold zml at hq
  split at hq
  · next a ha =>
    split at hq
    · next u b hu hb =>
      have g := (Bool.and_eq_true _ _).mp hq
      have g2 := g.2
      split at g2
      · next w hw =>
        have k1 := ab_ile_iff.mp g.1
        have k2 := ab_ile_iff.mp g2
        have u1 := zlu_ok h.1 hu
        have u2 := zlu_ok h.1 hw
        have e1 := zmn_ok (ρ := ρ) (ys := ys0) (η := ηs) (fun t v hv => by
          split at hv
          · next ht =>
            cases hbb : Nat.ble (t.2.1 + 1) n0 with
            | false => rw [hbb] at hv; cases hv
            | true =>
              rw [hbb] at hv
              cases hv
              have := zt_ok h (t.2.1 + 1, 0)
              rw [← this, ht]
              rw [← hy _ (Nat.ble_eq.mp hbb)]
              rfl
          · next hne =>
            have h1 := (h.2.2.2.2.2.2.1 _ (zmf_mem hv)).2
            dsimp only at h1
            rw [← h1]
            split
            · next ht => exact absurd ht hne
            · rfl) ha
        have e2 := zmn_ok (ρ := ρ) (ys := vs.map (zn ρ)) (η := η) (fun t v hv => by
          split at hv
          · next ht =>
            cases hbb : Nat.ble (t.2.1 + 1) vs.length with
            | false => rw [hbb] at hv; cases hv
            | true =>
              rw [hbb] at hv
              cases hv
              have hlt := Nat.ble_eq.mp hbb
              rw [← zt_ok h, ht]
              rw [List.getD_eq_getElem?_getD, List.getD_eq_getElem?_getD, List.getElem?_map, List.getElem?_eq_getElem hlt]
              rfl
          · next hne =>
            have h1 := (h.2.2.2.1 _ (zmf_mem hv)).2
            dsimp only at h1
            rw [← h1]
            split
            · next ht => exact absurd ht hne
            · rfl) hb
        unfold sMv
        have z0 : zlv ρ [] = 0 := rfl
        dsimp only at e1 e2
        rw [z0] at e1
        omega
      · cases g2
    · cases hq
  · cases hq
theorem zrm_ok {vs : List (Nat × Int)} (h : zJ L G ηs ρ η E al n m F m0 dr) (w : Nat × Int) : (0 :: vs.map (zn ρ)).getD w.1 0 + w.2 = ρ.getD (zrm al vs w).1 0 + (zrm al vs w).2 := by
  obtain ⟨k, c⟩ := w
  cases k with
  | zero =>
    show (0 : Int) + c = ρ.getD 0 0 + c
    rw [h.1.2.1]
  | succ k =>
    show (vs.map (zn ρ)).getD k 0 + c = ρ.getD (zt al (vs.getD k (0, 0))).1 0 + ((zt al (vs.getD k (0, 0))).2 + c)
    have e : (vs.map (zn ρ)).getD k 0 = zn ρ (vs.getD k (0, 0)) := by
      rw [List.getD_eq_getElem?_getD, List.getD_eq_getElem?_getD, List.getElem?_map]
      cases vs[k]? <;> rfl
    rw [e, zt_ok h (vs.getD k (0, 0))]
    omega
theorem zrl1_ok {vs : List (Nat × Int)} {l : zRl} {y : Int} {cr : zCr} (h : zJ L G ηs ρ η E al n m F m0 dr) (hk : zKr ρ cr) (hr : ¬ y = 0 → sR l (vs.map (zn ρ))) : zKr (ρ ++ [y]) ((n, zrl1 E al vs l) :: cr) := by
  intro e he
  rcases List.mem_cons.mp he with rfl | he
  · dsimp only
    have hn := h.2.1
    have lt : ∀ w ∈ zrl1 E al vs l, w.1.1 < ρ.length ∧ w.2.1 < ρ.length := fun w hw => by
      have g := (List.mem_filter.mp hw).2
      have g := (Bool.and_eq_true _ _).mp g
      obtain ⟨z1, hz1⟩ := Option.isSome_iff_exists.mp g.1
      obtain ⟨z2, hz2⟩ := Option.isSome_iff_exists.mp g.2
      exact ⟨(ab_rg_ok h.1 hz1).1, (ab_rg_ok h.1 hz2).1⟩
    refine ⟨by rw [List.length_append, hn]; exact Nat.lt_succ_self _, fun w hw => by have := lt w hw; rw [List.length_append]; omega, fun hne w hw => ?_⟩
    rw [hn, ab_getD_new] at hne
    rw [ab_getD_app (lt w hw).1, ab_getD_app (lt w hw).2]
    obtain ⟨w0, hw0, rfl⟩ := List.mem_map.mp (List.mem_filter.mp hw).1
    dsimp only
    rw [← zrm_ok h w0.1, ← zrm_ok h w0.2]
    exact hr hne w0 hw0
  · exact zKr_app hk e he
theorem zrk_ok {n0 : Nat} {ys0 : List Int} {w : (Nat × Int) × (Nat × Int)} (h : zJ L G ηs ρ η E al n m F m0 dr) (hy : ∀ a, a < n0 → ρ.getD (a + 1) 0 = ys0.getD a 0) (hq : zrk E al n0 w = true) : (0 :: ys0).getD w.1.1 0 + w.1.2 ≤ (0 :: ys0).getD w.2.1 0 + w.2.2 := by
  obtain ⟨g1, g2, g3⟩ := ab_and3 hq
  have g1 := Nat.ble_eq.mp g1
  have g2 := Nat.ble_eq.mp g2
  have g3 := ab_le_ok h.1 g3
  have e : ∀ k, k ≤ n0 → (0 :: ys0).getD k 0 = ρ.getD (zt al (k, 0)).1 0 + (zt al (k, 0)).2 := fun k hk => by
    rw [← zt_ok h (k, 0)]
    cases k with
    | zero => rfl
    | succ k =>
      show ys0.getD k 0 = ρ.getD (k + 1) 0
      rw [hy k (by omega)]
  rw [e _ g1, e _ g2]
  dsimp only at g3
  omega
end ZO
