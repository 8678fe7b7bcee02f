/-! The engine: it runs a method from its entry or from a cut up to cuts and answers, and looks whether each thing to be shown stands in a given list. -/
def zob : List (Nat × Int) → List (Nat × Int) → Bool
  | [], [] => true
  | a :: r, b :: s => Nat.beq a.1 b.1 && (ab_ieq a.2 b.2 && zob r s)
  | _, _ => false
def zkb (a b : zK) : Bool := Nat.beq a.1 b.1 && (Nat.beq a.2.1 b.2.1 && zob a.2.2 b.2.2)
def zlb : List zK → List zK → Bool
  | [], [] => true
  | a :: r, b :: s => zkb a b && zlb r s
  | _, _ => false
theorem zob_ok : ∀ {a b : List (Nat × Int)}, zob a b = true → a = b
  | [], [], _ => rfl
  | [], _ :: _, h => by cases h
  | _ :: _, [], h => by cases h
  | (a1, a2) :: r, (b1, b2) :: s, h => by
    unfold zob at h
    obtain ⟨h1, h2, h3⟩ := ab_and3 h
    have e1 : a1 = b1 := Nat.eq_of_beq_eq_true h1
    have e2 : a2 = b2 := ab_ieq_ok h2
    rw [e1, e2, zob_ok h3]
theorem zkb_ok {a b : zK} (h : zkb a b = true) : a = b := by
  obtain ⟨a1, a2, a3⟩ := a
  obtain ⟨b1, b2, b3⟩ := b
  unfold zkb at h
  obtain ⟨h1, h2, h3⟩ := ab_and3 h
  have e1 : a1 = b1 := Nat.eq_of_beq_eq_true h1
  have e2 : a2 = b2 := Nat.eq_of_beq_eq_true h2
  have e3 : a3 = b3 := zob_ok h3
  rw [e1, e2, e3]
theorem zlb_ok : ∀ {a b : List zK}, zlb a b = true → a = b
  | [], [], _ => rfl
  | [], _ :: _, h => by cases h
  | _ :: _, [], h => by cases h
  | a :: r, b :: s, h => by
    unfold zlb at h
    have h1 := (Bool.and_eq_true _ _).mp h
    rw [zkb_ok h1.1, zlb_ok h1.2]
/-- is it to be shown (the list is of paths, the last token first) -/
def zme (D : List (List zK)) (o : List zK) : Bool := D.any (fun x => zlb x o)
theorem zme_ok {D : List (List zK)} {o : List zK} (h : zme D o = true) : o ∈ D := by
  obtain ⟨x, h1, h2⟩ := List.any_eq_true.mp h
  rw [← zlb_ok h2]
  exact h1
/-- forced as it grows: the kernel is lazy -/
noncomputable def zkf (o : List zK) : (List zK → Bool) → Bool := List.rec (motive := fun _ => (List zK → Bool) → Bool) (fun k => k []) (fun a _ ih k => ih (fun r => k (a :: r))) o
theorem zkf_eq (o : List zK) (k : List zK → Bool) : zkf o k = k o := by
  induction o generalizing k with
  | nil => rfl
  | cons a r ih =>
    show zkf r (fun r => k (a :: r)) = _
    rw [ih]
/-- a cut: pc, number, locals, references laid till then -/
abbrev zCu : Type := Nat × Nat × ab_L × zRt
def zrb : zRt → zRt → Bool
  | [], [] => true
  | a :: r, b :: s => Nat.beq a.1 b.1 && (Nat.beq a.2.1 b.2.1 && (Nat.beq a.2.2 b.2.2 && zrb r s))
  | _, _ => false
theorem zrb_ok : ∀ {a b : zRt}, zrb a b = true → a = b
  | [], [], _ => rfl
  | [], _ :: _, h => by cases h
  | _ :: _, [], h => by cases h
  | (a1, a2, a3) :: r, (b1, b2, b3) :: s, h => by
    unfold zrb at h
    obtain ⟨h1, h2, h3, h4⟩ := ab_and4 h
    have e1 : a1 = b1 := Nat.eq_of_beq_eq_true h1
    have e2 : a2 = b2 := Nat.eq_of_beq_eq_true h2
    have e3 : a3 = b3 := Nat.eq_of_beq_eq_true h3
    rw [e1, e2, e3, zrb_ok h4]
def zrq (rt : zRt) (req : zRt) : Bool := req.all (fun q => match zrt rt q.1 q.2.1 with
  | some t => Nat.beq t q.2.2
  | none => false)
theorem zrq_ok {rt req : zRt} (h : zrq rt req = true) : ∀ q ∈ req, zrt rt q.1 q.2.1 = some q.2.2 := fun q hq => by
  have h1 := List.all_eq_true.mp h q hq
  split at h1
  · next t ht => rw [ht, Nat.eq_of_beq_eq_true h1]
  · cases h1
abbrev zKK : Type := Nat → ab_L → List ab_V → Nat → zRt → List zK → Bool
def zasb (D : List (List zK)) (ra : List zK) (as : List zK) : Bool := as.all (fun a => Nat.beq a.1 7 && zme D (a :: ra))
def zkd (ks : List zK) : Bool := match ks with
  | [] => true
  | [(k, _, [_, _])] => Nat.ble k 3
  | _ => false
noncomputable def ze_lo (ml : Nat) (k : zKK) (D : List (List zK)) (pc : Nat) (la : ab_L) (sa : List ab_V) (n : Nat) (nw : zRt) (ra : List zK) (i : Instr) : Bool := match zlo ml i pc la sa n with
  | some (ks, n', pc', la', sa') => zkd ks && kf n' (fun n' => kf pc' (fun pc' => zkf (ks.reverse ++ ra) (fun ra' => k pc' la' sa' n' nw ra')))
  | none => (match zdv i pc la sa n with
    | some (as, ks, n', pc', la', sa') => zasb D ra as && (zkd ks && kf n' (fun n' => kf pc' (fun pc' => zkf (ks.reverse ++ ra) (fun ra' => k pc' la' sa' n' nw ra'))))
    | none => false)
def ze_al (f : Nat → List ab_V → List zK → Bool) (D : List (List zK)) (ra : List zK) : List (List zK × Nat × List ab_V) → Bool
  | [] => true
  | e :: r => (zme D ((7, 3, []) :: (e.1.reverse ++ ra)) || f e.2.1 e.2.2 (e.1.reverse ++ ra)) && ze_al f D ra r
noncomputable def ze_br (k : zKK) (D : List (List zK)) (pc : Nat) (la : ab_L) (sa : List ab_V) (n : Nat) (nw : zRt) (ra : List zK) (i : Instr) : Bool := match zbr i pc sa with
  | some L => ze_al (fun pc' sa' ra' => kf pc' (fun pc' => zkf ra' (fun ra' => k pc' la sa' n nw ra'))) D ra L
  | none => false
noncomputable def ze_hp (T : zTm) (rq : zRt) (k : zKK) (D : List (List zK)) (pc : Nat) (la : ab_L) (sa : List ab_V) (n : Nat) (nw : zRt) (ra : List zK) (i : Instr) (dt : List Nat) : Bool := match zhp T (nw ++ rq) i dt pc sa n with
  | some (as, ks, n', pc', sa', rt') => zasb D ra as && (zrb rt' (rt'.take (rt'.length - rq.length) ++ rq) && kf n' (fun n' => kf pc' (fun pc' => zkf (ks.reverse ++ ra) (fun ra' => k pc' la sa' n' (rt'.take (rt'.length - rq.length)) ra'))))
  | none => (match i with
    | .aaload => (match zaa T (nw ++ rq) pc sa with
      | some (as, L) => zasb D ra as && ze_al (fun pc' sa' ra' => kf pc' (fun pc' => zkf ra' (fun ra' => k pc' la sa' n nw ra'))) D ra L
      | none => false)
    | _ => false)
def zpu (rk n : Nat) : List ab_V := match rk with
  | 0 => []
  | 3 => [.inr (.inl (n, 0))]
  | _ => [.inl (n, 0)]
noncomputable def ze_ca (mt : Lean.RArray (Nat × ab_M)) (T : zTm) (rq : zRt) (dep : Nat) (cs : List zCd) (k : zKK) (D : List (List zK)) (pc : Nat) (la : ab_L) (sa : List ab_V) (n : Nat) (nw : zRt) (ra : List zK) (i : Instr) (dt : List Nat) : Bool := match dt with
  | [mid'] => (match ab_get mt mid' with
    | some m => (match zcl i m T sa with
      | some (as, r) => cs.any (fun e => Nat.beq e.1 mid' && (Nat.ble (e.2.2.1 + 1) dep && (zrq (nw ++ rq) e.2.2.2.2.2.1 && (Nat.beq e.2.2.2.2.1 m.2.2.2.2.1 && (Nat.ble mid' 899 && (ab_c8 r && (Nat.ble ((as.map fun a => bif ab_is2 a then 2 else 1).sum) m.2.2.2.1 && (Nat.ble m.2.2.2.1 45 && (match zmt e.2.2.2.1 as 0 with
        | some l => zme D ((13, e.2.1, l) :: ra) && kf (n + 1) (fun n' => kf (pc + 3) (fun pc' => k pc' la (zpu e.2.2.2.2.1 n ++ r) n' (e.2.2.2.2.2.2 ++ nw) ((8, e.2.1, l) :: ra)))
        | none => false)))))))))
      | none => false)
    | none => false)
  | _ => false
/-- a call that is one step of the small machine -/
noncomputable def ze_sp (rq : zRt) (dep : Nat) (cs : List zCd) (k : zKK) (D : List (List zK)) (pc : Nat) (la : ab_L) (sa : List ab_V) (n : Nat) (nw : zRt) (ra : List zK) (i : Instr) (dt : List Nat) : Bool := match dt, i with
  | [k0], .invokestatic _ => cs.any (fun e => Nat.beq e.1 k0 && (!(Nat.ble k0 899) && (Nat.ble e.2.2.1 dep && (zrq (nw ++ rq) e.2.2.2.2.2.1 && (Nat.ble e.2.2.2.1.length sa.length && (ab_c8 (sa.drop e.2.2.2.1.length) && (match zmt e.2.2.2.1 (sa.take e.2.2.2.1.length).reverse 0 with
    | some l => zme D ((13, e.2.1, l) :: ra) && kf (n + 1) (fun n' => kf (pc + 3) (fun pc' => k pc' la (zpu e.2.2.2.2.1 n ++ sa.drop e.2.2.2.1.length) n' (e.2.2.2.2.2.2 ++ nw) ((8, e.2.1, l) :: ra)))
    | none => false)))))))
  | _, _ => false
/-- references that are known serve for those that are asked; what is left out must be free -/
def zcov (fr : List (Nat × Nat)) (nw rt : zRt) : Bool := rt.all (fun q => match zrt nw q.1 q.2.1 with
  | some t => Nat.beq t q.2.2
  | none => false) && nw.all (fun q => (zrt rt q.1 q.2.1).isSome || fr.any (fun k => Nat.beq k.1 q.1 && Nat.beq k.2 q.2.1))
theorem zrt_none_app {a b : zRt} {r j : Nat} (h : zrt a r j = none) : zrt (a ++ b) r j = zrt b r j := by
  unfold zrt at h ⊢
  rw [List.find?_append]
  cases hf : a.find? (fun q => Nat.beq q.1 r && Nat.beq q.2.1 j) with
  | some q => rw [hf] at h; cases h
  | none => rfl
theorem zrt_some_app {a b : zRt} {r j t : Nat} (h : zrt a r j = some t) : zrt (a ++ b) r j = some t := by
  unfold zrt at h ⊢
  rw [List.find?_append]
  cases hf : a.find? (fun q => Nat.beq q.1 r && Nat.beq q.2.1 j) with
  | some q => rw [hf] at h; exact h
  | none => rw [hf] at h; cases h
theorem zrt_mem {a : zRt} {r j t : Nat} (h : zrt a r j = some t) : (r, j, t) ∈ a := by
  unfold zrt at h
  split at h
  · next q hf =>
    cases h
    have h1 := List.find?_some hf
    have h2 := (Bool.and_eq_true _ _).mp h1
    rw [← Nat.eq_of_beq_eq_true h2.1, ← Nat.eq_of_beq_eq_true h2.2]
    exact List.mem_of_find?_eq_some hf
  · cases h
theorem zcov_ok {fr : List (Nat × Nat)} {nw rt raA : zRt} (h : zcov fr nw rt = true) (hfr : ∀ q ∈ fr, zrt raA q.1 q.2 = none) : ∀ r j t, zrt (rt ++ raA) r j = some t → zrt (nw ++ raA) r j = some t := by
  intro r j t ht
  obtain ⟨g1, g2⟩ := (Bool.and_eq_true _ _).mp h
  cases hz : zrt rt r j with
  | some t1 =>
    rw [zrt_some_app hz] at ht
    cases ht
    have := List.all_eq_true.mp g1 _ (zrt_mem hz)
    dsimp only at this
    split at this
    · next t2 ht2 =>
      rw [zrt_some_app ht2, Nat.eq_of_beq_eq_true this]
    · cases this
  | none =>
    rw [zrt_none_app hz] at ht
    cases hw : zrt nw r j with
    | none => rw [zrt_none_app hw]; exact ht
    | some t1 =>
      have := List.all_eq_true.mp g2 _ (zrt_mem hw)
      dsimp only at this
      rw [hz] at this
      have h3 : fr.any (fun k => Nat.beq k.1 r && Nat.beq k.2 j) = true := this
      obtain ⟨k, hk, hb⟩ := List.any_eq_true.mp h3
      have hb := (Bool.and_eq_true _ _).mp hb
      have := hfr k hk
      rw [Nat.eq_of_beq_eq_true hb.1, Nat.eq_of_beq_eq_true hb.2, ht] at this
      cases this
theorem zHp_cov {T : zTm} {α : Nat → Nat} {a b : zRt} {η : zE} {h : List sm_C} (hh : zHp T α a η h) (hs : ∀ r j t, zrt b r j = some t → zrt a r j = some t) : zHp T α b η h := fun r c hr => by
  obtain ⟨q, g1, g2, g3, g4⟩ := hh r c hr
  exact ⟨q, g1, g2, g3, fun j hj => ⟨(g4 j hj).1, fun t ht => (g4 j hj).2 t (hs r j t ht)⟩⟩
/-- one of the ways in which references may stand at the end -/
def zra (fr : List (Nat × Nat)) (D : List (List zK)) (nw : zRt) (ra : List zK) (q : Nat × Int) : List zRt → Nat → Bool
  | [], _ => false
  | rt :: l, j => (zcov fr nw rt && zme D ((11, j, [q]) :: ra)) || zra fr D nw ra q l (j + 1)
theorem zra_ok {fr : List (Nat × Nat)} {D : List (List zK)} {nw : zRt} {ra : List zK} {q : Nat × Int} : ∀ {l : List zRt} {j : Nat}, zra fr D nw ra q l j = true → ∃ i rt, l[i]? = some rt ∧ zcov fr nw rt = true ∧ zme D ((11, j + i, [q]) :: ra) = true
  | [], _, h => by cases h
  | rt :: l, j, h => by
    unfold zra at h
    rcases (Bool.or_eq_true _ _).mp h with g | g
    · have g := (Bool.and_eq_true _ _).mp g
      exact ⟨0, rt, rfl, g.1, g.2⟩
    · obtain ⟨i, rt2, h1, h2, h3⟩ := zra_ok g
      exact ⟨i + 1, rt2, h1, h2, by rw [show j + (i + 1) = j + 1 + i by omega]; exact h3⟩
noncomputable def ze_re (fr : List (Nat × Nat)) (rk : Nat) (rtu : List zRt) (D : List (List zK)) (sa : List ab_V) (nw : zRt) (ra : List zK) (i : Instr) : Bool := match zre rk i sa with
  | some (as, q) => zasb D ra as && zra fr D nw ra q rtu 0
  | none => false
/-- one instruction -/
noncomputable def zst (fr : List (Nat × Nat)) (mt : Lean.RArray (Nat × ab_M)) (T : zTm) (rq : zRt) (rtu : List zRt) (dep : Nat) (cs : List zCd) (mi : ab_M) (D : List (List zK)) (k : zKK) (pc : Nat) (la : ab_L) (sa : List ab_V) (n : Nat) (nw : zRt) (ra : List zK) : Bool := match ab_get mi.2.2.2.2.2 pc with
  | none => false
  | some q => (match q.2.1 with
    | 0 => ze_lo mi.2.2.2.1 k D pc la sa n nw ra q.2.2.1
    | 1 => ze_lo mi.2.2.2.1 k D pc la sa n nw ra q.2.2.1
    | 2 => ze_br k D pc la sa n nw ra q.2.2.1
    | 3 => ze_hp T rq k D pc la sa n nw ra q.2.2.1 q.2.2.2.2
    | 5 => ze_sp rq dep cs k D pc la sa n nw ra q.2.2.1 q.2.2.2.2
    | 6 => ze_ca mt T rq dep cs k D pc la sa n nw ra q.2.2.1 q.2.2.2.2
    | 7 => ze_re fr mi.2.2.2.2.1 rtu D sa nw ra q.2.2.1
    | _ => false)
/-- at a cut? -/
def zcu (cu : List zCu) (pc : Nat) : Option zCu := cu.find? (fun e => Nat.beq e.1 pc)
def zhi (fr : List (Nat × Nat)) (strict : Bool) (D : List (List zK)) (e : zCu) (la : ab_L) (sa : List ab_V) (nw : zRt) (ra : List zK) : Bool := match sa with
  | [] => zcov fr nw e.2.2.2 && (match zht e.2.2.1 la 0 with
    | some l => zme D ((bif strict then 10 else 12, e.2.1, l) :: ra)
    | none => false)
  | _ => false
noncomputable def zq (fr : List (Nat × Nat)) (mt : Lean.RArray (Nat × ab_M)) (T : zTm) (rq : zRt) (rtu : List zRt) (dep : Nat) (cs : List zCd) (cu : List zCu) (mi : ab_M) (strict : Bool) (D : List (List zK)) (f : Nat) : zKK := Nat.rec (motive := fun _ => zKK) (fun _ _ _ _ _ _ => false) (fun _ ih => fun pc la sa n nw ra => match zcu cu pc with
  | some e => zhi fr strict D e la sa nw ra
  | none => zst fr mt T rq rtu dep cs mi D ih pc la sa n nw ra) f
