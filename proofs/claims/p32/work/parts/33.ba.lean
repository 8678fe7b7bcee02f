/-! Is a state one of those that another one covers: its names n0, n0 + 1 .. stand for vals. -/
def ab_ieq (a b : Int) : Bool := match a, b with
  | .ofNat m, .ofNat n => Nat.beq m n
  | .negSucc m, .negSucc n => Nat.beq m n
  | _, _ => false
theorem ab_ieq_ok {a b : Int} (h : ab_ieq a b = true) : a = b := by
  unfold ab_ieq at h
  split at h
  · rw [Nat.eq_of_beq_eq_true h]
  · rw [Nat.eq_of_beq_eq_true h]
  · cases h
abbrev ab_N : Type := List (Nat × Int)
def sb_q (vals : ab_N) (n0 : Nat) (a0 a : Nat × Int) : Bool := bif Nat.ble n0 a0.1 then (match vals[a0.1 - n0]? with
  | some w => Nat.beq a.1 w.1 && ab_ieq a.2 (w.2 + a0.2)
  | none => false) else Nat.beq a.1 a0.1 && ab_ieq a.2 a0.2
def sb_v (vals : ab_N) (n0 : Nat) (a0 a : ab_V) : Bool := match a0, a with
  | .inl p, .inl q => sb_q vals n0 p q
  | .inr (.inl p), .inr (.inl q) => sb_q vals n0 p q
  | .inr (.inr (.inl p)), .inr (.inr (.inl q)) => Nat.beq p q
  | .inr (.inr (.inr (.inl p))), .inr (.inr (.inr (.inl q))) => Nat.beq p q
  | .inr (.inr (.inr (.inr _))), .inr (.inr (.inr (.inr _))) => true
  | _, _ => false
def sb_s (vals : ab_N) (n0 : Nat) : List ab_V → List ab_V → Bool
  | [], [] => true
  | a0 :: r0, a :: r => sb_v vals n0 a0 a && sb_s vals n0 r0 r
  | _, _ => false
def sb_l (vals : ab_N) (n0 : Nat) : ab_L → ab_L → Bool
  | [], [] => true
  | a0 :: r0, a :: r => Nat.beq a0.1 a.1 && (sb_v vals n0 a0.2 a.2 && sb_l vals n0 r0 r)
  | _, _ => false
def sb_f (vals : ab_N) (n0 : Nat) : List ab_F → List ab_F → Bool
  | [], [] => true
  | a0 :: r0, a :: r => (Nat.beq a0.1 a.1 && (Nat.beq a0.2.1 a.2.1 && (sb_l vals n0 a0.2.2.1 a.2.2.1 && (sb_s vals n0 a0.2.2.2.1 a.2.2.2.1 && (Nat.beq a0.2.2.2.2.1 a.2.2.2.2.1 && Nat.beq a0.2.2.2.2.2 a.2.2.2.2.2))))) && sb_f vals n0 r0 r
  | _, _ => false
noncomputable def sb_t {α : Type} (f : α → α → Bool) (t0 : Lean.RArray (Nat × α)) : Lean.RArray (Nat × α) → Bool := Lean.RArray.rec (motive := fun _ => Lean.RArray (Nat × α) → Bool)
  (fun x t => Lean.RArray.rec (motive := fun _ => Bool) (fun y => Nat.beq x.1 y.1 && f x.2 y.2) (fun _ _ _ _ _ => false) t)
  (fun p _ _ il ir t => Lean.RArray.rec (motive := fun _ => Bool) (fun _ => false) (fun q l2 r2 _ _ => Nat.beq p q && (il l2 && ir r2)) t) t0
theorem sb_t_ok {α : Type} {f : α → α → Bool} {t0 t : Lean.RArray (Nat × α)} (h : sb_t f t0 t = true) {k : Nat} {a : α} (hk : ab_get t k = some a) : ∃ a0, ab_get t0 k = some a0 ∧ f a0 a = true := by
  induction t0 generalizing t with
  | leaf x =>
    cases t with
    | leaf y =>
      have h1 : (Nat.beq x.1 y.1 && f x.2 y.2) = true := h
      have h1 := (Bool.and_eq_true _ _).mp h1
      rw [ab_get_leaf] at hk ⊢
      rw [Nat.eq_of_beq_eq_true h1.1]
      split at hk
      · next he =>
        cases hk
        exact ⟨x.2, if_pos he, h1.2⟩
      · cases hk
    | branch p l r => cases h
  | branch p l r ihl ihr =>
    cases t with
    | leaf y => cases h
    | branch q l2 r2 =>
      have h1 : (Nat.beq p q && (sb_t f l l2 && sb_t f r r2)) = true := h
      obtain ⟨b1, b2, b3⟩ := ab_and3 h1
      rw [ab_get_branch] at hk ⊢
      rw [Nat.eq_of_beq_eq_true b1]
      split at hk
      · next he =>
        rw [if_pos he]
        exact ihr b3 hk
      · next he =>
        rw [if_neg he]
        exact ihl b2 hk
noncomputable def sb_c (vals : ab_N) (n0 : Nat) (c0 c : ab_C) : Bool := Nat.beq c0.1 c.1 && (Nat.beq c0.2.1 c.2.1 && (match c0.2.2, c.2.2 with
  | .inl t0, .inl t => sb_t (sb_v vals n0) t0 t
  | .inr z0, .inr z => ab_ile z0.1 z.1 && ab_ile z.2 z0.2
  | _, _ => false))
/-- a name, in a covering state, as it is here -/
def sb_n (vals : ab_N) (n0 v : Nat) : Option (Nat × Int) := bif Nat.ble n0 v then vals[v - n0]? else some (v, 0)
def sb_E (vals : ab_N) (n0 : Nat) (E0 E : ab_E) : Bool := E0.1.all (fun q => match sb_n vals n0 q.1 with
    | some a => (match ab_rg E a with
      | some z => ab_ile q.2.1 z.1 && ab_ile z.2 q.2.2
      | none => false)
    | none => false) && (E0.2.1.all (fun q => match sb_n vals n0 q.1, sb_n vals n0 q.2.1 with
    | some a, some b => ab_le E a (b.1, b.2 + q.2.2)
    | _, _ => false) && (E0.2.2.isEmpty && vals.all (fun w => (ab_rg E w).isSome)))
def sb_id (n0 : Nat) (a : ab_V) : Bool := match a with
  | .inl q => Nat.ble (q.1 + 1) n0
  | .inr (.inl q) => Nat.ble (q.1 + 1) n0
  | _ => true
def sb_ro (n0 : Nat) (R : ab_Ro) : Bool := Nat.ble (R.2.1 + 1) n0 && R.1.all (sb_id n0)
section SBO
variable {ρ : List Int} {vals : ab_N} {n0 : Nat}
/-- the numbers of the covering state -/
def sb_r (ρ : List Int) (n0 : Nat) (vals : ab_N) : List Int := ρ.take n0 ++ vals.map (fun w => ρ.getD w.1 0 + w.2)
theorem sb_r_len (h : n0 ≤ ρ.length) : (sb_r ρ n0 vals).length = n0 + vals.length := by
  unfold sb_r
  rw [List.length_append, List.length_take, List.length_map]
  omega
theorem sb_r_old (h : n0 ≤ ρ.length) {v : Nat} (hv : v < n0) : (sb_r ρ n0 vals).getD v 0 = ρ.getD v 0 := by
  unfold sb_r
  rw [ab_getD_app (by rw [List.length_take]; omega), List.getD_eq_getElem?_getD, List.getD_eq_getElem?_getD, List.getElem?_take_of_lt hv]
theorem sb_r_new (h : n0 ≤ ρ.length) {v : Nat} (hv : n0 ≤ v) {w : Nat × Int} (hw : vals[v - n0]? = some w) : (sb_r ρ n0 vals).getD v 0 = ρ.getD w.1 0 + w.2 := by
  unfold sb_r
  rw [List.getD_eq_getElem?_getD, List.getElem?_append_right (by rw [List.length_take]; omega), List.length_take, Nat.min_eq_left h, List.getElem?_map, hw]
  rfl
theorem sb_n_ok (h : n0 ≤ ρ.length) {v : Nat} {a : Nat × Int} (hn : sb_n vals n0 v = some a) : v < n0 + vals.length ∧ (sb_r ρ n0 vals).getD v 0 = ρ.getD a.1 0 + a.2 := by
  unfold sb_n at hn
  cases hb : Nat.ble n0 v with
  | true =>
    rw [hb] at hn
    have hn : vals[v - n0]? = some a := hn
    have := (List.getElem?_eq_some_iff.mp hn).1
    exact ⟨by omega, sb_r_new h (Nat.ble_eq.mp hb) hn⟩
  | false =>
    rw [hb] at hn
    cases hn
    have : ¬ n0 ≤ v := fun q => by rw [Nat.ble_eq.mpr q] at hb; cases hb
    exact ⟨by omega, by rw [sb_r_old h (by omega)]; show ρ.getD v 0 = ρ.getD v 0 + 0; omega⟩
theorem sb_q_ok (h : n0 ≤ ρ.length) {a0 a : Nat × Int} (hq : sb_q vals n0 a0 a = true) : a0.1 < n0 + vals.length ∧ (sb_r ρ n0 vals).getD a0.1 0 + a0.2 = ρ.getD a.1 0 + a.2 := by
  unfold sb_q at hq
  cases hb : Nat.ble n0 a0.1 with
  | true =>
    rw [hb] at hq
    dsimp only [cond_true] at hq
    split at hq
    · next w hw =>
      have h1 := (Bool.and_eq_true _ _).mp hq
      have h2 := (List.getElem?_eq_some_iff.mp hw).1
      rw [sb_r_new h (Nat.ble_eq.mp hb) hw, Nat.eq_of_beq_eq_true h1.1, ab_ieq_ok h1.2]
      exact ⟨by omega, by omega⟩
    · cases hq
  | false =>
    rw [hb] at hq
    have hq : (Nat.beq a.1 a0.1 && ab_ieq a.2 a0.2) = true := hq
    have h1 := (Bool.and_eq_true _ _).mp hq
    have : ¬ n0 ≤ a0.1 := fun q => by rw [Nat.ble_eq.mpr q] at hb; cases hb
    rw [sb_r_old h (by omega), Nat.eq_of_beq_eq_true h1.1, ab_ieq_ok h1.2]
    exact ⟨by omega, rfl⟩
theorem sb_v_ok (h : n0 ≤ ρ.length) {a0 a : ab_V} {v : Value} (hq : sb_v vals n0 a0 a = true) (hv : ab_R ρ a v) : ab_R (sb_r ρ n0 vals) a0 v := by
  unfold sb_v at hq
  split at hq
  · obtain ⟨_, rfl⟩ := hv
    obtain ⟨h1, h2⟩ := sb_q_ok h hq
    exact ⟨by rw [sb_r_len h]; exact h1, by rw [h2]⟩
  · obtain ⟨_, rfl⟩ := hv
    obtain ⟨h1, h2⟩ := sb_q_ok h hq
    exact ⟨by rw [sb_r_len h]; exact h1, by rw [h2]⟩
  · have := Nat.eq_of_beq_eq_true hq
    subst this
    exact hv
  · have := Nat.eq_of_beq_eq_true hq
    subst this
    exact hv
  · exact hv
  · cases hq
theorem sb_s_ok (h : n0 ≤ ρ.length) : ∀ {s0 sa : List ab_V} {st : List Value}, sb_s vals n0 s0 sa = true → ab_sR ρ sa st → ab_sR (sb_r ρ n0 vals) s0 st
  | [], [], [], _, _ => trivial
  | [], [], _ :: _, _, q => q.elim
  | [], _ :: _, _, q, _ => by cases q
  | _ :: _, [], _, q, _ => by cases q
  | _ :: _, _ :: _, [], _, q => q.elim
  | a0 :: s0, a :: sa, v :: st, q, r => by
    have h1 := (Bool.and_eq_true _ _).mp (by rwa [sb_s] at q)
    exact ⟨sb_v_ok h h1.1 r.1, sb_s_ok h h1.2 r.2⟩
theorem sb_l_ok (h : n0 ≤ ρ.length) : ∀ {s0 sa : ab_L} {st : sm_L}, sb_l vals n0 s0 sa = true → ab_lR ρ sa st → ab_lR (sb_r ρ n0 vals) s0 st
  | [], [], [], _, _ => trivial
  | [], [], _ :: _, _, q => q.elim
  | [], _ :: _, _, q, _ => by cases q
  | _ :: _, [], _, q, _ => by cases q
  | _ :: _, _ :: _, [], _, q => q.elim
  | a0 :: s0, a :: sa, v :: st, q, r => by
    obtain ⟨h1, h2, h3⟩ := ab_and3 (by rwa [sb_l] at q)
    exact ⟨⟨(Nat.eq_of_beq_eq_true h1).trans r.1.1, sb_v_ok h h2 r.1.2⟩, sb_l_ok h h3 r.2⟩
theorem sb_f_ok (h : n0 ≤ ρ.length) : ∀ {s0 sa : List ab_F} {st : ev_C}, sb_f vals n0 s0 sa = true → ab_fR ρ sa st → ab_fR (sb_r ρ n0 vals) s0 st
  | [], [], [], _, _ => trivial
  | [], [], _ :: _, _, q => q.elim
  | [], _ :: _, _, q, _ => by cases q
  | _ :: _, [], _, q, _ => by cases q
  | _ :: _, _ :: _, [], _, q => q.elim
  | a0 :: s0, a :: sa, v :: st, q, r => by
    have h0 := (Bool.and_eq_true _ _).mp (by rwa [sb_f] at q)
    obtain ⟨h1, h2, h3, h456⟩ := ab_and4 h0.1
    obtain ⟨h4, h5, h6⟩ := ab_and3 h456
    obtain ⟨⟨r1, r2, r3, r4, r5, r6⟩, r7⟩ := r
    exact ⟨⟨(Nat.eq_of_beq_eq_true h1).trans r1, (Nat.eq_of_beq_eq_true h2).trans r2, sb_l_ok h h3 r3, sb_s_ok h h4 r4, (Nat.eq_of_beq_eq_true h5).trans r5, (Nat.eq_of_beq_eq_true h6).trans r6⟩, sb_f_ok h h0.2 r7⟩
theorem sb_c_ok (h : n0 ≤ ρ.length) {c0 c : ab_C} {q : sm_C} (hc : sb_c vals n0 c0 c = true) (hq : ab_cR ρ c q) : ab_cR (sb_r ρ n0 vals) c0 q := by
  unfold sb_c at hc
  obtain ⟨h1, h2, h3⟩ := ab_and3 hc
  obtain ⟨k0, l0, x0⟩ := c0
  obtain ⟨k, l, x⟩ := c
  obtain ⟨q1, q2, q3⟩ := hq
  dsimp only at h1 h2 h3 q1 q2 q3
  have e1 := Nat.eq_of_beq_eq_true h1
  have e2 := Nat.eq_of_beq_eq_true h2
  subst e1; subst e2
  refine ⟨q1, q2, ?_⟩
  dsimp only
  split at h3
  · intro j hj
    obtain ⟨b, g1, g2⟩ := q3 j hj
    obtain ⟨b0, g3, g4⟩ := sb_t_ok h3 g1
    exact ⟨b0, g3, sb_v_ok h g4 g2⟩
  · intro j hj
    have h4 := (Bool.and_eq_true _ _).mp h3
    have a := ab_ile_iff.mp h4.1
    have b := ab_ile_iff.mp h4.2
    obtain ⟨y, g1, g2, g3⟩ := q3 j hj
    exact ⟨y, g1, by omega, by omega⟩
  · cases h3
theorem sb_h_ok (h : n0 ≤ ρ.length) {t0 t : ab_H} {hn : Nat} {hp : List sm_C} (hc : sb_t (sb_c vals n0) t0 t = true) (hq : ab_hR ρ t hn hp) : ab_hR (sb_r ρ n0 vals) t0 hn hp := ⟨hq.1, fun k q hk => by
  obtain ⟨a, g1, g2⟩ := hq.2 k q hk
  obtain ⟨a0, g3, g4⟩ := sb_t_ok hc g1
  exact ⟨a0, g3, sb_c_ok h g4 g2⟩⟩
theorem sb_E_ok (h : n0 ≤ ρ.length) (h0 : 0 < n0) {E0 E : ab_E} (ho : ab_ok ρ E) (hc : sb_E vals n0 E0 E = true) : ab_ok (sb_r ρ n0 vals) E0 := by
  unfold sb_E at hc
  obtain ⟨h1, h2, h34⟩ := ab_and3 hc
  have h3 := ((Bool.and_eq_true _ _).mp h34).1
  refine ⟨by rw [sb_r_len h]; omega, by rw [sb_r_old h h0]; exact ho.2.1, fun q hq => ?_, fun q hq => ?_, fun q hq => ?_⟩
  · have g := List.all_eq_true.mp h1 q hq
    split at g
    · next a ha =>
      split at g
      · next z hz =>
        have g1 := (Bool.and_eq_true _ _).mp g
        have a1 := ab_ile_iff.mp g1.1
        have a2 := ab_ile_iff.mp g1.2
        obtain ⟨_, z1, z2⟩ := ab_rg_ok ho hz
        obtain ⟨b1, b2⟩ := sb_n_ok h ha
        rw [sb_r_len h, b2]
        exact ⟨b1, by omega, by omega⟩
      · cases g
    · cases g
  · have g := List.all_eq_true.mp h2 q hq
    split at g
    · next a b ha hb =>
      have g1 := ab_le_ok ho g
      dsimp only at g1
      obtain ⟨b1, b2⟩ := sb_n_ok h ha
      obtain ⟨b3, b4⟩ := sb_n_ok h hb
      rw [sb_r_len h, b2, b4]
      exact ⟨b1, b3, by omega⟩
    · cases g
  · cases he : E0.2.2 with
    | nil => rw [he] at hq; cases hq
    | cons _ _ => rw [he] at h3; cases h3
theorem sb_id_ok (h : n0 ≤ ρ.length) {a : ab_V} {v : Value} (hi : sb_id n0 a = true) (hv : ab_R ρ a v) : ab_R (sb_r ρ n0 vals) a v := by
  unfold ab_R at hv ⊢
  split at hv
  · next q =>
    have h1 : q.1 < n0 := Nat.ble_eq.mp hi
    exact ⟨by rw [sb_r_len h]; omega, by rw [sb_r_old h h1]; exact hv.2⟩
  · next q =>
    have h1 : q.1 < n0 := Nat.ble_eq.mp hi
    exact ⟨by rw [sb_r_len h]; omega, by rw [sb_r_old h h1]; exact hv.2⟩
  · exact hv
  · exact hv
  · exact hv
theorem sb_ro_ok (h : n0 ≤ ρ.length) {R : ab_Ro} {xs : List Int32} (hr : sb_ro n0 R = true) (hR : ab_roR ρ R xs) : ab_roR (sb_r ρ n0 vals) R xs := by
  have h1 := (Bool.and_eq_true _ _).mp hr
  have h2 : R.2.1 < n0 := Nat.ble_eq.mp h1.1
  refine ⟨by rw [sb_r_len h]; omega, by rw [sb_r_old h h2]; exact hR.2.1, hR.2.2.1, fun k a hk hl => sb_id_ok h (List.all_eq_true.mp h1.2 a (List.mem_of_getElem? hk)) (hR.2.2.2 k a hk hl)⟩
end SBO
