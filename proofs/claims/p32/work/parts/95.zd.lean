/-! Steps at cells. -/
abbrev zTh : Type := Option (List zK × List zK × Nat × Nat × List ab_V × zRt)
noncomputable def zgf (T : zTm) (rt : zRt) (dt : List Nat) (pc : Nat) (sa : List ab_V) (n : Nat) : zTh := match dt, sa with
  | [ci, k, t], .inr (.inr (.inl r)) :: s => (match ab_get T r with
    | some c => bif Nat.beq c.1 ci && (Nat.ble ci 99 && (Nat.ble (k + 1) c.2.1 && Nat.beq (zty c k) t)) then (match t with
      | 0 => some ([], [(4, 0, [(r, 0), (0, (k : Int))])], n + 1, pc + 3, .inl (n, 0) :: s, rt)
      | 1 => some ([], [(4, 1, [(r, 0), (0, (k : Int))])], n + 1, pc + 3, .inl (n, 0) :: s, rt)
      | 2 => some ([], [(4, 2, [(r, 0), (0, (k : Int))])], n + 1, pc + 3, .inr (.inl (n, 0)) :: s, rt)
      | 3 => (match zrt rt r k with
        | some q => some ([], [], n, pc + 3, .inr (.inr (.inl q)) :: s, rt)
        | none => none)
      | _ => none) else none
    | none => none)
  | _, _ => none
noncomputable def zpf (T : zTm) (rt : zRt) (dt : List Nat) (pc : Nat) (sa : List ab_V) (n : Nat) : zTh := match dt, sa with
  | [ci, k, t], v :: .inr (.inr (.inl r)) :: s => (match ab_get T r with
    | some c => bif Nat.beq c.1 ci && (Nat.ble ci 99 && (Nat.ble (k + 1) c.2.1 && Nat.beq (zty c k) t)) then (match t, v with
      | 0, .inl q => some ([], [(5, 0, [(r, 0), (0, (k : Int)), q])], n, pc + 3, s, rt)
      | 1, .inl q => some ([(7, 2, [q])], [(5, 1, [(r, 0), (0, (k : Int)), q])], n, pc + 3, s, rt)
      | 2, .inr (.inl q) => some ([], [(5, 2, [(r, 0), (0, (k : Int)), q])], n, pc + 3, s, rt)
      | 3, .inr (.inr (.inl q)) => some ([], [], n, pc + 3, s, (r, k, q) :: rt)
      | _, _ => none) else none
    | none => none)
  | _, _ => none
noncomputable def zal (T : zTm) (rt : zRt) (b : Bool) (pc : Nat) (sa : List ab_V) (n : Nat) : zTh := match sa with
  | .inl i :: .inr (.inr (.inl r)) :: s => (match ab_get T r with
    | some c => bif (bif b then Nat.beq c.1 101 || Nat.beq c.1 102 else Nat.beq c.1 100) && Nat.ble c.2.1 2147483647 then some ([(7, 0, [i, (0, (c.2.1 : Int))])], [(4, zty c 0, [(r, 0), i])], n + 1, pc + 1, .inl (n, 0) :: s, rt) else none
    | none => none)
  | .inl i :: .inr (.inr (.inr (.inl j))) :: s => bif b then none else some ([(7, 4, [i, (j, 0)])], [(9, 0, [i, (j, 0)])], n + 1, pc + 1, .inl (n, 0) :: s, rt)
  | _ => none
noncomputable def zis (T : zTm) (rt : zRt) (b : Bool) (pc : Nat) (sa : List ab_V) (n : Nat) : zTh := match sa with
  | .inl x :: .inl i :: .inr (.inr (.inl r)) :: s => (match ab_get T r with
    | some c => bif Nat.ble c.2.1 2147483647 then (bif b then (bif Nat.beq c.1 101 then some ([(7, 0, [i, (0, (c.2.1 : Int))])], [(0, 12, [x, x]), (5, 4, [(r, 0), i, (n, 0)])], n + 1, pc + 1, s, rt)
        else bif Nat.beq c.1 102 then some ([(7, 0, [i, (0, (c.2.1 : Int))]), (7, 2, [x])], [(5, 1, [(r, 0), i, x])], n, pc + 1, s, rt) else none)
      else bif Nat.beq c.1 100 then some ([(7, 0, [i, (0, (c.2.1 : Int))])], [(5, 0, [(r, 0), i, x])], n, pc + 1, s, rt) else none) else none
    | none => none)
  | _ => none
noncomputable def zjl (T : zTm) (rt : zRt) (pc : Nat) (sa : List ab_V) (n : Nat) : zTh := match sa with
  | .inl i :: .inr (.inr (.inl r)) :: s => (match ab_get T r with
    | some c => bif Nat.beq c.1 103 && Nat.ble c.2.1 2147483647 then some ([(7, 0, [i, (0, (c.2.1 : Int))])], [(4, 2, [(r, 0), i])], n + 1, pc + 1, .inr (.inl (n, 0)) :: s, rt) else none
    | none => none)
  | _ => none
noncomputable def zjs (T : zTm) (rt : zRt) (pc : Nat) (sa : List ab_V) (n : Nat) : zTh := match sa with
  | .inr (.inl x) :: .inl i :: .inr (.inr (.inl r)) :: s => (match ab_get T r with
    | some c => bif Nat.beq c.1 103 && Nat.ble c.2.1 2147483647 then some ([(7, 0, [i, (0, (c.2.1 : Int))])], [(5, 2, [(r, 0), i, x])], n, pc + 1, s, rt) else none
    | none => none)
  | _ => none
noncomputable def zln (T : zTm) (rt : zRt) (pc : Nat) (sa : List ab_V) (n : Nat) : zTh := match sa with
  | .inr (.inr (.inl r)) :: s => (match ab_get T r with
    | some c => bif Nat.ble 100 c.1 && (Nat.ble c.1 104 && Nat.ble c.2.1 2147483647) then some ([], [], n, pc + 1, .inl (0, (c.2.1 : Int)) :: s, rt) else none
    | none => none)
  | _ => none
def zko (dt : List Nat) (pc k : Nat) (sa : List ab_V) (n : Nat) (rt : zRt) : zTh := match dt with
  | [1, x] => some ([], [], n, pc + k, .inr (.inr (.inr (.inl x))) :: sa, rt)
  | [0, x] => bif Nat.ble x 4294967295 then some ([], [], n, pc + k, .inl (0, bif Nat.ble x 2147483647 then (x : Int) else (x : Int) - 4294967296) :: sa, rt) else none
  | [2, x] => bif Nat.ble x 18446744073709551615 then some ([], [], n, pc + k, .inr (.inl (0, bif Nat.ble x 9223372036854775807 then (x : Int) else (x : Int) - 18446744073709551616)) :: sa, rt) else none
  | _ => none
noncomputable def zhp (T : zTm) (rt : zRt) (i : Instr) (dt : List Nat) (pc : Nat) (sa : List ab_V) (n : Nat) : zTh := match i with
  | .getfield _ => zgf T rt dt pc sa n
  | .putfield _ => zpf T rt dt pc sa n
  | .iaload => zal T rt false pc sa n
  | .baload => zal T rt true pc sa n
  | .laload => zjl T rt pc sa n
  | .iastore => zis T rt false pc sa n
  | .bastore => zis T rt true pc sa n
  | .lastore => zjs T rt pc sa n
  | .arraylength => zln T rt pc sa n
  | .ldc _ => zko dt pc 2 sa n rt
  | .ldc2_w _ => zko dt pc 3 sa n rt
  | .ldc_w _ => zko dt pc 3 sa n rt
  | .getstatic _ => zko dt pc 3 sa n rt
  | _ => none
section ZHP
variable {α : Nat → Nat} {ρ : List Int} {η : zE} {T : zTm} {rt rt' ra : zRt} {h : List sm_C} {sa sa' : List ab_V} {st : List Value} {n n' pc pc' : Nat} {as ks : List zK} {ro : Nat → List Int32} {dt : List Nat}
theorem zix {z : Int} {len : Nat} (h : z32 z) (h1 : 0 ≤ z) (h2 : z < (len : Int)) : ¬ (Int32.ofInt z < 0 ∨ len ≤ (Int32.ofInt z).toNatClampNeg) ∧ (Int32.ofInt z).toNatClampNeg = z.toNat := by
  have e : (Int32.ofInt z).toNatClampNeg = z.toNat := by
    show (Int32.ofInt z).toInt.toNat = z.toNat
    rw [z32_of h]
  refine ⟨fun q => ?_, e⟩
  rcases q with q | q
  · rw [Int32.lt_iff_toInt_lt, z32_of h] at q
    have : (0 : Int32).toInt = 0 := rfl
    omega
  · rw [e] at q
    omega
theorem zR_newZ (h0 : 0 < ρ.length) {x : Int} (h : z32 x) : zR α (ρ ++ [x]) (.inl (ρ.length, 0)) (.int (Int32.ofInt x)) := by
  refine ⟨by rw [List.length_append]; exact Nat.lt_succ_self _, by rw [zn_new h0]; exact h, ?_⟩
  rw [zn_new h0]
theorem zR_newW (h0 : 0 < ρ.length) {x : Int} (h : z64 x) : zR α (ρ ++ [x]) (.inr (.inl (ρ.length, 0))) (.long (Int64.ofInt x)) := by
  refine ⟨by rw [List.length_append]; exact Nat.lt_succ_self _, by rw [zn_new h0]; exact h, ?_⟩
  rw [zn_new h0]
def zGh (ro : Nat → List Int32) (T : zTm) (α : Nat → Nat) (ra : zRt) (ρ : List Int) (η : zE) (h : List sm_C) (rt : zRt) (ks : List zK) (n' : Nat) (sa' : List ab_V) (rt' : zRt) (st' : List Value) (h' : List sm_C) : Prop := ∃ x η' wr, n' = (ρ ++ x).length ∧ zS α (ρ ++ x) sa' st' ∧ rt' = wr ++ rt ∧ zHp T α (wr ++ ra) η' h' ∧ zFr T α h h' ∧ ∀ C I M Q μ r, zden ro C I M Q μ (ks ++ r) ρ η → zden ro C I M Q μ r (ρ ++ x) η'
theorem zGh0 (hn : n = ρ.length) {st' : List Value} (hs : zS α ρ sa' st') (hh : zHp T α ra η h) : zGh ro T α ra ρ η h rt [] n sa' rt st' h := ⟨[], η, [], by rw [List.append_nil]; exact hn, by rw [List.append_nil]; exact hs, rfl, hh, zFr_rf, fun C I M Q μ r q => by rw [List.append_nil]; exact q⟩
theorem zn_c (z : Int) : zn ρ (0, z) = z := rfl
/-- a number read from a cell -/
theorem zGh_ld (h0 : 0 < ρ.length) (hn : n = ρ.length) (hh : zHp T α ra η h) {r j : Nat} {c : zCl} {q : sm_C} {i : Nat × Int} {t : Nat} {v : ab_V} {w : Value} {s : List ab_V} {s2 : List Value} (hr : ab_get T r = some c) (hq : h[α r]? = some q) (hc : zC α ra η r c q) (hj : j < c.2.1) (ht : zty c j = t) (h3 : t ≠ 3) (h9 : t ≠ 9) (hi : (zn ρ i).toNat = j) (hv : zR α (ρ ++ [η r j]) v w) (hs : zS α ρ s s2) : zGh ro T α ra ρ η h rt [(4, t, [(r, 0), i])] (n + 1) (v :: s) rt (w :: s2) h := by
  refine ⟨[η r j], η, [], by rw [List.length_append, hn]; rfl, zS_push hv (zS_app hs), rfl, hh, zFr_rf, fun C I M Q μ r2 q2 => ?_⟩
  have h1 := (hc.2.2 j hj).1 (by rw [ht]; exact h3) (by rw [ht]; exact h9)
  rw [ht] at h1
  exact q2 (η r j) (by show _ = η r (zn ρ i).toNat; rw [hi]) h1.1
theorem zC_at {r j : Nat} {c : zCl} {q : sm_C} {t : Nat} (hc : zC α ra η r c q) (hj : j < c.2.1) (ht : zty c j = t) (h3 : t ≠ 3) (h9 : t ≠ 9) : zok t (η r j) ∧ q.2[j]? = some (zval t (η r j)) := by
  have h1 := (hc.2.2 j hj).1 (by rw [ht]; exact h3) (by rw [ht]; exact h9)
  rw [ht] at h1
  exact h1
theorem zgf_ok (h0 : 0 < ρ.length) (hn : n = ρ.length) (hs : zS α ρ sa st) (hh : zHp T α ra η h) (hsub : ∀ r j t, zrt rt r j = some t → zrt ra r j = some t) (hq : zgf T rt dt pc sa n = some (as, ks, n', pc', sa', rt')) : ∃ st' h', sm_gf dt pc st h = some (pc', st', h') ∧ zGh ro T α ra ρ η h rt ks n' sa' rt' st' h' := by
  unfold zgf at hq
  split at hq
  · next ci k t r s =>
    obtain ⟨v1, s1, rfl, h1, hs1⟩ := zS_cons hs
    have h1 : v1 = _ := h1
    subst h1
    split at hq
    · next c hc =>
      cases hb : (Nat.beq c.1 ci && (Nat.ble ci 99 && (Nat.ble (k + 1) c.2.1 && Nat.beq (zty c k) t))) with
      | false => rw [hb] at hq; cases hq
      | true =>
        rw [hb] at hq
        dsimp only [cond_true] at hq
        obtain ⟨b1, b2, b3, b4⟩ := ab_and4 hb
        have e1 := Nat.eq_of_beq_eq_true b1
        have e2 : ci < 100 := Nat.lt_succ_of_le (Nat.ble_eq.mp b2)
        have e3 : k < c.2.1 := Nat.ble_eq.mp b3
        have e4 := Nat.eq_of_beq_eq_true b4
        obtain ⟨q, g1, g2⟩ := hh r c hc
        have ek : ∃ v, q.2[k]? = some v := ⟨_, List.getElem?_eq_getElem (by rw [g2.2.1]; exact e3)⟩
        have run : ∀ v, q.2[k]? = some v → sm_gf [ci, k, t] pc (.ref (α r) :: s1) h = some (pc + 3, v :: s1, h) := fun v hv => by
          unfold sm_gf
          dsimp only
          rw [g1]
          dsimp only
          rw [if_pos ⟨g2.1.trans e1, e2⟩, hv]
        split at hq
        · cases hq
          obtain ⟨a, b⟩ := zC_at g2 e3 e4 (by decide) (by decide)
          exact ⟨_, _, run _ b, zGh_ld h0 hn hh hc g1 g2 e3 e4 (by decide) (by decide) rfl (by rw [hn]; exact zR_newZ h0 a) hs1⟩
        · cases hq
          obtain ⟨a, b⟩ := zC_at g2 e3 e4 (by decide) (by decide)
          exact ⟨_, _, run _ b, zGh_ld h0 hn hh hc g1 g2 e3 e4 (by decide) (by decide) rfl (by rw [hn]; exact zR_newZ h0 (zok32 a (Or.inr (Or.inl rfl)))) hs1⟩
        · cases hq
          obtain ⟨a, b⟩ := zC_at g2 e3 e4 (by decide) (by decide)
          exact ⟨_, _, run _ b, zGh_ld h0 hn hh hc g1 g2 e3 e4 (by decide) (by decide) rfl (by rw [hn]; exact zR_newW h0 a) hs1⟩
        · split at hq
          · next q2 hq2 =>
            cases hq
            exact ⟨_, _, run _ ((g2.2.2 k e3).2 q2 (hsub _ _ _ hq2) e4), zGh0 hn (zS_push (show zR α ρ (.inr (.inr (.inl q2))) (.ref (α q2)) from rfl) hs1) hh⟩
          · cases hq
        · cases hq
    · cases hq
  · cases hq
end ZHP
