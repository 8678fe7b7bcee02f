/-! The runs joined. -/
def df_m (a : ab_V) (v : Value) : Bool := match a, v with
  | .inl q, .int x => ab_z0 q && decide (x = 0)
  | .inr (.inl q), .long x => ab_z0 q && decide (x = 0)
  | .inr (.inr (.inr (.inr _))), .null => true
  | _, _ => false
theorem df_m_ok {ρ : List Int} {E : ab_E} (ho : ab_ok ρ E) {a : ab_V} {v : Value} (h : df_m a v = true) : ab_R ρ a v := by
  unfold df_m at h
  split at h
  · next q x =>
    have h1 := (Bool.and_eq_true _ _).mp h
    have h2 := of_decide_eq_true h1.2
    have h3 := Nat.eq_of_beq_eq_true ((Bool.and_eq_true _ _).mp h1.1).1
    exact ⟨by rw [h3]; exact ho.1, by rw [ab_z0_ok ho h1.1, h2]; rfl⟩
  · next q x =>
    have h1 := (Bool.and_eq_true _ _).mp h
    have h2 := of_decide_eq_true h1.2
    have h3 := Nat.eq_of_beq_eq_true ((Bool.and_eq_true _ _).mp h1.1).1
    exact ⟨by rw [h3]; exact ho.1, by rw [ab_z0_ok ho h1.1, h2]; rfl⟩
  · rfl
  · cases h
noncomputable def df_c (ci : Nat) (c : ab_C) : Bool := Nat.beq c.1 ci && (Nat.beq (pr_df ci).length c.2.1 && (match c.2.2 with
  | .inl t => (List.range c.2.1).all (fun j => match ab_get t j with
    | some a => df_m a ((pr_df ci).getD j .null)
    | none => false)
  | .inr _ => false))
theorem df_c_ok {ci : Nat} {c : ab_C} (h : df_c ci c = true) : (pr_df ci).length = c.2.1 ∧ ∀ (ρ : List Int) (E : ab_E), ab_ok ρ E → ab_cR ρ c (ci, pr_df ci) := by
  unfold df_c at h
  obtain ⟨h1, h2, h3⟩ := ab_and3 h
  have e1 := Nat.eq_of_beq_eq_true h1
  have e2 := Nat.eq_of_beq_eq_true h2
  refine ⟨e2, fun ρ E ho => ⟨e1.symm, e2, ?_⟩⟩
  split at h3
  · next t ht =>
    rw [ht]
    intro j hj
    have h4 := List.all_eq_true.mp h3 j (List.mem_range.mpr hj)
    split at h4
    · next a ha => exact ⟨a, ha, df_m_ok ho h4⟩
    · cases h4
  · cases h3
theorem rn_df : ab_dfR rn_dfl pr_df := by
  have h : ∀ ci : Nat, ci < 9 → ∀ c, rn_dfl[ci]? = some c → df_c ci c = true := by
    intro ci hci c hc
    match ci, hci, hc with
    | 0, _, hc => cases hc; decide +kernel
    | 1, _, hc => cases hc; decide +kernel
    | 2, _, hc => cases hc; decide +kernel
    | 3, _, hc => cases hc; decide +kernel
    | 4, _, hc => cases hc; decide +kernel
    | 5, _, hc => cases hc; decide +kernel
    | 6, _, hc => cases hc; decide +kernel
    | 7, _, hc => cases hc; decide +kernel
    | 8, _, hc => cases hc; decide +kernel
    | n + 9, hci, _ => exact absurd hci (by omega)
  intro ci c hc
  have h1 : ci < rn_dfl.length := (List.getElem?_eq_some_iff.mp hc).1
  exact df_c_ok (h ci h1 c hc)
theorem rn_mR : ab_mR pr_P pr_K 0 rn_m := pr_mtR 0 rn_m rn_m_ok
theorem rn_cu {ro : Nat → List Int32} {f : Nat} {an : List ab_O} {pc : Nat} (h : rn_x f an pc = true) (ρ : List Int) : cu_H pr_P pr_K pr_df ro 1 6 600002 7302232 rn_R ρ (rn_Y pc) := by
  refine ⟨(fun m z q => by cases q), fun hn xs hx hok _ mi lv st hh cs hS => ?_⟩
  refine ax_ok (ro := ro) pr_mtR rn_df f [] _ _ _ _ _ _ _ _ rn_m _ _ _ _ h (ρ.take 8 ++ xs) lv st hh cs (fun Y hY => by cases hY) ⟨hS.1, hS.2.1, hS.2.2.1, rn_mR, hS.2.2.2.2⟩
theorem rn_G_ok {ro : Nat → List Int32} (ρ : List Int) : ∀ Y ∈ rn_G, cu_H pr_P pr_K pr_df ro 1 6 600002 7302232 rn_R ρ Y := List.forall_mem_cons.mpr ⟨rn_cu rn_0 ρ, List.forall_mem_cons.mpr ⟨rn_cu rn_1 ρ, List.forall_mem_cons.mpr ⟨rn_cu rn_2 ρ, List.forall_mem_cons.mpr ⟨rn_cu rn_3 ρ, List.forall_mem_cons.mpr ⟨rn_cu rn_4 ρ, List.forall_mem_cons.mpr ⟨rn_cu rn_5 ρ, List.forall_mem_cons.mpr ⟨rn_cu rn_6 ρ, List.forall_mem_cons.mpr ⟨rn_cu rn_7 ρ, List.forall_mem_cons.mpr ⟨rn_cu rn_8 ρ, List.forall_mem_cons.mpr ⟨rn_cu rn_9 ρ, List.forall_mem_cons.mpr ⟨rn_cu rn_10 ρ, List.forall_mem_cons.mpr ⟨rn_cu rn_11 ρ, List.forall_mem_cons.mpr ⟨rn_cu rn_12 ρ, List.forall_mem_cons.mpr ⟨rn_cu rn_13 ρ, List.forall_mem_cons.mpr ⟨rn_cu rn_14 ρ, List.forall_mem_cons.mpr ⟨rn_cu rn_15 ρ, List.forall_mem_cons.mpr ⟨rn_cu rn_16 ρ, List.forall_mem_cons.mpr ⟨rn_cu rn_17 ρ, List.forall_mem_cons.mpr ⟨rn_cu rn_18 ρ, List.forall_mem_cons.mpr ⟨rn_cu rn_19 ρ, List.forall_mem_cons.mpr ⟨rn_cu rn_20 ρ, List.forall_mem_cons.mpr ⟨rn_cu rn_21 ρ, List.forall_mem_cons.mpr ⟨rn_cu rn_22 ρ, List.forall_mem_cons.mpr ⟨rn_cu rn_23 ρ, List.forall_mem_cons.mpr ⟨rn_cu rn_24 ρ, List.forall_mem_cons.mpr ⟨rn_cu rn_25 ρ, List.forall_mem_cons.mpr ⟨rn_cu rn_26 ρ, List.forall_mem_cons.mpr ⟨rn_cu rn_27 ρ, List.forall_mem_cons.mpr ⟨rn_cu rn_28 ρ, List.forall_mem_cons.mpr ⟨rn_cu rn_29 ρ, List.forall_mem_cons.mpr ⟨rn_cu rn_30 ρ, List.forall_mem_cons.mpr ⟨rn_cu rn_31 ρ, List.forall_mem_cons.mpr ⟨rn_cu rn_32 ρ, List.forall_mem_cons.mpr ⟨rn_cu rn_33 ρ, List.forall_mem_cons.mpr ⟨rn_cu rn_34 ρ, List.forall_mem_cons.mpr ⟨rn_cu rn_35 ρ, List.forall_mem_cons.mpr ⟨rn_cu rn_36 ρ, List.forall_mem_cons.mpr ⟨rn_cu rn_37 ρ, List.forall_mem_cons.mpr ⟨rn_cu rn_38 ρ, fun _ h => nomatch h⟩⟩⟩⟩⟩⟩⟩⟩⟩⟩⟩⟩⟩⟩⟩⟩⟩⟩⟩⟩⟩⟩⟩⟩⟩⟩⟩⟩⟩⟩⟩⟩⟩⟩⟩⟩⟩⟩⟩
theorem rn_G_n : ∀ Y ∈ rn_G, Y.2.2.2.1 = 8 := by
  intro Y hY
  unfold rn_G at hY
  simp only [List.mem_cons, List.not_mem_nil, or_false] at hY
  rcases hY with rfl | rfl | rfl | rfl | rfl | rfl | rfl | rfl | rfl | rfl | rfl | rfl | rfl | rfl | rfl | rfl | rfl | rfl | rfl | rfl | rfl | rfl | rfl | rfl | rfl | rfl | rfl | rfl | rfl | rfl | rfl | rfl | rfl | rfl | rfl | rfl | rfl | rfl | rfl <;> rfl
/-- the script as numbers -/
def rn_rho (L : Nat) (xs : Nat → Int32) : List Int := [0, (L : Int), (xs 0).toInt, (xs 1).toInt, (xs 2).toInt, (xs 3).toInt, (xs 4).toInt, (xs 5).toInt]
def rn_ro (L : Nat) (xs : Nat → Int32) : Nat → List Int32 := fun j => if j = 1 then (List.range L).map xs else []
theorem rn_b32 (x : Int32) : -2147483648 ≤ x.toInt ∧ x.toInt ≤ 2147483647 := by
  have h1 := Int32.le_toInt x
  have h2 := Int32.toInt_le x
  rw [show Int32.maxValue.toInt = 2147483647 by decide] at h2
  exact ⟨by simpa using h1, h2⟩
theorem rn_ok0 {L : Nat} (hL : L ≤ 6) (xs : Nat → Int32) : ab_ok (rn_rho L xs) rn_E0 := by
  refine ⟨(by decide : 0 < 8), rfl, fun q hq => ?_, (fun q hq => by cases hq), (fun q hq => by cases hq)⟩
  have h0 := rn_b32 (xs 0)
  have h1 := rn_b32 (xs 1)
  have h2 := rn_b32 (xs 2)
  have h3 := rn_b32 (xs 3)
  have h4 := rn_b32 (xs 4)
  have h5 := rn_b32 (xs 5)
  have h6 : (0 : Int) ≤ (L : Int) ∧ (L : Int) ≤ 6 := by omega
  have hq : q ∈ [(1, (0 : Int), (6 : Int)), (2, -2147483648, 2147483647), (3, -2147483648, 2147483647), (4, -2147483648, 2147483647), (5, -2147483648, 2147483647), (6, -2147483648, 2147483647), (7, -2147483648, 2147483647)] := hq
  simp only [List.mem_cons, List.not_mem_nil, or_false] at hq
  rcases hq with rfl | rfl | rfl | rfl | rfl | rfl | rfl
  · exact ⟨(by decide : 1 < 8), h6.1, h6.2⟩
  · exact ⟨(by decide : 2 < 8), h0.1, h0.2⟩
  · exact ⟨(by decide : 3 < 8), h1.1, h1.2⟩
  · exact ⟨(by decide : 4 < 8), h2.1, h2.2⟩
  · exact ⟨(by decide : 5 < 8), h3.1, h3.2⟩
  · exact ⟨(by decide : 6 < 8), h4.1, h4.2⟩
  · exact ⟨(by decide : 7 < 8), h5.1, h5.2⟩
theorem rn_val (x : Int32) : Value.int x = .int (Int32.ofInt (x.toInt + 0)) := by rw [Int.add_zero, Int32.ofInt_toInt]
theorem rn_roR {L : Nat} (hL : L ≤ 6) (xs : Nat → Int32) : ab_roR (rn_rho L xs) rn_R (rn_ro L xs 1) := by
  have hlen : (rn_ro L xs 1).length = L := by
    show ((List.range L).map xs).length = L
    rw [List.length_map, List.length_range]
  refine ⟨(by decide : 1 < 8), ?_, by omega, fun k a hk hl => ?_⟩
  · rw [hlen]
    show (L : Int) = (L : Int) + 0
    omega
  · rw [hlen] at hl
    have hv : (rn_ro L xs 1).getD k 0 = xs k := by
      show ((List.range L).map xs).getD k 0 = xs k
      rw [List.getD_eq_getElem?_getD, List.getElem?_map, List.getElem?_range hl]
      rfl
    rw [hv]
    match k, hk with
    | 0, hk => cases hk; exact ⟨(by decide : 2 < 8), rn_val _⟩
    | 1, hk => cases hk; exact ⟨(by decide : 3 < 8), rn_val _⟩
    | 2, hk => cases hk; exact ⟨(by decide : 4 < 8), rn_val _⟩
    | 3, hk => cases hk; exact ⟨(by decide : 5 < 8), rn_val _⟩
    | 4, hk => cases hk; exact ⟨(by decide : 6 < 8), rn_val _⟩
    | 5, hk => cases hk; exact ⟨(by decide : 7 < 8), rn_val _⟩
    | k + 6, hk => exact absurd hl (by omega)
theorem rn_run {L : Nat} (hL : L ≤ 6) (xs : Nat → Int32) : ∃ n h' c' s', sx pr_P pr_K pr_df (rn_ro L xs) (sm_X0 1 6) n 40 0 0 [(0, .retAddr 1)] [] [] 0 0 = some (some (.int 1), h', c', s') ∧ c' ≤ 600002 ∧ s' ≤ 7302232 := by
  have h := ax_ok (ro := rn_ro L xs) pr_mtR rn_df _ rn_G _ _ _ _ _ _ _ _ rn_m _ _ _ _ rn_first (rn_rho L xs) [(0, .retAddr 1)] [] [] [] (fun Y hY => ⟨by rw [rn_G_n Y hY]; exact (by decide : 8 ≤ 8), rn_G_ok _ Y hY⟩) ⟨rn_ok0 hL xs, rfl, ⟨rfl, (fun k q hk => by cases hk)⟩, rn_mR, ⟨⟨rfl, rfl⟩, trivial⟩, trivial, trivial, rn_roR hL xs⟩
  obtain ⟨n, v, h', c', s', h1, h2, h3, h4⟩ := h
  subst h2
  exact ⟨n, h', c', s', h1, h3, h4⟩
