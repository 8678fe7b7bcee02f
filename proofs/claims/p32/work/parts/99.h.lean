/-! The law's state: both objects, apart from each other, and the row that it writes; calls. -/
abbrev wX : sm_X := sm_X0 1 6
def U_w (η : zE) : Prop := ∀ i, i < 20 → -2 ≤ η 40 (3 * i + 1) ∧ η 40 (3 * i + 1) ≤ 11
def V_w (η : zE) : Prop := ∀ i, i < 24 → 0 ≤ η 38 (3 * i + 1) ∧ η 38 (3 * i + 1) ≤ 23
def Gm_w (η : zE) : Prop := (G_k η ∧ T_l η ∧ PL_n 3 η) ∧ U_w η ∧ V_w η
theorem uk_w : zGk U_w [(nat_lit 40, nat_lit 0)] := fun η η' h g i hi => by
  rw [h 40 _ (zin2_of (q := (40, 0)) (by decide) rfl (Or.inl rfl))]
  exact g i hi
theorem vk_w : zGk V_w [(nat_lit 38, nat_lit 0)] := fun η η' h g i hi => by
  rw [h 38 _ (zin2_of (q := (38, 0)) (by decide) rfl (Or.inl rfl))]
  exact g i hi
def SC (α : Nat → Nat) (η : zE) (h : List sm_C) : Prop := zInj tm_c α ∧ zHp tm_c α rf_c η h ∧ wB wl_c G_c η ∧ G_r η
def SM (β : Nat → Nat) (θ : zE) (h : List sm_C) : Prop := zInj tm_m β ∧ zHp tm_m β rf_m θ h ∧ wB wl_m zTr θ ∧ Gm_w θ
def SA (x m o : Nat) (α β : Nat → Nat) (h : List sm_C) : Prop := (α 0 = x ∧ β 0 = m) ∧ (∃ v, h[o]? = some (103, [v])) ∧ (∀ r c, ab_get tm_c r = some c → α r ≠ o) ∧ (∀ r c, ab_get tm_m r = some c → β r ≠ o) ∧ ∀ r c r' c', ab_get tm_c r = some c → ab_get tm_m r' = some c' → α r ≠ β r'
/-- what goes together between two calls -/
def PA_w (η θ : zE) : Prop := yp_wk η ∧ (η 0 2 = θ 0 4 ∧ η 0 3 = θ 0 5) ∧ KX_w η θ ∧ η 95 0 = θ 0 74
def PB_w (η θ : zE) : Prop := PA_w η θ ∧ η 0 1 = θ 0 1 ∧ ∀ j : Nat, (j : Int) < η 0 1 → zb_r (η 1 j) (θ 1 j)
def pb_l : List zCe := [(62, 0), (0, 2), (0, 3), (0, 4), (95, 1), (1, 0), (2, 0), (3, 0), (4, 0), (5, 0), (6, 0), (7, 0), (8, 0), (9, 0), (10, 0), (11, 0), (12, 0), (13, 0), (14, 0), (15, 0), (16, 0)]
def pm_l : List zCe := [(0, 2), (0, 5), (0, 6), (0, 13), (0, 14), (0, 15), (0, 16), (0, 75), (1, 0), (4, 0), (5, 0), (6, 0), (7, 0), (8, 0), (9, 0), (10, 0), (11, 0), (12, 0), (13, 0), (14, 0), (15, 0)]
theorem pb_r {r j : Nat} (h : 2 ≤ r) (h2 : r ≤ 16) : zin2 pb_l r j = true := by
  have : r = 2 ∨ r = 3 ∨ r = 4 ∨ r = 5 ∨ r = 6 ∨ r = 7 ∨ r = 8 ∨ r = 9 ∨ r = 10 ∨ r = 11 ∨ r = 12 ∨ r = 13 ∨ r = 14 ∨ r = 15 ∨ r = 16 := by omega
  rcases this with rfl | rfl | rfl | rfl | rfl | rfl | rfl | rfl | rfl | rfl | rfl | rfl | rfl | rfl | rfl <;> exact zin2_of (q := (_, 0)) (by decide) rfl (Or.inl rfl)
theorem pm_r {r j : Nat} (h : 4 ≤ r) (h2 : r ≤ 15) : zin2 pm_l r j = true := by
  have : r = 4 ∨ r = 5 ∨ r = 6 ∨ r = 7 ∨ r = 8 ∨ r = 9 ∨ r = 10 ∨ r = 11 ∨ r = 12 ∨ r = 13 ∨ r = 14 ∨ r = 15 := by omega
  rcases this with rfl | rfl | rfl | rfl | rfl | rfl | rfl | rfl | rfl | rfl | rfl | rfl <;> exact zin2_of (q := (_, 0)) (by decide) rfl (Or.inl rfl)
/-- the class's state changes elsewhere -/
theorem pb_s {η η' θ : zE} (h : ∀ r j, zin2 pb_l r j = true → η' r j = η r j) (g : PB_w η θ) : PB_w η' θ := by
  obtain ⟨⟨g1, ⟨g2, g3⟩, g4, g5⟩, g6, g7⟩ := g
  have e0 : η' 0 1 = η 0 1 := h 0 1 rfl
  refine ⟨⟨fun i hi => ?_, ⟨(h 0 2 rfl).trans g2, (h 0 3 rfl).trans g3⟩, kx_s g4 (fun r j h1 h2 => h r j (pb_r h1 h2)), (h 95 0 rfl).trans g5⟩, e0.trans g6, fun j hj => ?_⟩
  · rw [h 62 i (zin2_of (q := (62, 0)) (by decide) rfl (Or.inl rfl))]
    exact g1 i hi
  · rw [e0] at hj
    rw [h 1 j (zin2_of (q := (1, 0)) (by decide) rfl (Or.inl rfl))]
    exact g7 j hj
theorem pb_k {θ : zE} : zGk (fun η => PB_w η θ) pb_l := fun _ _ h g => pb_s h g
/-- the model's state changes elsewhere -/
theorem pb_m {η θ θ' : zE} (h : ∀ r j, zin2 pm_l r j = true → θ' r j = θ r j) (g : PB_w η θ) : PB_w η θ' := by
  obtain ⟨⟨g1, ⟨g2, g3⟩, g4, g5⟩, g6, g7⟩ := g
  refine ⟨⟨g1, ⟨g2.trans (h 0 4 rfl).symm, g3.trans (h 0 5 rfl).symm⟩, kx_m g4 (fun r j q => ?_), g5.trans (h 0 74 rfl).symm⟩, g6.trans (h 0 1 rfl).symm, fun j hj => ?_⟩
  · by_cases q0 : r = 0
    · subst q0
      have : j = 12 ∨ j = 13 ∨ j = 14 ∨ j = 15 := by omega
      rcases this with rfl | rfl | rfl | rfl
      · exact h 0 12 rfl
      · exact h 0 13 rfl
      · exact h 0 14 rfl
      · exact h 0 15 rfl
    · exact h r j (pm_r (by omega) (by omega))
  · rw [h 1 j (zin2_of (q := (1, 0)) (by decide) rfl (Or.inl rfl))]
    exact g7 j hj
theorem pb_z {η θ : zE} {x : Int} {r j : Nat} (g : PB_w η θ) (w : zin2 pm_l r j = false) : PB_w η (zup θ r j x) := pb_m (fun r' j' q => zup_ne (fun e f => by rw [e, f, w] at q; cases q)) g
def SL (P : zE → zE → Prop) (x m o : Nat) (h : List sm_C) : Prop := ∃ α η β θ, SC α η h ∧ SM β θ h ∧ SA x m o α β h ∧ P η θ
theorem sl_i {P P2 : zE → zE → Prop} {x m o : Nat} {h : List sm_C} (S : SL P x m o h) (f : ∀ η θ, P η θ → P2 η θ) : SL P2 x m o h := by
  obtain ⟨α, η, β, θ, a, b, c, p⟩ := S
  exact ⟨α, η, β, θ, a, b, c, f _ _ p⟩
theorem sl_a {A : Prop} {x m o : Nat} {h : List sm_C} (S : SL (fun η θ => PB_w η θ ∧ A) x m o h) : A ∧ SL PB_w x m o h := by
  obtain ⟨α, η, β, θ, a, b, c, p⟩ := S
  exact ⟨p.2, α, η, β, θ, a, b, c, p.1⟩
/-- a call's run -/
def RT (ro : Nat → List Int32) (mid : Nat) (vs : List Value) (rk x m o : Nat) (h : List sm_C) (P : Int → zE → zE → Prop) : Prop := ∃ n v h' y, sx pr_P pr_K pr_df ro wX n 39 mid 0 (lv_args 0 vs) [] h 0 0 = some (v, h', 0, 0) ∧ SL (P y) x m o h' ∧ zres rk y v ∧ h'.length = h.length
theorem zHp_fr {T : zTm} {α : Nat → Nat} {rt : zRt} {η : zE} {h h' : List sm_C} (hh : zHp T α rt η h) (hf : ∀ r c, ab_get T r = some c → h'[α r]? = h[α r]?) : zHp T α rt η h' := fun r c hr => by
  obtain ⟨q, a, b⟩ := hh r c hr
  exact ⟨q, (hf r c hr).trans a, b⟩
theorem sl_c {α α' : Nat → Nat} {η' : zE} {β : Nat → Nat} {θ : zE} {P : zE → zE → Prop} {x m o : Nat} {h h' : List sm_C} (S : SM β θ h) (H : SA x m o α β h) (f : zFr tm_c α h h') (S' : SC α' η' h') (ha : α' 0 = α 0) (hs : ∀ r c, ab_get tm_c r = some c → ∃ r1 c1, ab_get tm_c r1 = some c1 ∧ α' r = α r1) (p : P η' θ) : SL P x m o h' := by
  obtain ⟨⟨a1, a2⟩, ⟨v, a3⟩, a4, a5, a6⟩ := H
  refine ⟨α', η', β, θ, S', ⟨S.1, zHp_fr S.2.1 (fun r c hr => f.2 _ (fun r1 c1 h1 e => a6 r1 c1 r c h1 hr e)), S.2.2⟩, ⟨⟨ha.trans a1, a2⟩, ⟨v, (f.2 o (fun r c hr => a4 r c hr)).trans a3⟩, fun r c hr => ?_, a5, fun r c r' c' hr hr' => ?_⟩, p⟩
  · obtain ⟨r1, c1, h1, e⟩ := hs r c hr
    rw [e]
    exact a4 r1 c1 h1
  · obtain ⟨r1, c1, h1, e⟩ := hs r c hr
    rw [e]
    exact a6 r1 c1 r' c' h1 hr'
theorem sl_m {α β : Nat → Nat} {η θ' : zE} {P : zE → zE → Prop} {x m o : Nat} {h h' : List sm_C} (S : SC α η h) (H : SA x m o α β h) (f : zFr tm_m β h h') (S' : SM β θ' h') (p : P η θ') : SL P x m o h' := by
  obtain ⟨⟨a1, a2⟩, ⟨v, a3⟩, a4, a5, a6⟩ := H
  exact ⟨α, η, β, θ', ⟨S.1, zHp_fr S.2.1 (fun r c hr => f.2 _ (fun r1 c1 h1 e => a6 r c r1 c1 hr h1 e.symm)), S.2.2⟩, S', ⟨⟨a1, a2⟩, ⟨v, (f.2 o (fun r c hr => a5 r c hr)).trans a3⟩, a4, a5, a6⟩, p⟩
def rt_ok (rf : zRt) (rt : zRt) : Bool := rt.all (fun q => (zrt rf q.1 q.2.1).isNone)
theorem rt_cov {rf rt : zRt} (hk : rt_ok rf rt = true) : ∀ r j t, zrt rf r j = some t → zrt (rt ++ rf) r j = some t := fun r j t ht => by
  cases hz : zrt rt r j with
  | none => rw [zrt_none_app hz]; exact ht
  | some t1 =>
    have g := List.all_eq_true.mp hk _ (zrt_mem hz)
    rw [ht] at g
    cases g
def cc_ok (fr : List (Nat × Nat)) (rtus : List zRt) (mods : List zCe) : Bool := fr.all (fun q => (zrt rf_c q.1 q.2).isNone) && (rtus.all (rt_ok rf_c) && (zdj gr_r mods && zdj pb_l mods))
theorem rfc_self : ∀ q ∈ rf_c, zrt rf_c q.1 q.2.1 = some q.2.2 := by decide +kernel
theorem rfm_self : ∀ q ∈ rf_m, zrt rf_m q.1 q.2.1 = some q.2.2 := by decide +kernel
theorem cc_call {ro : Nat → List Int32} {dep mid rk : Nat} {asp : List ab_V} {rtus : List zRt} {fr : List (Nat × Nat)} {pr : zPq} {po : List zPo} {mods : List zCe} (z : zMea pr_P pr_K pr_df ro wX dep mid tm_c (.inr (.inr (.inl 0)) :: asp) rk rf_c rtus fr (sP wl_c G_c pr) (fun j xs η y η' => zsQ wl_c G_c po mods xs η j y η')) (hk : cc_ok fr rtus mods = true) (hd : dep ≤ 39) {x m o : Nat} {h : List sm_C} (S : SL PB_w x m o h) {xs : List Int} {vs : List Value} (hv : ∀ α, zS α (0 :: xs) asp vs) (hl : xs.length = zcn asp) (hb : sB pr.1 xs) (hf : pr.2 = []) : RT ro mid (.ref x :: vs) rk x m o h (fun _ => PB_w) := by
  obtain ⟨α, η, β, θ, ⟨c1, c2, c3, c4⟩, hM, hA, hp⟩ := S
  obtain ⟨k1, k2, k3, k4⟩ := ab_and4 hk
  obtain ⟨n, v, h', y, η', j, rt, g1, g2, g3, g4, g5, g6⟩ := z α h η rf_c 39 xs (.ref x :: vs) hd c1 c2 rfc_self (fun q hq => Option.isNone_iff_eq_none.mp (List.all_eq_true.mp k1 q hq)) ⟨by rw [← hA.1.1]; rfl, hv α⟩ hl ⟨c3, hb, by rw [hf]; exact fun f w => nomatch w⟩
  unfold zsQ at g6
  split at g6
  · next o1 ho =>
    have hc := rt_cov (List.all_eq_true.mp k2 rt (List.mem_of_getElem? g2))
    have fm := g6.2.2.2.1
    refine ⟨n, v, h', y, g1, sl_c hM hA g4 ⟨c1, zHp_cov g3 hc, g6.1, zGk_fm gk_r c4 fm k3⟩ rfl (fun r c hr => ⟨r, c, hr, rfl⟩) (zGk_fm (G := fun η => PB_w η θ) pb_k hp fm k4), g5, g4.1⟩
  · exact g6.elim
theorem m_at : ab_get tm_m 999 = none := by decide +kernel
theorem gm_of {θ : zE} {z : Int} (g : Gm_w θ) (e : z = θ 0 1) : G_m (zup θ 999 0 z) := by
  have w : ∀ r j, ¬ r = 999 → zup θ 999 0 z r j = θ r j := fun r j h => zup_ne (fun q _ => h q)
  refine ⟨⟨zGk_up gk_k g.1.1 (by decide +kernel), by rw [w 0 _ (by decide), zup_eq, e]⟩, ⟨?_, ?_⟩, ?_, ?_⟩
  · exact (zGk_up tk_l g.1.2.1 (by decide +kernel) : T_l (zup θ 999 0 z))
  · exact (zGk_up plk_n g.1.2.2 (by decide +kernel) : PL_n 3 (zup θ 999 0 z))
  · exact (zGk_up uk_w g.2.1 (by decide +kernel) : U_w (zup θ 999 0 z))
  · exact (zGk_up vk_w g.2.2 (by decide +kernel) : V_w (zup θ 999 0 z))
theorem gm_to {θ : zE} (g : G_m θ) : Gm_w θ := ⟨⟨g.1.1, g.2.1.1, g.2.1.2⟩, g.2.2.1, g.2.2.2⟩
theorem zHp_gh {β : Nat → Nat} {θ : zE} {h : List sm_C} {z : Int} (hh : zHp tm_m β rf_m θ h) : zHp tm_m β rf_m (zup θ 999 0 z) h := fun r c hr => by
  have hn : ¬ r = 999 := fun e => by
    rw [e, m_at] at hr
    cases hr
  obtain ⟨q, a, b, c1, d⟩ := hh r c hr
  have w : ∀ j, zup θ 999 0 z r j = θ r j := fun j => zup_ne (fun q _ => hn q)
  exact ⟨q, a, b, c1, fun j hj => ⟨by rw [w]; exact (d j hj).1, (d j hj).2⟩⟩
def cm_ok (mods : List zCe) : Bool := !(zin2 mods 999 0) && zdj pm_l mods
theorem zin2_no9 {j : Nat} : zin2 pm_l 999 j = false := by
  refine Bool.eq_false_iff.mpr (fun w => ?_)
  obtain ⟨q, q1, q2, q3⟩ := zin2_mem w
  have := List.all_eq_true.mp (show pm_l.all (fun q => !(Nat.beq q.1 999)) = true by decide) q q1
  rw [q2] at this
  exact absurd this (by decide)
theorem cm_call {ro : Nat → List Int32} {dep mid rk : Nat} {asp : List ab_V} {pr : zPq} {po : zPo} {mods : List zCe} (z : zMet pr_P pr_K pr_df ro wX dep mid tm_m (.inr (.inr (.inl 0)) :: asp) rk rf_m [] (sP wl_m G_m pr) (fun xs η y η' => sQ wl_m G_m po mods xs η y η')) (hk : cm_ok mods = true) (hd : dep ≤ 39) {x m o : Nat} {h : List sm_C} (S : SL PB_w x m o h) {xs : List Int} {vs : List Value} (hv : ∀ α, zS α (0 :: xs) asp vs) (hl : xs.length = zcn asp) (hb : sB pr.1 xs) (hf : pr.2 = []) : RT ro mid (.ref m :: vs) rk x m o h (fun _ => PB_w) := by
  obtain ⟨α, η, β, θ, hC, ⟨c1, c2, c3, c4⟩, hA, hp⟩ := S
  obtain ⟨hk, hk2⟩ := (Bool.and_eq_true _ _).mp hk
  have b3 : wB wl_m G_m (zup θ 999 0 (θ 0 1)) := ⟨(wk_ok (L := wl_m) (G := zTr) (GR := []) (r := 999) (a := 0) (b := 0) (z := (θ 0 1, θ 0 1)) zTr_k c3 rfl (Nat.le_refl _) (Nat.le_refl _) (Int.le_refl _) (Int.le_refl _)).1, gm_of c4 rfl⟩
  obtain ⟨n, v, h', y, η', g1, g3, g4, g5, g6⟩ := z β h (zup θ 999 0 (θ 0 1)) rf_m 39 xs (.ref m :: vs) hd c1 (zHp_gh c2) rfm_self ⟨by rw [← hA.1.2]; rfl, hv β⟩ hl ⟨b3, hb, by rw [hf]; exact fun f w => nomatch w⟩
  have fm := g6.2.2.2.1
  have q : η' 0 1 = θ 0 1 := g6.1.2.1.2.trans ((fm 999 0 (zin2_not hk)).trans zup_eq)
  have w : ∀ r j, zin2 pm_l r j = true → η' r j = θ r j := fun r j hr => (fm r j (zdj_ok hk2 hr)).trans (zup_ne (fun e _ => by
    rw [e] at hr
    have g : zin2 pm_l 999 j = false := zin2_no9
    rw [g] at hr
    cases hr))
  exact ⟨n, v, h', y, g1, sl_m hC hA g4 ⟨c1, g3, wB_w g6.1, gm_to g6.1.2⟩ (pb_m w hp), g5, g4.1⟩
/-! feed, text -/
def PT_w (n y : Int) (η θ : zE) : Prop := yp_wk η ∧ ((n < 0 ∨ θ 0 1 < n) → y = -2 ∧ PB_w η θ) ∧ (0 ≤ n → n ≤ θ 0 1 → η 0 1 = 0 ∧ y = (yq_R n θ).1 ∧ η 0 2 = (yq_R n θ).2 0 4 ∧ η 0 3 = (yq_R n θ).2 0 5 ∧ (y < 0 → KX_w η θ ∧ η 95 0 = θ 0 74) ∧ (0 ≤ y → (∀ θ', kp_n (yq_R n θ).2 θ' → KX_w η θ') ∧ η 95 0 = 0))
def PF_w (a b c d e y : Int) (η θ : zE) : Prop := PA_w η θ ∧ (700 < θ 0 1 + 20 → y = -1 ∧ PB_w η θ) ∧ (θ 0 1 + 20 ≤ 700 → y = θ 0 1 + 20 ∧ η 0 1 = θ 0 1 + 20 ∧ yf_q a b c d e θ 0 1 = θ 0 1 + 20 ∧ ∀ j : Nat, (j : Int) < θ 0 1 + 20 → zb_r (η 1 j) (yf_q a b c d e θ 1 j))
def PQ_w (a y : Int) (η θ : zE) : Prop := PB_w η θ ∧ y = if a = 0 then θ 0 4 else if a = 1 then θ 0 5 else -1
def PN_w (a y : Int) (η θ : zE) : Prop := PB_w η θ ∧ y = yp_fd (θ 12) a (θ 0 14).toNat (θ 0 14).toNat
/-- what the class has made of a state that goes together with the model's -/
def PX_w (f : zE → Int × zE) (y : Int) (η θ : zE) : Prop := ∃ η0, PB_w η0 θ ∧ (0 ≤ η0 95 0 ∧ η0 95 0 ≤ 24) ∧ y = (f η0).1 ∧ η = (f η0).2
/-! tapes -/
theorem ad_fr {a b c d : Int} {s : zE} {r j : Nat} (h : r < 95 ∨ 99 < r) : yv_ad a b c d s r j = s r j := by
  unfold yv_ad yp_inc
  split
  · rfl
  · dsimp only
    rw [zup_ne (fun e f => by omega), zup_ne (fun e f => by omega), zup_ne (fun e f => by omega), zup_ne (fun e f => by omega), zup_ne (fun e f => by omega)]
theorem ad_0 {a b c d : Int} {s : zE} (h0 : 0 ≤ s 95 0) (h : s 95 0 < 24) : yv_ad a b c d s 95 0 = s 95 0 + 1 := by
  unfold yv_ad yp_inc
  rw [if_neg (by omega)]
  dsimp only
  rw [zup_eq, zup_ne (fun e _ => absurd e (by decide)), zup_ne (fun e _ => absurd e (by decide)), zup_ne (fun e _ => absurd e (by decide)), zup_ne (fun e _ => absurd e (by decide)), zd_1 h0 (by omega)]
theorem no_fr {t g i : Int} {s : zE} {r j : Nat} (h : ¬ r = 38 ∧ ¬ (r = 0 ∧ j = 74)) : yw_no t g i s r j = s r j := by
  unfold yw_no yq_inc
  dsimp only
  rw [zup_ne (fun e f => h.2 ⟨e, f⟩), zup_ne (fun e _ => h.1 e), zup_ne (fun e _ => h.1 e), zup_ne (fun e _ => h.1 e)]
theorem no_0 {t g i : Int} {s : zE} (h0 : 0 ≤ s 0 74) (h : s 0 74 ≤ 24) : yw_no t g i s 0 74 = s 0 74 + 1 := by
  unfold yw_no yq_inc
  dsimp only
  rw [zup_eq, zup_ne (fun e _ => absurd e (by decide)), zup_ne (fun e _ => absurd e (by decide)), zup_ne (fun e _ => absurd e (by decide)), zd_1 h0 (by omega)]
/-- one tape more on both sides -/
theorem pb_ad {η θ : zE} {a b c d t g i : Int} (p : PB_w η θ) (h0 : 0 ≤ η 95 0) (h : η 95 0 < 24) : PB_w (yv_ad a b c d η) (yw_no t g i θ) ∧ yv_ay η = yw_ny θ := by
  have e : η 95 0 = θ 0 74 := p.1.2.2.2
  refine ⟨?_, by unfold yv_ay yw_ny; rw [if_neg (by omega), e]⟩
  have a0 : ∀ r j, r < 95 → yv_ad a b c d η r j = η r j := fun r j w => ad_fr (Or.inl w)
  have a1 := ad_0 (a := a) (b := b) (c := c) (d := d) h0 h
  have b0 : ∀ r j, ¬ r = 38 → ¬ (r = 0 ∧ j = 74) → yw_no t g i θ r j = θ r j := fun r j w w2 => no_fr ⟨w, w2⟩
  have b1 := no_0 (t := t) (g := g) (i := i) (s := θ) (by omega) (by omega)
  generalize yv_ad a b c d η = A at *
  generalize yw_no t g i θ = B at *
  obtain ⟨⟨g1, ⟨g2, g3⟩, g4, g5⟩, g6, g7⟩ := p
  refine ⟨⟨fun k hk => (a0 62 k (by decide)).trans (g1 k hk), ⟨?_, ?_⟩, kx_m (kx_s g4 (fun r j h1 h2 => a0 r j (by omega))) (fun r j q => b0 r j (by omega) (by omega)), by rw [a1, b1, g5]⟩, ?_, fun j hj => ?_⟩
  · rw [a0 0 2 (by decide), b0 0 4 (by decide) (by decide)]
    exact g2
  · rw [a0 0 3 (by decide), b0 0 5 (by decide) (by decide)]
    exact g3
  · rw [a0 0 1 (by decide), b0 0 1 (by decide) (by decide)]
    exact g6
  · rw [a0 0 1 (by decide)] at hj
    rw [a0 1 j (by decide), b0 1 j (by decide) (by omega)]
    exact g7 j hj
theorem ig_e {η θ : zE} {g : Int} (p : PB_w η θ) : yv_ig g η = yw_ig g θ := by
  have e : η 2 1 = θ 0 12 := (p.1.2.2.1.1.2.2.1).trans (un_0 (j := 12))
  unfold yv_ig yw_ig
  rw [e]
theorem tp_e {η θ : zE} {t g i : Int} (hi : i = 0 ∨ i = 1) (p : PB_w η θ) (h0 : 0 ≤ η 95 0 ∧ η 95 0 ≤ 24) : PB_w (yv_tp t g i η).2 (yw_tp t g i θ).2 ∧ (yw_tp t g i θ).1 = (yv_tp t g i η).1 := by
  have e : η 95 0 = θ 0 74 := p.1.2.2.2
  unfold yv_tp yw_tp
  by_cases c1 : θ 0 74 = 24
  · rw [if_pos c1]
    have k : yv_ad t g i (-1) η = η := if_pos (by omega)
    have k2 : yv_ay η = -1 := if_pos (by omega)
    rw [k, k2]
    (repeat' split) <;> exact ⟨p, rfl⟩
  rw [if_neg c1]
  by_cases c2 : yq_in t 1 60 = 0
  · rw [if_pos c2, if_pos c2]
    exact ⟨p, rfl⟩
  rw [if_neg c2, if_neg c2, ig_e p]
  by_cases c3 : yw_ig g θ = 0
  · rw [if_pos c3, if_pos c3]
    exact ⟨p, rfl⟩
  rw [if_neg c3, if_neg c3]
  rcases hi with rfl | rfl
  · rw [if_pos rfl]
    have q := pb_ad (a := t) (b := g) (c := 0) (d := -1) (t := t) (g := g) (i := 0) p h0.1 (by omega)
    exact ⟨q.1, q.2.symm⟩
  · rw [if_neg (by decide)]
    have q := pb_ad (a := t) (b := g) (c := 1) (d := -1) (t := t) (g := g) (i := 1) p h0.1 (by omega)
    exact ⟨q.1, q.2.symm⟩
theorem sk_e {η θ : zE} {k : Int} (p : PB_w η θ) (h0 : 0 ≤ η 95 0 ∧ η 95 0 ≤ 24) : PB_w (yv_sk k η).2 (yw_sk k θ).2 ∧ (yw_sk k θ).1 = (yv_sk k η).1 := by
  have e : η 95 0 = θ 0 74 := p.1.2.2.2
  unfold yv_sk yw_sk
  by_cases c1 : k < 0 ∨ η 95 0 ≤ k
  · rw [if_pos c1, if_pos (by omega)]
    exact ⟨p, rfl⟩
  rw [if_neg c1]
  by_cases c2 : θ 0 74 = 24
  · rw [if_pos (Or.inl c2)]
    have k : yv_ad 0 (-1) 0 k η = η := if_pos (by omega)
    have k2 : yv_ay η = -1 := if_pos (by omega)
    rw [k, k2]
    exact ⟨p, rfl⟩
  · rw [if_neg (by omega)]
    have q := pb_ad (a := 0) (b := -1) (c := 0) (d := k) (t := -1) (g := k) (i := 0) p h0.1 (by omega)
    exact ⟨q.1, q.2.symm⟩
theorem kn_e {η θ : zE} {n : Int} (p : PB_w η θ) : PB_w (yv_kn n η).2 (yw_kn n θ).2 ∧ (yw_kn n θ).1 = (yv_kn n η).1 := by
  have e : η 95 0 = θ 0 74 := p.1.2.2.2
  unfold yv_kn yw_kn
  rw [e]
  by_cases c : yq_in n (-1) (θ 0 74) = 0
  · rw [if_pos c, if_pos c]
    exact ⟨p, rfl⟩
  · rw [if_neg c, if_neg c]
    exact ⟨pb_z (pb_s (fun r j q => zup_ne (fun e f => by rw [e, f] at q; exact absurd q (by decide))) p) (by decide), rfl⟩
/-- what is remembered of the grooves -/
theorem vt_no {t g i : Int} {s : zE} (h : V_w s) (h0 : 0 ≤ s 0 74 ∧ s 0 74 ≤ 23) (hg : 0 ≤ g ∧ g ≤ 23) : V_w (yw_no t g i s) := fun k hk => by
  have z3 : zd 0 3 3 (s 0 74) = 3 * s 0 74 := zd_m ⟨by omega, by omega⟩
  unfold yw_no yq_inc
  dsimp only
  have a1 : zup s 38 (zd 0 3 3 (s 0 74)).toNat t 0 74 = s 0 74 := zup_ne (fun e _ => absurd e (by decide))
  have a2 : ∀ x : Int, ∀ q : Nat, zup (zup s 38 (zd 0 3 3 (s 0 74)).toNat t) 38 q x 0 74 = s 0 74 := fun x q => (zup_ne (fun e _ => absurd e (by decide))).trans a1
  rw [a1, a2, zup_ne (fun e _ => absurd e (by decide)), z3, show zd 0 1 (3 * s 0 74) 1 = 3 * s 0 74 + 1 from zd_a ⟨by omega, by omega⟩, show zd 0 1 (3 * s 0 74) 2 = 3 * s 0 74 + 2 from zd_a ⟨by omega, by omega⟩, zup_ne (fun _ f => by omega)]
  by_cases q : 3 * k + 1 = (3 * s 0 74 + 1).toNat
  · rw [q, zup_eq]
    exact hg
  · rw [zup_ne (fun _ f => q f), zup_ne (fun _ f => by omega)]
    exact h k hk
theorem z32i (a : Int32) : -2147483648 ≤ a.toInt ∧ a.toInt ≤ 2147483647 := z32_to a
def a1_w : List ab_V := [.inl (1, 0)]
def a2_w : List ab_V := [.inl (1, 0), .inl (2, 0)]
def a3_w : List ab_V := [.inl (1, 0), .inl (2, 0), .inl (3, 0)]
def a5_w : List ab_V := [.inl (1, 0), .inl (2, 0), .inl (3, 0), .inl (4, 0), .inl (5, 0)]
theorem zRi {α : Nat → Nat} {ρ : List Int} {k : Nat} {a : Int32} (hk : k + 1 < ρ.length) (h : ρ.getD (k + 1) 0 = a.toInt) : zR α ρ (.inl (k + 1, 0)) (.int a) := by
  have e : zn ρ (k + 1, 0) = a.toInt := by
    unfold zn
    rw [show Nat.beq (k + 1, (0 : Int)).1 0 = false from rfl]
    exact h
  refine ⟨hk, ?_, ?_⟩
  · rw [e]
    exact z32_to a
  · rw [e, Int32.ofInt_toInt]
theorem z1_w (a : Int32) : ∀ α, zS α [0, a.toInt] a1_w [.int a] := fun _ => ⟨zRi (Nat.le_of_ble_eq_true rfl) rfl, trivial⟩
theorem z2_w (a b : Int32) : ∀ α, zS α [0, a.toInt, b.toInt] a2_w [.int a, .int b] := fun _ => ⟨zRi (Nat.le_of_ble_eq_true rfl) rfl, zRi (Nat.le_of_ble_eq_true rfl) rfl, trivial⟩
theorem z3_w (a b c : Int32) : ∀ α, zS α [0, a.toInt, b.toInt, c.toInt] a3_w [.int a, .int b, .int c] := fun _ => ⟨zRi (Nat.le_of_ble_eq_true rfl) rfl, zRi (Nat.le_of_ble_eq_true rfl) rfl, zRi (Nat.le_of_ble_eq_true rfl) rfl, trivial⟩
theorem z5_w (a b c d e : Int32) : ∀ α, zS α [0, a.toInt, b.toInt, c.toInt, d.toInt, e.toInt] a5_w [.int a, .int b, .int c, .int d, .int e] := fun _ => ⟨zRi (Nat.le_of_ble_eq_true rfl) rfl, zRi (Nat.le_of_ble_eq_true rfl) rfl, zRi (Nat.le_of_ble_eq_true rfl) rfl, zRi (Nat.le_of_ble_eq_true rfl) rfl, zRi (Nat.le_of_ble_eq_true rfl) rfl, trivial⟩
/-- the sheets' names changed over -/
def sw_w (r : Nat) : Nat := bif Nat.ble 2 r && Nat.ble r 22 then r + 30 else bif Nat.ble 32 r && Nat.ble r 52 then r - 30 else r
def rt1_w : zRt := [(0, 5, 2), (0, 4, 32)]
noncomputable def sw_b : Bool := (ab_lvs tm_c).all (fun q => (match ab_get tm_c (sw_w q.1) with
  | some c => Nat.beq c.1 q.2.1 && (Nat.beq c.2.1 q.2.2.1 && zcb c.2.2 q.2.2.2)
  | none => false) && Nat.beq (sw_w (sw_w q.1)) q.1)
theorem sw_b_ok : sw_b = true := by decide +kernel
theorem sw_get {r : Nat} {c : zCl} (hr : ab_get tm_c r = some c) : ab_get tm_c (sw_w r) = some c ∧ sw_w (sw_w r) = r := by
  have g := List.all_eq_true.mp (show (ab_lvs tm_c).all _ = true from sw_b_ok) _ (ab_lvs_mem hr)
  obtain ⟨g1, g2⟩ := (Bool.and_eq_true _ _).mp g
  refine ⟨?_, Nat.eq_of_beq_eq_true g2⟩
  split at g1
  · next c1 hc =>
    obtain ⟨h1, h2, h3⟩ := ab_and3 g1
    rw [hc]
    congr 1
    obtain ⟨a, b, d⟩ := c1
    obtain ⟨a', b', d'⟩ := c
    have e1 : a = a' := Nat.eq_of_beq_eq_true h1
    have e2 : b = b' := Nat.eq_of_beq_eq_true h2
    have e3 : d = d' := zcb_ok h3
    rw [e1, e2, e3]
  · cases g1
theorem sw_rf : ∀ q ∈ rf_c, zrt (rt1_w ++ rf_c) (sw_w q.1) q.2.1 = some (sw_w q.2.2) := by decide +kernel
theorem sw_wl : ∀ q ∈ wl_c, (sw_w q.1, q.2) ∈ wl_c := by decide +kernel
theorem sw_sc {α : Nat → Nat} {η : zE} {h : List sm_C} (c1 : zInj tm_c α) (c2 : zHp tm_c α (rt1_w ++ rf_c) η h) (c3 : wB wl_c zTr η) (c4 : GB_q η) (c5 : G_r η) : SC (fun r => α (sw_w r)) (fun r j => η (sw_w r) j) h := by
  refine ⟨fun r r' c c' hr hr' e => ?_, fun r c hr => ?_, ⟨fun q hq j h1 h2 => c3.1 _ (sw_wl q hq) j h1 h2, c4⟩, c5⟩
  · have a := sw_get hr
    have b := sw_get hr'
    have e := c1 _ _ _ _ a.1 b.1 e
    rw [← a.2, ← b.2, e]
  · obtain ⟨q, a, b, d, e⟩ := c2 _ c (sw_get hr).1
    refine ⟨q, a, b, d, fun j hj => ⟨(e j hj).1, fun t ht h3 => (e j hj).2 (sw_w t) ?_ h3⟩⟩
    exact sw_rf _ (zrt_mem ht)
