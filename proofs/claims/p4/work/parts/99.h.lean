/-! The law's state: both objects, apart from each other, and the row that it writes; calls. -/
abbrev wX : sm_X := sm_X0 1 6
def U_w (η : zE) : Prop := ∀ i, i < 20 → -2 ≤ η 40 (3 * i + 1) ∧ η 40 (3 * i + 1) ≤ 11
def V_w (η : zE) : Prop := ∀ i, i < 24 → 0 ≤ η 38 (3 * i + 1) ∧ η 38 (3 * i + 1) ≤ 23
def Gm_w (η : zE) : Prop := (G_k η ∧ T_l η ∧ PL_n 3 η) ∧ U_w η ∧ V_w η
theorem uk_w : zGk U_w [(nat_lit 40, nat_lit 0)] := fun η η' h g i hi => by
  rw [h 40 _ (zin2_of (q := (40, 0)) (by decide) rfl (Or.inl rfl))]
  exact g i hi
theorem vk_w : zGk V_w [(nat_lit 38, nat_lit 0)] := fun η η' h g i hi => by
  rw [h 38 _ (zin2_of (q := (38, 0)) (by decide) rfl (Or.inl rfl))]
  exact g i hi
def SC (α : Nat → Nat) (η : zE) (h : List sm_C) : Prop := zInj tm_c α ∧ zHp tm_c α rf_c η h ∧ wB wl_c G_c η ∧ G_r η
def SM (β : Nat → Nat) (θ : zE) (h : List sm_C) : Prop := zInj tm_m β ∧ zHp tm_m β rf_m θ h ∧ wB wl_m zTr θ ∧ Gm_w θ
def SA (x m o : Nat) (α β : Nat → Nat) (h : List sm_C) : Prop := (α 0 = x ∧ β 0 = m) ∧ (∃ v, h[o]? = some (103, [v])) ∧ (∀ r c, ab_get tm_c r = some c → α r ≠ o) ∧ (∀ r c, ab_get tm_m r = some c → β r ≠ o) ∧ ∀ r c r' c', ab_get tm_c r = some c → ab_get tm_m r' = some c' → α r ≠ β r'
/-- what goes together between two calls -/
def PB_w (η θ : zE) : Prop := (yp_wk η ∧ η 0 2 = θ 0 4 ∧ η 0 3 = θ 0 5) ∧ η 0 1 = θ 0 1 ∧ ∀ j : Nat, (j : Int) < η 0 1 → zb_r (η 1 j) (θ 1 j)
def pb_l : List zCe := [(62, 0), (0, 2), (0, 3), (0, 4), (1, 0)]
def pm_l : List zCe := [(1, 0)]
theorem pb_k {θ : zE} : zGk (fun η => PB_w η θ) pb_l := fun η η' h g => by
  have e0 : η' 0 1 = η 0 1 := h 0 1 rfl
  refine ⟨⟨fun i hi => ?_, (h 0 2 rfl).trans g.1.2.1, (h 0 3 rfl).trans g.1.2.2⟩, ?_, fun j hj => ?_⟩
  · rw [h 62 i (zin2_of (q := (62, 0)) (by decide) rfl (Or.inl rfl))]
    exact g.1.1 i hi
  · rw [e0]
    exact g.2.1
  · rw [e0] at hj
    rw [h 1 j (zin2_of (q := (1, 0)) (by decide) rfl (Or.inl rfl))]
    exact g.2.2 j hj
def SL (P : zE → zE → Prop) (x m o : Nat) (h : List sm_C) : Prop := ∃ α η β θ, SC α η h ∧ SM β θ h ∧ SA x m o α β h ∧ P η θ
theorem sl_i {P P2 : zE → zE → Prop} {x m o : Nat} {h : List sm_C} (S : SL P x m o h) (f : ∀ η θ, P η θ → P2 η θ) : SL P2 x m o h := by
  obtain ⟨α, η, β, θ, a, b, c, p⟩ := S
  exact ⟨α, η, β, θ, a, b, c, f _ _ p⟩
theorem sl_a {A : Prop} {x m o : Nat} {h : List sm_C} (S : SL (fun η θ => PB_w η θ ∧ A) x m o h) : A ∧ SL PB_w x m o h := by
  obtain ⟨α, η, β, θ, a, b, c, p⟩ := S
  exact ⟨p.2, α, η, β, θ, a, b, c, p.1⟩
/-- a call's run -/
def RT (ro : Nat → List Int32) (mid : Nat) (vs : List Value) (rk x m o : Nat) (h : List sm_C) (P : Int → zE → zE → Prop) : Prop := ∃ n v h' y, sx pr_P pr_K pr_df ro wX n 39 mid 0 (lv_args 0 vs) [] h 0 0 = some (v, h', 0, 0) ∧ SL (P y) x m o h' ∧ zres rk y v ∧ h'.length = h.length
theorem zHp_fr {T : zTm} {α : Nat → Nat} {rt : zRt} {η : zE} {h h' : List sm_C} (hh : zHp T α rt η h) (hf : ∀ r c, ab_get T r = some c → h'[α r]? = h[α r]?) : zHp T α rt η h' := fun r c hr => by
  obtain ⟨q, a, b⟩ := hh r c hr
  exact ⟨q, (hf r c hr).trans a, b⟩
theorem sl_c {α α' : Nat → Nat} {η' : zE} {β : Nat → Nat} {θ : zE} {P : zE → zE → Prop} {x m o : Nat} {h h' : List sm_C} (S : SM β θ h) (H : SA x m o α β h) (f : zFr tm_c α h h') (S' : SC α' η' h') (ha : α' 0 = α 0) (hs : ∀ r c, ab_get tm_c r = some c → ∃ r1 c1, ab_get tm_c r1 = some c1 ∧ α' r = α r1) (p : P η' θ) : SL P x m o h' := by
  obtain ⟨⟨a1, a2⟩, ⟨v, a3⟩, a4, a5, a6⟩ := H
  refine ⟨α', η', β, θ, S', ⟨S.1, zHp_fr S.2.1 (fun r c hr => f.2 _ (fun r1 c1 h1 e => a6 r1 c1 r c h1 hr e)), S.2.2⟩, ⟨⟨ha.trans a1, a2⟩, ⟨v, (f.2 o (fun r c hr => a4 r c hr)).trans a3⟩, fun r c hr => ?_, a5, fun r c r' c' hr hr' => ?_⟩, p⟩
  · obtain ⟨r1, c1, h1, e⟩ := hs r c hr
    rw [e]
    exact a4 r1 c1 h1
  · obtain ⟨r1, c1, h1, e⟩ := hs r c hr
    rw [e]
    exact a6 r1 c1 r' c' h1 hr'
theorem sl_m {α β : Nat → Nat} {η θ' : zE} {P : zE → zE → Prop} {x m o : Nat} {h h' : List sm_C} (S : SC α η h) (H : SA x m o α β h) (f : zFr tm_m β h h') (S' : SM β θ' h') (p : P η θ') : SL P x m o h' := by
  obtain ⟨⟨a1, a2⟩, ⟨v, a3⟩, a4, a5, a6⟩ := H
  exact ⟨α, η, β, θ', ⟨S.1, zHp_fr S.2.1 (fun r c hr => f.2 _ (fun r1 c1 h1 e => a6 r c r1 c1 hr h1 e.symm)), S.2.2⟩, S', ⟨⟨a1, a2⟩, ⟨v, (f.2 o (fun r c hr => a5 r c hr)).trans a3⟩, a4, a5, a6⟩, p⟩
def rt_ok (rf : zRt) (rt : zRt) : Bool := rt.all (fun q => (zrt rf q.1 q.2.1).isNone)
theorem rt_cov {rf rt : zRt} (hk : rt_ok rf rt = true) : ∀ r j t, zrt rf r j = some t → zrt (rt ++ rf) r j = some t := fun r j t ht => by
  cases hz : zrt rt r j with
  | none => rw [zrt_none_app hz]; exact ht
  | some t1 =>
    have g := List.all_eq_true.mp hk _ (zrt_mem hz)
    rw [ht] at g
    cases g
def cc_ok (fr : List (Nat × Nat)) (rtus : List zRt) (mods : List zCe) : Bool := fr.all (fun q => (zrt rf_c q.1 q.2).isNone) && (rtus.all (rt_ok rf_c) && (zdj gr_r mods && zdj pb_l mods))
theorem rfc_self : ∀ q ∈ rf_c, zrt rf_c q.1 q.2.1 = some q.2.2 := by decide +kernel
theorem rfm_self : ∀ q ∈ rf_m, zrt rf_m q.1 q.2.1 = some q.2.2 := by decide +kernel
theorem cc_call {ro : Nat → List Int32} {dep mid rk : Nat} {asp : List ab_V} {rtus : List zRt} {fr : List (Nat × Nat)} {pr : zPq} {po : List zPo} {mods : List zCe} (z : zMea pr_P pr_K pr_df ro wX dep mid tm_c (.inr (.inr (.inl 0)) :: asp) rk rf_c rtus fr (sP wl_c G_c pr) (fun j xs η y η' => zsQ wl_c G_c po mods xs η j y η')) (hk : cc_ok fr rtus mods = true) (hd : dep ≤ 39) {x m o : Nat} {h : List sm_C} (S : SL PB_w x m o h) {xs : List Int} {vs : List Value} (hv : ∀ α, zS α (0 :: xs) asp vs) (hl : xs.length = zcn asp) (hb : sB pr.1 xs) (hf : pr.2 = []) : RT ro mid (.ref x :: vs) rk x m o h (fun _ => PB_w) := by
  obtain ⟨α, η, β, θ, ⟨c1, c2, c3, c4⟩, hM, hA, hp⟩ := S
  obtain ⟨k1, k2, k3, k4⟩ := ab_and4 hk
  obtain ⟨n, v, h', y, η', j, rt, g1, g2, g3, g4, g5, g6⟩ := z α h η rf_c 39 xs (.ref x :: vs) hd c1 c2 rfc_self (fun q hq => Option.isNone_iff_eq_none.mp (List.all_eq_true.mp k1 q hq)) ⟨by rw [← hA.1.1]; rfl, hv α⟩ hl ⟨c3, hb, by rw [hf]; exact fun f w => nomatch w⟩
  unfold zsQ at g6
  split at g6
  · next o1 ho =>
    have hc := rt_cov (List.all_eq_true.mp k2 rt (List.mem_of_getElem? g2))
    have fm := g6.2.2.2.1
    refine ⟨n, v, h', y, g1, sl_c hM hA g4 ⟨c1, zHp_cov g3 hc, g6.1, zGk_fm gk_r c4 fm k3⟩ rfl (fun r c hr => ⟨r, c, hr, rfl⟩) (zGk_fm (G := fun η => PB_w η θ) pb_k hp fm k4), g5, g4.1⟩
  · exact g6.elim
theorem m_at : ab_get tm_m 999 = none := by decide +kernel
def gh_w (θ : zE) : zE := fun r j => if r = 999 then θ 0 j else θ r j
theorem gh_ne {θ : zE} {r j : Nat} (h : ¬ r = 999) : gh_w θ r j = θ r j := if_neg h
theorem gh_e {θ : zE} {j : Nat} : gh_w θ 999 j = θ 0 j := if_pos rfl
theorem gh_k {G : zE → Prop} {GR : List zCe} (hG : zGk G GR) {θ : zE} (g : G θ) (h : (!(zinr GR 999)) = true) : G (gh_w θ) := hG θ _ (fun r' j' hz => gh_ne (fun e => by rw [e, zinr_not h] at hz; cases hz)) g
theorem gm_of {θ : zE} (g : Gm_w θ) : G_m (gh_w θ) := by
  refine ⟨⟨gh_k gk_k g.1.1 (by decide +kernel), ?_⟩, ⟨?_, ?_⟩, ?_, ?_⟩
  · refine ⟨?_, ?_, ?_, ?_, ?_, ?_, ?_⟩ <;> (rw [gh_ne (by decide), gh_e])
  · exact (gh_k tk_l g.1.2.1 (by decide +kernel) : T_l (gh_w θ))
  · exact (gh_k plk_n g.1.2.2 (by decide +kernel) : PL_n 3 (gh_w θ))
  · exact (gh_k uk_w g.2.1 (by decide +kernel) : U_w (gh_w θ))
  · exact (gh_k vk_w g.2.2 (by decide +kernel) : V_w (gh_w θ))
theorem gm_to {θ : zE} (g : G_m θ) : Gm_w θ := ⟨⟨g.1.1, g.2.1.1, g.2.1.2⟩, g.2.2.1, g.2.2.2⟩
theorem zHp_gh {β : Nat → Nat} {θ : zE} {h : List sm_C} (hh : zHp tm_m β rf_m θ h) : zHp tm_m β rf_m (gh_w θ) h := fun r c hr => by
  have hn : ¬ r = 999 := fun e => by
    rw [e, m_at] at hr
    cases hr
  obtain ⟨q, a, b, c1, d⟩ := hh r c hr
  exact ⟨q, a, b, c1, fun j hj => ⟨by rw [gh_ne hn]; exact (d j hj).1, (d j hj).2⟩⟩
def gc_l : List zCe := [(999, 0)]
def cm_ok (mods : List zCe) : Bool := zdj gc_l mods && zdj pm_l mods
theorem gw_b : (wl_m.all (fun q => !(Nat.beq q.1 999))) = true := by decide +kernel
theorem cm_call {ro : Nat → List Int32} {dep mid rk : Nat} {asp : List ab_V} {pr : zPq} {po : zPo} {mods : List zCe} (z : zMet pr_P pr_K pr_df ro wX dep mid tm_m (.inr (.inr (.inl 0)) :: asp) rk rf_m [] (sP wl_m G_m pr) (fun xs η y η' => sQ wl_m G_m po mods xs η y η')) (hk : cm_ok mods = true) (hd : dep ≤ 39) {x m o : Nat} {h : List sm_C} (S : SL PB_w x m o h) {xs : List Int} {vs : List Value} (hv : ∀ α, zS α (0 :: xs) asp vs) (hl : xs.length = zcn asp) (hb : sB pr.1 xs) (hf : pr.2 = []) : RT ro mid (.ref m :: vs) rk x m o h (fun _ => PB_w) := by
  obtain ⟨α, η, β, θ, hC, ⟨c1, c2, c3, c4⟩, hA, hp⟩ := S
  obtain ⟨hk, hk2⟩ := (Bool.and_eq_true _ _).mp hk
  have b3 : wB wl_m G_m (gh_w θ) := ⟨fun q hq j h1 h2 => by
    have n9 : ¬ q.1 = 999 := fun e => by
      have g := List.all_eq_true.mp gw_b q hq
      rw [e] at g
      exact absurd g (by decide)
    rw [gh_ne n9]
    exact c3.1 q hq j h1 h2, gm_of c4⟩
  obtain ⟨n, v, h', y, η', g1, g3, g4, g5, g6⟩ := z β h (gh_w θ) rf_m 39 xs (.ref m :: vs) hd c1 (zHp_gh c2) rfm_self ⟨by rw [← hA.1.2]; rfl, hv β⟩ hl ⟨b3, hb, by rw [hf]; exact fun f w => nomatch w⟩
  have fm := g6.2.2.2.1
  have q9 : ∀ j, η' 999 j = θ 0 j := fun j => (fm 999 j (zdj_ok hk (zin2_of (q := (999, 0)) (by decide) rfl (Or.inl rfl)))).trans gh_e
  have gg := g6.1.2.1.2
  have t : ∀ j, η' 1 j = θ 1 j := fun j => (fm 1 j (zdj_ok hk2 (zin2_of (q := (1, 0)) (by decide) rfl (Or.inl rfl)))).trans (gh_ne (by decide))
  exact ⟨n, v, h', y, g1, sl_m hC hA g4 ⟨c1, g3, wB_w g6.1, gm_to g6.1.2⟩ ⟨⟨hp.1.1, hp.1.2.1.trans (gg.2.1.trans (q9 4)).symm, hp.1.2.2.trans (gg.2.2.1.trans (q9 5)).symm⟩, hp.2.1.trans (gg.1.trans (q9 1)).symm, fun j hj => by rw [t]; exact hp.2.2 j hj⟩, g5, g4.1⟩
/-! feed, text -/
def PT_w (n y : Int) (η θ : zE) : Prop := yp_wk η ∧ ((n < 0 ∨ θ 0 1 < n) → y = -2 ∧ PB_w η θ) ∧ (0 ≤ n → n ≤ θ 0 1 → η 0 1 = 0 ∧ y = (yq_R n θ).1 ∧ η 0 2 = (yq_R n θ).2 0 4 ∧ η 0 3 = (yq_R n θ).2 0 5)
def PQ_w (a y : Int) (η θ : zE) : Prop := PB_w η θ ∧ y = if a = 0 then θ 0 4 else if a = 1 then θ 0 5 else -1
def PF_w (a b c d e y : Int) (η θ : zE) : Prop := (yp_wk η ∧ η 0 2 = θ 0 4 ∧ η 0 3 = θ 0 5) ∧ (700 < θ 0 1 + 20 → y = -1 ∧ PB_w η θ) ∧ (θ 0 1 + 20 ≤ 700 → y = θ 0 1 + 20 ∧ η 0 1 = θ 0 1 + 20 ∧ yf_q a b c d e θ 0 1 = θ 0 1 + 20 ∧ ∀ j : Nat, (j : Int) < θ 0 1 + 20 → zb_r (η 1 j) (yf_q a b c d e θ 1 j))
theorem z32i (a : Int32) : -2147483648 ≤ a.toInt ∧ a.toInt ≤ 2147483647 := z32_to a
def a1_w : List ab_V := [.inl (1, 0)]
def a2_w : List ab_V := [.inl (1, 0), .inl (2, 0)]
def a3_w : List ab_V := [.inl (1, 0), .inl (2, 0), .inl (3, 0)]
def a5_w : List ab_V := [.inl (1, 0), .inl (2, 0), .inl (3, 0), .inl (4, 0), .inl (5, 0)]
theorem zRi {α : Nat → Nat} {ρ : List Int} {k : Nat} {a : Int32} (hk : k + 1 < ρ.length) (h : ρ.getD (k + 1) 0 = a.toInt) : zR α ρ (.inl (k + 1, 0)) (.int a) := by
  have e : zn ρ (k + 1, 0) = a.toInt := by
    unfold zn
    rw [show Nat.beq (k + 1, (0 : Int)).1 0 = false from rfl]
    exact h
  refine ⟨hk, ?_, ?_⟩
  · rw [e]
    exact z32_to a
  · rw [e, Int32.ofInt_toInt]
theorem z1_w (a : Int32) : ∀ α, zS α [0, a.toInt] a1_w [.int a] := fun _ => ⟨zRi (Nat.le_of_ble_eq_true rfl) rfl, trivial⟩
theorem z2_w (a b : Int32) : ∀ α, zS α [0, a.toInt, b.toInt] a2_w [.int a, .int b] := fun _ => ⟨zRi (Nat.le_of_ble_eq_true rfl) rfl, zRi (Nat.le_of_ble_eq_true rfl) rfl, trivial⟩
theorem z3_w (a b c : Int32) : ∀ α, zS α [0, a.toInt, b.toInt, c.toInt] a3_w [.int a, .int b, .int c] := fun _ => ⟨zRi (Nat.le_of_ble_eq_true rfl) rfl, zRi (Nat.le_of_ble_eq_true rfl) rfl, zRi (Nat.le_of_ble_eq_true rfl) rfl, trivial⟩
theorem z5_w (a b c d e : Int32) : ∀ α, zS α [0, a.toInt, b.toInt, c.toInt, d.toInt, e.toInt] a5_w [.int a, .int b, .int c, .int d, .int e] := fun _ => ⟨zRi (Nat.le_of_ble_eq_true rfl) rfl, zRi (Nat.le_of_ble_eq_true rfl) rfl, zRi (Nat.le_of_ble_eq_true rfl) rfl, zRi (Nat.le_of_ble_eq_true rfl) rfl, zRi (Nat.le_of_ble_eq_true rfl) rfl, trivial⟩
/-- the sheets' names changed over -/
def sw_w (r : Nat) : Nat := bif Nat.ble 2 r && Nat.ble r 22 then r + 30 else bif Nat.ble 32 r && Nat.ble r 52 then r - 30 else r
def rt1_w : zRt := [(0, 5, 2), (0, 4, 32)]
noncomputable def sw_b : Bool := (ab_lvs tm_c).all (fun q => (match ab_get tm_c (sw_w q.1) with
  | some c => Nat.beq c.1 q.2.1 && (Nat.beq c.2.1 q.2.2.1 && zcb c.2.2 q.2.2.2)
  | none => false) && Nat.beq (sw_w (sw_w q.1)) q.1)
theorem sw_b_ok : sw_b = true := by decide +kernel
theorem sw_get {r : Nat} {c : zCl} (hr : ab_get tm_c r = some c) : ab_get tm_c (sw_w r) = some c ∧ sw_w (sw_w r) = r := by
  have g := List.all_eq_true.mp (show (ab_lvs tm_c).all _ = true from sw_b_ok) _ (ab_lvs_mem hr)
  obtain ⟨g1, g2⟩ := (Bool.and_eq_true _ _).mp g
  refine ⟨?_, Nat.eq_of_beq_eq_true g2⟩
  split at g1
  · next c1 hc =>
    obtain ⟨h1, h2, h3⟩ := ab_and3 g1
    rw [hc]
    congr 1
    obtain ⟨a, b, d⟩ := c1
    obtain ⟨a', b', d'⟩ := c
    have e1 : a = a' := Nat.eq_of_beq_eq_true h1
    have e2 : b = b' := Nat.eq_of_beq_eq_true h2
    have e3 : d = d' := zcb_ok h3
    rw [e1, e2, e3]
  · cases g1
theorem sw_rf : ∀ q ∈ rf_c, zrt (rt1_w ++ rf_c) (sw_w q.1) q.2.1 = some (sw_w q.2.2) := by decide +kernel
theorem sw_wl : ∀ q ∈ wl_c, (sw_w q.1, q.2) ∈ wl_c := by decide +kernel
theorem sw_sc {α : Nat → Nat} {η : zE} {h : List sm_C} (c1 : zInj tm_c α) (c2 : zHp tm_c α (rt1_w ++ rf_c) η h) (c3 : wB wl_c zTr η) (c4 : GB_q η) (c5 : G_r η) : SC (fun r => α (sw_w r)) (fun r j => η (sw_w r) j) h := by
  refine ⟨fun r r' c c' hr hr' e => ?_, fun r c hr => ?_, ⟨fun q hq j h1 h2 => c3.1 _ (sw_wl q hq) j h1 h2, c4⟩, c5⟩
  · have a := sw_get hr
    have b := sw_get hr'
    have e := c1 _ _ _ _ a.1 b.1 e
    rw [← a.2, ← b.2, e]
  · obtain ⟨q, a, b, d, e⟩ := c2 _ c (sw_get hr).1
    refine ⟨q, a, b, d, fun j hj => ⟨(e j hj).1, fun t ht h3 => (e j hj).2 (sw_w t) ?_ h3⟩⟩
    exact sw_rf _ (zrt_mem ht)
