/-! The tables say what the code says. -/
noncomputable def ab_lvs {α : Type} (t : Lean.RArray (Nat × α)) : List (Nat × α) := Lean.RArray.rec (motive := fun _ => List (Nat × α) → List (Nat × α)) (fun x r => x :: r) (fun _ _ _ l r z => l (r z)) t []
theorem ab_lvs_mem0 {α : Type} (t : Lean.RArray (Nat × α)) : ∀ (z : List (Nat × α)) (x : Nat × α), (x ∈ z → x ∈ Lean.RArray.rec (motive := fun _ => List (Nat × α) → List (Nat × α)) (fun x r => x :: r) (fun _ _ _ l r z => l (r z)) t z) ∧ ∀ v, ab_get t x.1 = some v → (x.1, v) ∈ Lean.RArray.rec (motive := fun _ => List (Nat × α) → List (Nat × α)) (fun x r => x :: r) (fun _ _ _ l r z => l (r z)) t z := by
  induction t with
  | leaf y =>
    intro z x
    refine ⟨fun h => List.mem_cons_of_mem _ h, fun v h => ?_⟩
    rw [ab_get_leaf] at h
    split at h
    · next e =>
      cases h
      rw [← e]
      exact List.mem_cons_self
    · cases h
  | branch p l r ihl ihr =>
    intro z x
    refine ⟨fun h => (ihl _ _).1 ((ihr _ _).1 h), fun v h => ?_⟩
    rw [ab_get_branch] at h
    split at h
    · exact (ihl _ _).1 ((ihr _ x).2 v h)
    · exact (ihl _ x).2 v h
theorem ab_lvs_mem {α : Type} {t : Lean.RArray (Nat × α)} {j : Nat} {v : α} (h : ab_get t j = some v) : (j, v) ∈ ab_lvs t := (ab_lvs_mem0 t [] (j, v)).2 v h
noncomputable def pr_mk (e : Nat × ab_M) : Bool := match pr_P e.1 with
  | some M => Nat.beq M.2.2.2.2.1 e.2.1 && (Nat.beq M.2.2.2.2.2.1 e.2.2.1 && (Nat.beq M.2.2.2.2.2.2 e.2.2.2.1 && (Nat.beq M.2.2.1 e.2.2.2.2.1 && decide (M.2.2.2.1 = ab_rt e.2.2.2.2.2.1))))
  | none => false
theorem pr_mk_all : (ab_lvs pr_mt).all pr_mk = true := by decide +kernel
theorem pr_mtR : ab_mtR pr_P pr_K pr_mt := by
  intro mid m h
  have h1 := List.all_eq_true.mp pr_mk_all _ (ab_lvs_mem h)
  unfold pr_mk at h1
  dsimp only at h1
  split at h1
  · next M hM =>
    simp only [Bool.and_eq_true] at h1
    obtain ⟨a, b, c, d, e⟩ := h1
    refine ⟨M, hM, Nat.eq_of_beq_eq_true a, Nat.eq_of_beq_eq_true b, Nat.eq_of_beq_eq_true c, Nat.eq_of_beq_eq_true d, of_decide_eq_true e, fun pc e he => ?_⟩
    unfold pr_K
    rw [h]
    dsimp only
    rw [he]
    rfl
  · cases h1
def pr_dk (c : ByteArray) (l : List (Nat × ab_I)) : Prop := ∀ e ∈ l, decode c e.1 = .ok (e.2.2.2.1, e.2.2.2.2.1) ∧ (sm_len e.2.2.2.1 = 0 ∨ e.2.2.2.2.1 = sm_len e.2.2.2.1)
set_option maxRecDepth 20000 in
theorem dkL_law : pr_dk cL_law (ab_lvs tL_law) := by unfold pr_dk; decide +kernel
set_option maxRecDepth 20000 in
theorem dkX0_init : pr_dk cX0_init (ab_lvs tX0_init) := by unfold pr_dk; decide +kernel
set_option maxRecDepth 20000 in
theorem dkX0_wipe : pr_dk cX0_wipe (ab_lvs tX0_wipe) := by unfold pr_dk; decide +kernel
set_option maxRecDepth 20000 in
theorem dkX0_add : pr_dk cX0_add (ab_lvs tX0_add) := by unfold pr_dk; decide +kernel
set_option maxRecDepth 20000 in
theorem dkX0_work : pr_dk cX0_work (ab_lvs tX0_work) := by unfold pr_dk; decide +kernel
set_option maxRecDepth 20000 in
theorem dkX0_apply : pr_dk cX0_apply (ab_lvs tX0_apply) := by unfold pr_dk; decide +kernel
set_option maxRecDepth 20000 in
theorem dkX1_init : pr_dk cX1_init (ab_lvs tX1_init) := by unfold pr_dk; decide +kernel
set_option maxRecDepth 20000 in
theorem dkX1_start : pr_dk cX1_start (ab_lvs tX1_start) := by unfold pr_dk; decide +kernel
set_option maxRecDepth 20000 in
theorem dkX1_copy : pr_dk cX1_copy (ab_lvs tX1_copy) := by unfold pr_dk; decide +kernel
set_option maxRecDepth 20000 in
theorem dkX1_rewind : pr_dk cX1_rewind (ab_lvs tX1_rewind) := by unfold pr_dk; decide +kernel
set_option maxRecDepth 20000 in
theorem dkX1_push : pr_dk cX1_push (ab_lvs tX1_push) := by unfold pr_dk; decide +kernel
set_option maxRecDepth 20000 in
theorem dkX1_move : pr_dk cX1_move (ab_lvs tX1_move) := by unfold pr_dk; decide +kernel
set_option maxRecDepth 20000 in
theorem dkX1_draw : pr_dk cX1_draw (ab_lvs tX1_draw) := by unfold pr_dk; decide +kernel
set_option maxRecDepth 20000 in
theorem dkX2_init : pr_dk cX2_init (ab_lvs tX2_init) := by unfold pr_dk; decide +kernel
set_option maxRecDepth 20000 in
theorem dkX2_take : pr_dk cX2_take (ab_lvs tX2_take) := by unfold pr_dk; decide +kernel
set_option maxRecDepth 20000 in
theorem dkX2_run : pr_dk cX2_run (ab_lvs tX2_run) := by unfold pr_dk; decide +kernel
set_option maxRecDepth 20000 in
theorem dkX2_turn : pr_dk cX2_turn (ab_lvs tX2_turn) := by unfold pr_dk; decide +kernel
set_option maxRecDepth 20000 in
theorem dkX2_drawnWay : pr_dk cX2_drawnWay (ab_lvs tX2_drawnWay) := by unfold pr_dk; decide +kernel
set_option maxRecDepth 20000 in
theorem dkX2_likelyWay : pr_dk cX2_likelyWay (ab_lvs tX2_likelyWay) := by unfold pr_dk; decide +kernel
set_option maxRecDepth 20000 in
theorem dkX2_throwNeedle : pr_dk cX2_throwNeedle (ab_lvs tX2_throwNeedle) := by unfold pr_dk; decide +kernel
set_option maxRecDepth 20000 in
theorem dkX2_listen : pr_dk cX2_listen (ab_lvs tX2_listen) := by unfold pr_dk; decide +kernel
set_option maxRecDepth 20000 in
theorem dkX2_backOdds : pr_dk cX2_backOdds (ab_lvs tX2_backOdds) := by unfold pr_dk; decide +kernel
set_option maxRecDepth 20000 in
theorem dkX2_onOdds : pr_dk cX2_onOdds (ab_lvs tX2_onOdds) := by unfold pr_dk; decide +kernel
set_option maxRecDepth 20000 in
theorem dkX2_wearOf : pr_dk cX2_wearOf (ab_lvs tX2_wearOf) := by unfold pr_dk; decide +kernel
set_option maxRecDepth 20000 in
theorem dkX2_worthOf : pr_dk cX2_worthOf (ab_lvs tX2_worthOf) := by unfold pr_dk; decide +kernel
set_option maxRecDepth 20000 in
theorem dkX2_cut : pr_dk cX2_cut (ab_lvs tX2_cut) := by unfold pr_dk; decide +kernel
set_option maxRecDepth 20000 in
theorem dkX2_nameScratch : pr_dk cX2_nameScratch (ab_lvs tX2_nameScratch) := by unfold pr_dk; decide +kernel
set_option maxRecDepth 20000 in
theorem dkX2_nameGroove : pr_dk cX2_nameGroove (ab_lvs tX2_nameGroove) := by unfold pr_dk; decide +kernel
set_option maxRecDepth 20000 in
theorem dkX2_spread : pr_dk cX2_spread (ab_lvs tX2_spread) := by unfold pr_dk; decide +kernel
set_option maxRecDepth 20000 in
theorem dkX3_init : pr_dk cX3_init (ab_lvs tX3_init) := by unfold pr_dk; decide +kernel
set_option maxRecDepth 20000 in
theorem dkX3_read : pr_dk cX3_read (ab_lvs tX3_read) := by unfold pr_dk; decide +kernel
set_option maxRecDepth 20000 in
theorem dkX3_flaw : pr_dk cX3_flaw (ab_lvs tX3_flaw) := by unfold pr_dk; decide +kernel
set_option maxRecDepth 20000 in
theorem dkX3_readLine : pr_dk cX3_readLine (ab_lvs tX3_readLine) := by unfold pr_dk; decide +kernel
set_option maxRecDepth 20000 in
theorem dkX3_readGroove : pr_dk cX3_readGroove (ab_lvs tX3_readGroove) := by unfold pr_dk; decide +kernel
set_option maxRecDepth 20000 in
theorem dkX3_readScratch : pr_dk cX3_readScratch (ab_lvs tX3_readScratch) := by unfold pr_dk; decide +kernel
set_option maxRecDepth 20000 in
theorem dkX3_readGuest : pr_dk cX3_readGuest (ab_lvs tX3_readGuest) := by unfold pr_dk; decide +kernel
set_option maxRecDepth 20000 in
theorem dkX3_readOnce : pr_dk cX3_readOnce (ab_lvs tX3_readOnce) := by unfold pr_dk; decide +kernel
set_option maxRecDepth 20000 in
theorem dkX3_readNumber : pr_dk cX3_readNumber (ab_lvs tX3_readNumber) := by unfold pr_dk; decide +kernel
set_option maxRecDepth 20000 in
theorem dkX3_readLaw : pr_dk cX3_readLaw (ab_lvs tX3_readLaw) := by unfold pr_dk; decide +kernel
set_option maxRecDepth 20000 in
theorem dkX3_readOperand : pr_dk cX3_readOperand (ab_lvs tX3_readOperand) := by unfold pr_dk; decide +kernel
set_option maxRecDepth 20000 in
theorem dkX3_readSign : pr_dk cX3_readSign (ab_lvs tX3_readSign) := by unfold pr_dk; decide +kernel
set_option maxRecDepth 20000 in
theorem dkX3_waitingRank : pr_dk cX3_waitingRank (ab_lvs tX3_waitingRank) := by unfold pr_dk; decide +kernel
set_option maxRecDepth 20000 in
theorem dkX3_unwind : pr_dk cX3_unwind (ab_lvs tX3_unwind) := by unfold pr_dk; decide +kernel
set_option maxRecDepth 20000 in
theorem dkX3_push : pr_dk cX3_push (ab_lvs tX3_push) := by unfold pr_dk; decide +kernel
set_option maxRecDepth 20000 in
theorem dkX3_tie : pr_dk cX3_tie (ab_lvs tX3_tie) := by unfold pr_dk; decide +kernel
set_option maxRecDepth 20000 in
theorem dkX3_next : pr_dk cX3_next (ab_lvs tX3_next) := by unfold pr_dk; decide +kernel
set_option maxRecDepth 20000 in
theorem dkX3_nextNumber : pr_dk cX3_nextNumber (ab_lvs tX3_nextNumber) := by unfold pr_dk; decide +kernel
set_option maxRecDepth 20000 in
theorem dkX3_nextWord : pr_dk cX3_nextWord (ab_lvs tX3_nextWord) := by unfold pr_dk; decide +kernel
set_option maxRecDepth 20000 in
theorem dkX3_takeLanguageWord : pr_dk cX3_takeLanguageWord (ab_lvs tX3_takeLanguageWord) := by unfold pr_dk; decide +kernel
set_option maxRecDepth 20000 in
theorem dkX3_sign : pr_dk cX3_sign (ab_lvs tX3_sign) := by unfold pr_dk; decide +kernel
set_option maxRecDepth 20000 in
theorem dkX3_follows : pr_dk cX3_follows (ab_lvs tX3_follows) := by unfold pr_dk; decide +kernel
set_option maxRecDepth 20000 in
theorem dkX4_init : pr_dk cX4_init (ab_lvs tX4_init) := by unfold pr_dk; decide +kernel
set_option maxRecDepth 20000 in
theorem dkX4_wipe : pr_dk cX4_wipe (ab_lvs tX4_wipe) := by unfold pr_dk; decide +kernel
set_option maxRecDepth 20000 in
theorem dkX4_guestNamed : pr_dk cX4_guestNamed (ab_lvs tX4_guestNamed) := by unfold pr_dk; decide +kernel
set_option maxRecDepth 20000 in
theorem dkX5_init : pr_dk cX5_init (ab_lvs tX5_init) := by unfold pr_dk; decide +kernel
set_option maxRecDepth 20000 in
theorem dkX5_remember : pr_dk cX5_remember (ab_lvs tX5_remember) := by unfold pr_dk; decide +kernel
set_option maxRecDepth 20000 in
theorem dkX5_recall : pr_dk cX5_recall (ab_lvs tX5_recall) := by unfold pr_dk; decide +kernel
set_option maxRecDepth 20000 in
theorem dkX6_init : pr_dk cX6_init (ab_lvs tX6_init) := by unfold pr_dk; decide +kernel
set_option maxRecDepth 20000 in
theorem dkX6_wipe : pr_dk cX6_wipe (ab_lvs tX6_wipe) := by unfold pr_dk; decide +kernel
set_option maxRecDepth 20000 in
theorem dkX6_add : pr_dk cX6_add (ab_lvs tX6_add) := by unfold pr_dk; decide +kernel
set_option maxRecDepth 20000 in
theorem dkX6_knownCount : pr_dk cX6_knownCount (ab_lvs tX6_knownCount) := by unfold pr_dk; decide +kernel
set_option maxRecDepth 20000 in
theorem dkX6_markStruck : pr_dk cX6_markStruck (ab_lvs tX6_markStruck) := by unfold pr_dk; decide +kernel
set_option maxRecDepth 20000 in
theorem dkX6_agrees : pr_dk cX6_agrees (ab_lvs tX6_agrees) := by unfold pr_dk; decide +kernel
set_option maxRecDepth 20000 in
theorem dkX7_init : pr_dk cX7_init (ab_lvs tX7_init) := by unfold pr_dk; decide +kernel
set_option maxRecDepth 20000 in
theorem dkX7_feed : pr_dk cX7_feed (ab_lvs tX7_feed) := by unfold pr_dk; decide +kernel
set_option maxRecDepth 20000 in
theorem dkX7_putBytes : pr_dk cX7_putBytes (ab_lvs tX7_putBytes) := by unfold pr_dk; decide +kernel
set_option maxRecDepth 20000 in
theorem dkX7_text : pr_dk cX7_text (ab_lvs tX7_text) := by unfold pr_dk; decide +kernel
set_option maxRecDepth 20000 in
theorem dkX7_fault : pr_dk cX7_fault (ab_lvs tX7_fault) := by unfold pr_dk; decide +kernel
set_option maxRecDepth 20000 in
theorem dkX7_named : pr_dk cX7_named (ab_lvs tX7_named) := by unfold pr_dk; decide +kernel
set_option maxRecDepth 20000 in
theorem dkX7_scratch : pr_dk cX7_scratch (ab_lvs tX7_scratch) := by unfold pr_dk; decide +kernel
set_option maxRecDepth 20000 in
theorem dkX7_guest : pr_dk cX7_guest (ab_lvs tX7_guest) := by unfold pr_dk; decide +kernel
set_option maxRecDepth 20000 in
theorem dkX7_law : pr_dk cX7_law (ab_lvs tX7_law) := by unfold pr_dk; decide +kernel
set_option maxRecDepth 20000 in
theorem dkX7_isGroove : pr_dk cX7_isGroove (ab_lvs tX7_isGroove) := by unfold pr_dk; decide +kernel
set_option maxRecDepth 20000 in
theorem dkX7_isScratch : pr_dk cX7_isScratch (ab_lvs tX7_isScratch) := by unfold pr_dk; decide +kernel
set_option maxRecDepth 20000 in
theorem dkX7_isGuest : pr_dk cX7_isGuest (ab_lvs tX7_isGuest) := by unfold pr_dk; decide +kernel
set_option maxRecDepth 20000 in
theorem dkX7_within : pr_dk cX7_within (ab_lvs tX7_within) := by unfold pr_dk; decide +kernel
set_option maxRecDepth 20000 in
theorem dkX7_weigh : pr_dk cX7_weigh (ab_lvs tX7_weigh) := by unfold pr_dk; decide +kernel
set_option maxRecDepth 20000 in
theorem dkX7_nudge : pr_dk cX7_nudge (ab_lvs tX7_nudge) := by unfold pr_dk; decide +kernel
set_option maxRecDepth 20000 in
theorem dkX7_anew : pr_dk cX7_anew (ab_lvs tX7_anew) := by unfold pr_dk; decide +kernel
set_option maxRecDepth 20000 in
theorem dkX7_go : pr_dk cX7_go (ab_lvs tX7_go) := by unfold pr_dk; decide +kernel
set_option maxRecDepth 20000 in
theorem dkX7_out : pr_dk cX7_out (ab_lvs tX7_out) := by unfold pr_dk; decide +kernel
set_option maxRecDepth 20000 in
theorem dkX7_tryNow : pr_dk cX7_tryNow (ab_lvs tX7_tryNow) := by unfold pr_dk; decide +kernel
set_option maxRecDepth 20000 in
theorem dkX7_loop : pr_dk cX7_loop (ab_lvs tX7_loop) := by unfold pr_dk; decide +kernel
set_option maxRecDepth 20000 in
theorem dkX7_likely : pr_dk cX7_likely (ab_lvs tX7_likely) := by unfold pr_dk; decide +kernel
set_option maxRecDepth 20000 in
theorem dkX7_hundreds : pr_dk cX7_hundreds (ab_lvs tX7_hundreds) := by unfold pr_dk; decide +kernel
set_option maxRecDepth 20000 in
theorem dkX7_greatestCommon : pr_dk cX7_greatestCommon (ab_lvs tX7_greatestCommon) := by unfold pr_dk; decide +kernel
set_option maxRecDepth 20000 in
theorem dkX7_light : pr_dk cX7_light (ab_lvs tX7_light) := by unfold pr_dk; decide +kernel
set_option maxRecDepth 20000 in
theorem dkX7_when : pr_dk cX7_when (ab_lvs tX7_when) := by unfold pr_dk; decide +kernel
set_option maxRecDepth 20000 in
theorem dkX7_plays : pr_dk cX7_plays (ab_lvs tX7_plays) := by unfold pr_dk; decide +kernel
set_option maxRecDepth 20000 in
theorem dkX7_missed : pr_dk cX7_missed (ab_lvs tX7_missed) := by unfold pr_dk; decide +kernel
set_option maxRecDepth 20000 in
theorem dkX7_rests : pr_dk cX7_rests (ab_lvs tX7_rests) := by unfold pr_dk; decide +kernel
set_option maxRecDepth 20000 in
theorem dkX7_rest : pr_dk cX7_rest (ab_lvs tX7_rest) := by unfold pr_dk; decide +kernel
set_option maxRecDepth 20000 in
theorem dkX7_canWait : pr_dk cX7_canWait (ab_lvs tX7_canWait) := by unfold pr_dk; decide +kernel
set_option maxRecDepth 20000 in
theorem dkX7_restBits : pr_dk cX7_restBits (ab_lvs tX7_restBits) := by unfold pr_dk; decide +kernel
set_option maxRecDepth 20000 in
theorem dkX7_waited : pr_dk cX7_waited (ab_lvs tX7_waited) := by unfold pr_dk; decide +kernel
set_option maxRecDepth 20000 in
theorem dkX7_needle : pr_dk cX7_needle (ab_lvs tX7_needle) := by unfold pr_dk; decide +kernel
set_option maxRecDepth 20000 in
theorem dkX7_most : pr_dk cX7_most (ab_lvs tX7_most) := by unfold pr_dk; decide +kernel
set_option maxRecDepth 20000 in
theorem dkX7_reaches : pr_dk cX7_reaches (ab_lvs tX7_reaches) := by unfold pr_dk; decide +kernel
set_option maxRecDepth 20000 in
theorem dkX7_bestBit : pr_dk cX7_bestBit (ab_lvs tX7_bestBit) := by unfold pr_dk; decide +kernel
set_option maxRecDepth 20000 in
theorem dkX7_rule : pr_dk cX7_rule (ab_lvs tX7_rule) := by unfold pr_dk; decide +kernel
set_option maxRecDepth 20000 in
theorem dkX7_tryRule : pr_dk cX7_tryRule (ab_lvs tX7_tryRule) := by unfold pr_dk; decide +kernel
set_option maxRecDepth 20000 in
theorem dkX7_bestRule : pr_dk cX7_bestRule (ab_lvs tX7_bestRule) := by unfold pr_dk; decide +kernel
set_option maxRecDepth 20000 in
theorem dkX7_gets : pr_dk cX7_gets (ab_lvs tX7_gets) := by unfold pr_dk; decide +kernel
set_option maxRecDepth 20000 in
theorem dkX7_tames : pr_dk cX7_tames (ab_lvs tX7_tames) := by unfold pr_dk; decide +kernel
set_option maxRecDepth 20000 in
theorem dkX7_tape : pr_dk cX7_tape (ab_lvs tX7_tape) := by unfold pr_dk; decide +kernel
set_option maxRecDepth 20000 in
theorem dkX7_strike : pr_dk cX7_strike (ab_lvs tX7_strike) := by unfold pr_dk; decide +kernel
set_option maxRecDepth 20000 in
theorem dkX7_known : pr_dk cX7_known (ab_lvs tX7_known) := by unfold pr_dk; decide +kernel
set_option maxRecDepth 20000 in
theorem dkX7_threw : pr_dk cX7_threw (ab_lvs tX7_threw) := by unfold pr_dk; decide +kernel
set_option maxRecDepth 20000 in
theorem dkX7_wayFromText : pr_dk cX7_wayFromText (ab_lvs tX7_wayFromText) := by unfold pr_dk; decide +kernel
set_option maxRecDepth 20000 in
theorem dkX7_chance : pr_dk cX7_chance (ab_lvs tX7_chance) := by unfold pr_dk; decide +kernel
set_option maxRecDepth 20000 in
theorem dkX7_tried : pr_dk cX7_tried (ab_lvs tX7_tried) := by unfold pr_dk; decide +kernel
set_option maxRecDepth 20000 in
theorem dkX7_undo : pr_dk cX7_undo (ab_lvs tX7_undo) := by unfold pr_dk; decide +kernel
set_option maxRecDepth 20000 in
theorem dkX7_keep : pr_dk cX7_keep (ab_lvs tX7_keep) := by unfold pr_dk; decide +kernel
set_option maxRecDepth 20000 in
theorem dkX7_back : pr_dk cX7_back (ab_lvs tX7_back) := by unfold pr_dk; decide +kernel
set_option maxRecDepth 20000 in
theorem dkX7_count : pr_dk cX7_count (ab_lvs tX7_count) := by unfold pr_dk; decide +kernel
set_option maxRecDepth 20000 in
theorem dkX8_init : pr_dk cX8_init (ab_lvs tX8_init) := by unfold pr_dk; decide +kernel
set_option maxRecDepth 20000 in
theorem dkX8_thrown : pr_dk cX8_thrown (ab_lvs tX8_thrown) := by unfold pr_dk; decide +kernel
set_option maxRecDepth 20000 in
theorem dkX8_feed : pr_dk cX8_feed (ab_lvs tX8_feed) := by unfold pr_dk; decide +kernel
set_option maxRecDepth 20000 in
theorem dkX8_isIn : pr_dk cX8_isIn (ab_lvs tX8_isIn) := by unfold pr_dk; decide +kernel
set_option maxRecDepth 20000 in
theorem dkX8_wrong : pr_dk cX8_wrong (ab_lvs tX8_wrong) := by unfold pr_dk; decide +kernel
set_option maxRecDepth 20000 in
theorem dkX8_wordAt : pr_dk cX8_wordAt (ab_lvs tX8_wordAt) := by unfold pr_dk; decide +kernel
set_option maxRecDepth 20000 in
theorem dkX8_isSmall : pr_dk cX8_isSmall (ab_lvs tX8_isSmall) := by unfold pr_dk; decide +kernel
set_option maxRecDepth 20000 in
theorem dkX8_isDigit : pr_dk cX8_isDigit (ab_lvs tX8_isDigit) := by unfold pr_dk; decide +kernel
set_option maxRecDepth 20000 in
theorem dkX8_token : pr_dk cX8_token (ab_lvs tX8_token) := by unfold pr_dk; decide +kernel
set_option maxRecDepth 20000 in
theorem dkX8_signToken : pr_dk cX8_signToken (ab_lvs tX8_signToken) := by unfold pr_dk; decide +kernel
set_option maxRecDepth 20000 in
theorem dkX8_packed : pr_dk cX8_packed (ab_lvs tX8_packed) := by unfold pr_dk; decide +kernel
set_option maxRecDepth 20000 in
theorem dkX8_isKey : pr_dk cX8_isKey (ab_lvs tX8_isKey) := by unfold pr_dk; decide +kernel
set_option maxRecDepth 20000 in
theorem dkX8_isSign : pr_dk cX8_isSign (ab_lvs tX8_isSign) := by unfold pr_dk; decide +kernel
set_option maxRecDepth 20000 in
theorem dkX8_number : pr_dk cX8_number (ab_lvs tX8_number) := by unfold pr_dk; decide +kernel
set_option maxRecDepth 20000 in
theorem dkX8_plain : pr_dk cX8_plain (ab_lvs tX8_plain) := by unfold pr_dk; decide +kernel
set_option maxRecDepth 20000 in
theorem dkX8_copies : pr_dk cX8_copies (ab_lvs tX8_copies) := by unfold pr_dk; decide +kernel
set_option maxRecDepth 20000 in
theorem dkX8_keepText : pr_dk cX8_keepText (ab_lvs tX8_keepText) := by unfold pr_dk; decide +kernel
set_option maxRecDepth 20000 in
theorem dkX8_find : pr_dk cX8_find (ab_lvs tX8_find) := by unfold pr_dk; decide +kernel
set_option maxRecDepth 20000 in
theorem dkX8_grooveLine : pr_dk cX8_grooveLine (ab_lvs tX8_grooveLine) := by unfold pr_dk; decide +kernel
set_option maxRecDepth 20000 in
theorem dkX8_scratLine : pr_dk cX8_scratLine (ab_lvs tX8_scratLine) := by unfold pr_dk; decide +kernel
set_option maxRecDepth 20000 in
theorem dkX8_guestLine : pr_dk cX8_guestLine (ab_lvs tX8_guestLine) := by unfold pr_dk; decide +kernel
set_option maxRecDepth 20000 in
theorem dkX8_onceLine : pr_dk cX8_onceLine (ab_lvs tX8_onceLine) := by unfold pr_dk; decide +kernel
set_option maxRecDepth 20000 in
theorem dkX8_lineRead : pr_dk cX8_lineRead (ab_lvs tX8_lineRead) := by unfold pr_dk; decide +kernel
set_option maxRecDepth 20000 in
theorem dkX8_text : pr_dk cX8_text (ab_lvs tX8_text) := by unfold pr_dk; decide +kernel
set_option maxRecDepth 20000 in
theorem dkX8_fault : pr_dk cX8_fault (ab_lvs tX8_fault) := by unfold pr_dk; decide +kernel
set_option maxRecDepth 20000 in
theorem dkX8_named : pr_dk cX8_named (ab_lvs tX8_named) := by unfold pr_dk; decide +kernel
set_option maxRecDepth 20000 in
theorem dkX8_rank : pr_dk cX8_rank (ab_lvs tX8_rank) := by unfold pr_dk; decide +kernel
set_option maxRecDepth 20000 in
theorem dkX8_grown : pr_dk cX8_grown (ab_lvs tX8_grown) := by unfold pr_dk; decide +kernel
set_option maxRecDepth 20000 in
theorem dkX8_dropHeld : pr_dk cX8_dropHeld (ab_lvs tX8_dropHeld) := by unfold pr_dk; decide +kernel
set_option maxRecDepth 20000 in
theorem dkX8_bind : pr_dk cX8_bind (ab_lvs tX8_bind) := by unfold pr_dk; decide +kernel
set_option maxRecDepth 20000 in
theorem dkX8_isCounted : pr_dk cX8_isCounted (ab_lvs tX8_isCounted) := by unfold pr_dk; decide +kernel
set_option maxRecDepth 20000 in
theorem dkX8_waitsFor : pr_dk cX8_waitsFor (ab_lvs tX8_waitsFor) := by unfold pr_dk; decide +kernel
set_option maxRecDepth 20000 in
theorem dkX8_nameMet : pr_dk cX8_nameMet (ab_lvs tX8_nameMet) := by unfold pr_dk; decide +kernel
set_option maxRecDepth 20000 in
theorem dkX8_leafRead : pr_dk cX8_leafRead (ab_lvs tX8_leafRead) := by unfold pr_dk; decide +kernel
set_option maxRecDepth 20000 in
theorem dkX8_signs : pr_dk cX8_signs (ab_lvs tX8_signs) := by unfold pr_dk; decide +kernel
set_option maxRecDepth 20000 in
theorem dkX8_sumRead : pr_dk cX8_sumRead (ab_lvs tX8_sumRead) := by unfold pr_dk; decide +kernel
set_option maxRecDepth 20000 in
theorem dkX8_bounded : pr_dk cX8_bounded (ab_lvs tX8_bounded) := by unfold pr_dk; decide +kernel
set_option maxRecDepth 20000 in
theorem dkX8_compares : pr_dk cX8_compares (ab_lvs tX8_compares) := by unfold pr_dk; decide +kernel
set_option maxRecDepth 20000 in
theorem dkX8_times : pr_dk cX8_times (ab_lvs tX8_times) := by unfold pr_dk; decide +kernel
set_option maxRecDepth 20000 in
theorem dkX8_valueOf : pr_dk cX8_valueOf (ab_lvs tX8_valueOf) := by unfold pr_dk; decide +kernel
set_option maxRecDepth 20000 in
theorem dkX8_begin : pr_dk cX8_begin (ab_lvs tX8_begin) := by unfold pr_dk; decide +kernel
set_option maxRecDepth 20000 in
theorem dkX8_atFirst : pr_dk cX8_atFirst (ab_lvs tX8_atFirst) := by unfold pr_dk; decide +kernel
set_option maxRecDepth 20000 in
theorem dkX8_plainTried : pr_dk cX8_plainTried (ab_lvs tX8_plainTried) := by unfold pr_dk; decide +kernel
set_option maxRecDepth 20000 in
theorem dkX8_layTried : pr_dk cX8_layTried (ab_lvs tX8_layTried) := by unfold pr_dk; decide +kernel
set_option maxRecDepth 20000 in
theorem dkX8_isGroove : pr_dk cX8_isGroove (ab_lvs tX8_isGroove) := by unfold pr_dk; decide +kernel
set_option maxRecDepth 20000 in
theorem dkX8_isScratch : pr_dk cX8_isScratch (ab_lvs tX8_isScratch) := by unfold pr_dk; decide +kernel
set_option maxRecDepth 20000 in
theorem dkX8_isGuest : pr_dk cX8_isGuest (ab_lvs tX8_isGuest) := by unfold pr_dk; decide +kernel
set_option maxRecDepth 20000 in
theorem dkX8_layNames : pr_dk cX8_layNames (ab_lvs tX8_layNames) := by unfold pr_dk; decide +kernel
set_option maxRecDepth 20000 in
theorem dkX8_lawOf : pr_dk cX8_lawOf (ab_lvs tX8_lawOf) := by unfold pr_dk; decide +kernel
set_option maxRecDepth 20000 in
theorem dkX8_boundLaw : pr_dk cX8_boundLaw (ab_lvs tX8_boundLaw) := by unfold pr_dk; decide +kernel
set_option maxRecDepth 20000 in
theorem dkX8_backOf : pr_dk cX8_backOf (ab_lvs tX8_backOf) := by unfold pr_dk; decide +kernel
set_option maxRecDepth 20000 in
theorem dkX8_wearOf : pr_dk cX8_wearOf (ab_lvs tX8_wearOf) := by unfold pr_dk; decide +kernel
set_option maxRecDepth 20000 in
theorem dkX8_worthOf : pr_dk cX8_worthOf (ab_lvs tX8_worthOf) := by unfold pr_dk; decide +kernel
set_option maxRecDepth 20000 in
theorem dkX8_number1 : pr_dk cX8_number1 (ab_lvs tX8_number1) := by unfold pr_dk; decide +kernel
set_option maxRecDepth 20000 in
theorem dkX8_wayOf : pr_dk cX8_wayOf (ab_lvs tX8_wayOf) := by unfold pr_dk; decide +kernel
set_option maxRecDepth 20000 in
theorem dkX8_scratchIn : pr_dk cX8_scratchIn (ab_lvs tX8_scratchIn) := by unfold pr_dk; decide +kernel
set_option maxRecDepth 20000 in
theorem dkX8_puts : pr_dk cX8_puts (ab_lvs tX8_puts) := by unfold pr_dk; decide +kernel
set_option maxRecDepth 20000 in
theorem dkX8_passes : pr_dk cX8_passes (ab_lvs tX8_passes) := by unfold pr_dk; decide +kernel
set_option maxRecDepth 20000 in
theorem dkX8_nudges : pr_dk cX8_nudges (ab_lvs tX8_nudges) := by unfold pr_dk; decide +kernel
set_option maxRecDepth 20000 in
theorem dkX8_guestsRise : pr_dk cX8_guestsRise (ab_lvs tX8_guestsRise) := by unfold pr_dk; decide +kernel
set_option maxRecDepth 20000 in
theorem dkX8_playsOne : pr_dk cX8_playsOne (ab_lvs tX8_playsOne) := by unfold pr_dk; decide +kernel
set_option maxRecDepth 20000 in
theorem dkX8_fails : pr_dk cX8_fails (ab_lvs tX8_fails) := by unfold pr_dk; decide +kernel
set_option maxRecDepth 20000 in
theorem dkX8_groove : pr_dk cX8_groove (ab_lvs tX8_groove) := by unfold pr_dk; decide +kernel
set_option maxRecDepth 20000 in
theorem dkX8_scratch : pr_dk cX8_scratch (ab_lvs tX8_scratch) := by unfold pr_dk; decide +kernel
set_option maxRecDepth 20000 in
theorem dkX8_guest : pr_dk cX8_guest (ab_lvs tX8_guest) := by unfold pr_dk; decide +kernel
set_option maxRecDepth 20000 in
theorem dkX8_law : pr_dk cX8_law (ab_lvs tX8_law) := by unfold pr_dk; decide +kernel
set_option maxRecDepth 20000 in
theorem dkX8_weigh : pr_dk cX8_weigh (ab_lvs tX8_weigh) := by unfold pr_dk; decide +kernel
set_option maxRecDepth 20000 in
theorem dkX8_nudge : pr_dk cX8_nudge (ab_lvs tX8_nudge) := by unfold pr_dk; decide +kernel
set_option maxRecDepth 20000 in
theorem dkX8_anew : pr_dk cX8_anew (ab_lvs tX8_anew) := by unfold pr_dk; decide +kernel
set_option maxRecDepth 20000 in
theorem dkX8_go : pr_dk cX8_go (ab_lvs tX8_go) := by unfold pr_dk; decide +kernel
set_option maxRecDepth 20000 in
theorem dkX8_out : pr_dk cX8_out (ab_lvs tX8_out) := by unfold pr_dk; decide +kernel
set_option maxRecDepth 20000 in
theorem dkX8_loop : pr_dk cX8_loop (ab_lvs tX8_loop) := by unfold pr_dk; decide +kernel
set_option maxRecDepth 20000 in
theorem dkX8_powerOf : pr_dk cX8_powerOf (ab_lvs tX8_powerOf) := by unfold pr_dk; decide +kernel
set_option maxRecDepth 20000 in
theorem dkX8_likely : pr_dk cX8_likely (ab_lvs tX8_likely) := by unfold pr_dk; decide +kernel
set_option maxRecDepth 20000 in
theorem dkX8_outBy : pr_dk cX8_outBy (ab_lvs tX8_outBy) := by unfold pr_dk; decide +kernel
set_option maxRecDepth 20000 in
theorem dkX8_light : pr_dk cX8_light (ab_lvs tX8_light) := by unfold pr_dk; decide +kernel
set_option maxRecDepth 20000 in
theorem dkX8_when : pr_dk cX8_when (ab_lvs tX8_when) := by unfold pr_dk; decide +kernel
set_option maxRecDepth 20000 in
theorem dkX8_plays : pr_dk cX8_plays (ab_lvs tX8_plays) := by unfold pr_dk; decide +kernel
set_option maxRecDepth 20000 in
theorem dkX8_missed : pr_dk cX8_missed (ab_lvs tX8_missed) := by unfold pr_dk; decide +kernel
set_option maxRecDepth 20000 in
theorem dkX8_restAt : pr_dk cX8_restAt (ab_lvs tX8_restAt) := by unfold pr_dk; decide +kernel
set_option maxRecDepth 20000 in
theorem dkX8_areTwo : pr_dk cX8_areTwo (ab_lvs tX8_areTwo) := by unfold pr_dk; decide +kernel
set_option maxRecDepth 20000 in
theorem dkX8_rests : pr_dk cX8_rests (ab_lvs tX8_rests) := by unfold pr_dk; decide +kernel
set_option maxRecDepth 20000 in
theorem dkX8_rest : pr_dk cX8_rest (ab_lvs tX8_rest) := by unfold pr_dk; decide +kernel
set_option maxRecDepth 20000 in
theorem dkX8_needle : pr_dk cX8_needle (ab_lvs tX8_needle) := by unfold pr_dk; decide +kernel
set_option maxRecDepth 20000 in
theorem dkX8_most : pr_dk cX8_most (ab_lvs tX8_most) := by unfold pr_dk; decide +kernel
set_option maxRecDepth 20000 in
theorem dkX8_reaches : pr_dk cX8_reaches (ab_lvs tX8_reaches) := by unfold pr_dk; decide +kernel
set_option maxRecDepth 20000 in
theorem dkX8_bestBit : pr_dk cX8_bestBit (ab_lvs tX8_bestBit) := by unfold pr_dk; decide +kernel
set_option maxRecDepth 20000 in
theorem dkX8_heardBy : pr_dk cX8_heardBy (ab_lvs tX8_heardBy) := by unfold pr_dk; decide +kernel
set_option maxRecDepth 20000 in
theorem dkX8_rule : pr_dk cX8_rule (ab_lvs tX8_rule) := by unfold pr_dk; decide +kernel
set_option maxRecDepth 20000 in
theorem dkX8_bestRule : pr_dk cX8_bestRule (ab_lvs tX8_bestRule) := by unfold pr_dk; decide +kernel
set_option maxRecDepth 20000 in
theorem dkX8_gets : pr_dk cX8_gets (ab_lvs tX8_gets) := by unfold pr_dk; decide +kernel
set_option maxRecDepth 20000 in
theorem dkX8_tames : pr_dk cX8_tames (ab_lvs tX8_tames) := by unfold pr_dk; decide +kernel
set_option maxRecDepth 20000 in
theorem dkX8_noted : pr_dk cX8_noted (ab_lvs tX8_noted) := by unfold pr_dk; decide +kernel
set_option maxRecDepth 20000 in
theorem dkX8_tape : pr_dk cX8_tape (ab_lvs tX8_tape) := by unfold pr_dk; decide +kernel
set_option maxRecDepth 20000 in
theorem dkX8_strike : pr_dk cX8_strike (ab_lvs tX8_strike) := by unfold pr_dk; decide +kernel
set_option maxRecDepth 20000 in
theorem dkX8_known : pr_dk cX8_known (ab_lvs tX8_known) := by unfold pr_dk; decide +kernel
set_option maxRecDepth 20000 in
theorem dkX8_knownBy : pr_dk cX8_knownBy (ab_lvs tX8_knownBy) := by unfold pr_dk; decide +kernel
set_option maxRecDepth 20000 in
theorem dkX8_isSo : pr_dk cX8_isSo (ab_lvs tX8_isSo) := by unfold pr_dk; decide +kernel
set_option maxRecDepth 20000 in
theorem dkX8_fits : pr_dk cX8_fits (ab_lvs tX8_fits) := by unfold pr_dk; decide +kernel
set_option maxRecDepth 20000 in
theorem dkX8_threw : pr_dk cX8_threw (ab_lvs tX8_threw) := by unfold pr_dk; decide +kernel
set_option maxRecDepth 20000 in
theorem dkX8_chance : pr_dk cX8_chance (ab_lvs tX8_chance) := by unfold pr_dk; decide +kernel
set_option maxRecDepth 20000 in
theorem dkX8_tried : pr_dk cX8_tried (ab_lvs tX8_tried) := by unfold pr_dk; decide +kernel
set_option maxRecDepth 20000 in
theorem dkX8_remember : pr_dk cX8_remember (ab_lvs tX8_remember) := by unfold pr_dk; decide +kernel
set_option maxRecDepth 20000 in
theorem dkX8_undo : pr_dk cX8_undo (ab_lvs tX8_undo) := by unfold pr_dk; decide +kernel
set_option maxRecDepth 20000 in
theorem dkX8_keep : pr_dk cX8_keep (ab_lvs tX8_keep) := by unfold pr_dk; decide +kernel
set_option maxRecDepth 20000 in
theorem dkX8_back : pr_dk cX8_back (ab_lvs tX8_back) := by unfold pr_dk; decide +kernel
set_option maxRecDepth 20000 in
theorem dkX8_count : pr_dk cX8_count (ab_lvs tX8_count) := by unfold pr_dk; decide +kernel
