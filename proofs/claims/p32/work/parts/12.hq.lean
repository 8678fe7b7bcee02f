section SMI
variable {p : Program} {l : Launch} {e : Env} {R : Room} {s : State} {m : MethodId} {args : Array Value} {below : List Frame} {meth : Method} {c : Code} {H : Heap} {locs : List Loc} {cells slots : Nat} {Q : State → Prop}
variable {cc : ByteArray} {pc ml pc' : Nat} {ls : Array Slot} {E : Nat → Nat} {ad : List Nat} {st st' : List Value} {h h' : List sm_C} {D : va_G} {G : Nat → ClassId} {A : Nat → Prop} {Ts : List Cond} {own : String} {ini : Bool} {ro : Nat → List Int32} {dt : List Nat}
/-- what is only read: the j-th is an int array of the numbers ro j -/
def sm_ro (E : Nat → Nat) (ro : Nat → List Int32) (A : Nat → Prop) (U : State) (H : Heap) : Prop := ∀ j, ro j ≠ [] ∨ j = 1 → va_T .int (E j) (ro j).length (fun k => .int ((ro j).getD k 0)) A U H
theorem sm_tld (hx : p.tables.exec = Jvm.exec) (hb : c.code = cc) {j : Nat} (hR : sm_ro E ro A s s.heap) (hS : va_S A s.heap H locs) {i : Int32} {r : List Value} (hin : ¬ (i < 0 ∨ (ro j).length ≤ i.toNatClampNeg)) (hdg : decode cc pc = .ok (.iaload, 1))
    (k : W p l e R s m args below meth c H locs cells slots Q (F0 m (pc + 1) ls (.int ((ro j).getD i.toNatClampNeg 0) :: r))) : W p l e R s m args below meth c H locs cells slots Q (F0 m pc ls (.int i :: .ref (E j) :: r)) := by
  have h0 : ro j ≠ [] := fun q => hin (Or.inr (by rw [q]; exact Nat.zero_le _))
  obtain ⟨cell, h1, h2, h3, h4, h5, h6, h7⟩ := hR j (Or.inl h0)
  have hlt : i.toNatClampNeg < (ro j).length := Nat.not_le.mp fun q => hin (Or.inr q)
  exact W.iald (v := .int ((ro j).getD i.toNatClampNeg 0)) hx hb (by rw [hS.2.1 (E j) (Array.getElem?_eq_some_iff.mp h1).1 h7]; exact h1) h2 h3 (fun q => hin (q.imp id (fun z => Nat.le_trans h4 z))) (h6 _ hlt) rfl rfl hdg k
theorem sm_tln (hx : p.tables.exec = Jvm.exec) (hb : c.code = cc) {j : Nat} (hR : sm_ro E ro A s s.heap) (hS : va_S A s.heap H locs) {r : List Value} (h0 : ro j ≠ [] ∨ j = 1) (hdg : decode cc pc = .ok (.arraylength, 1))
    (k : W p l e R s m args below meth c H locs cells slots Q (F0 m (pc + 1) ls (.int (Int32.ofNat (ro j).length) :: r))) : W p l e R s m args below meth c H locs cells slots Q (F0 m pc ls (.ref (E j) :: r)) := by
  obtain ⟨cell, h1, h2, h3, h4, h5, h6, h7⟩ := hR j h0
  exact W.alen (n := Int32.ofNat (ro j).length) hx hb (by rw [hS.2.1 (E j) (Array.getElem?_eq_some_iff.mp h1).1 h7]; exact h1) h2 h5 rfl rfl hdg k
theorem sm_ald (hx : p.tables.exec = Jvm.exec) (hb : c.code = cc) (hK : va_K D vwCl (sm_ty G) s) (hP : va_P D vwCl (sm_w G E ad h) H) {a q0 n : Nat} {f : Nat → Option Nat} (ha : (sm_w G E ad h)[q0]? = some (a, .inl (G 4, n, .inr (.inr (.inr (.inr f)))))) {i : Int32} {r : List Value} (hin : vp_in i n) (hdg : decode cc pc = .ok (.aaload, 1))
    (kk : W p l e R s m args below meth c H locs cells slots Q (F0 m (pc + 1) ls (va_rf (f i.toNatClampNeg) :: r))) : W p l e R s m args below meth c H locs cells slots Q (F0 m pc ls (.int i :: .ref a :: r)) := by
  have hlt : i.toNatClampNeg < n := Nat.not_le.mp fun q => hin (Or.inr q)
  exact W.aald (v := va_rf (f i.toNatClampNeg)) (ty := .array .int) hx hb (hP q0 _ ha) ((hK.2 4 (G 4, .array .int) rfl).1 n (fun j => va_rf (f j))) rfl (fun q => by cases q) (by show ¬ (i < 0 ∨ (arrV _ _ _).slots.size ≤ _); rw [arrV_size]; exact hin) (by show (arrV _ _ _).slots[_]? = _; rw [arrV_read _ _ hlt]) rfl rfl hdg kk
/-- a step at the cells is the machine's -/
theorem sm_hp_ok (hC : sm_clok) (hx : p.tables.exec = Jvm.exec) (hb : c.code = cc) (hts : ∀ w ∈ Ts, w.before args s = true) (hTs : ∀ w ∈ sm_all, w ∈ Ts) (hown : s.vm.findClass own = some m.cls) (hi : ini = true → meth.name = "<init>") (hK : va_K D vwCl (sm_ty G) s) (hN : nw_ok s) (hR : sm_ro E ro A s s.heap) (hT : own = RX3 → ∃ tx, vk_R RX3 58 tx (E 0) s) (hZ : va_Z RX7 "RANKS" "[I" (.ref (E 2)) A s s.heap) (hP : va_P D vwCl (sm_w G E ad h) H) (hD : va_D A (sm_w G E ad h)) (hS : va_S A s.heap H locs) (hn : ad.length = h.length)
    {i : Instr} {len : Nat} (hdg : decode cc pc = .ok (i, len)) (hlen : sm_len i = 0 ∨ len = sm_len i) (hln : sm_lh own ini i dt) (hs : sm_hp ro i dt pc st h = some (pc', st', h'))
    (K : ∀ (H : Heap) (locs : List Loc), va_P D vwCl (sm_w G E ad h') H → va_D A (sm_w G E ad h') → va_S A s.heap H locs → ad.length = h'.length → W p l e R s m args below meth c H locs cells slots Q (F0 m pc' ls (st'.map (sm_tr E ad)))) : W p l e R s m args below meth c H locs cells slots Q (F0 m pc ls (st.map (sm_tr E ad))) := by
  cases i
  case getfield idx =>
    obtain rfl := hlen.resolve_left (by intro q; cases q)
    exact sm_gf_ok hC hx hb hts hTs hown hK hN hP hn hdg hln hs (fun q => by subst q; exact K H locs hP hD hS hn)
  case putfield idx =>
    obtain rfl := hlen.resolve_left (by intro q; cases q)
    exact sm_pf_ok hC hx hb hts hTs hown hi hK hN hP hD hS hn hdg hln hs K
  case iaload =>
    obtain rfl := hlen.resolve_left (by intro q; cases q)
    unfold sm_hp sm_il at hs
    dsimp only at hs
    split at hs
    · next i a r =>
      split at hs
      · next q hq =>
        obtain ⟨kd, fs⟩ := q
        split at hs
        · next h6 =>
          obtain ⟨h6, h7⟩ := h6
          dsimp only at h6 h7
          obtain rfl : kd = 100 := by simpa using h6
          cases hs
          have he := sm_w_at (G := G) (E := E) hn hq
          rw [sm_e_i] at he
          exact va_iald hx hb hK hP a 0 he rfl h7 hdg (K H locs hP hD hS hn)
        · cases hs
      · cases hs
    · next i j r =>
      split at hs
      · next h6 =>
        cases hs
        exact sm_tld hx hb hR hS h6.2 hdg (K H locs hP hD hS hn)
      · cases hs
    · cases hs
  case baload =>
    obtain rfl := hlen.resolve_left (by intro q; cases q)
    unfold sm_hp sm_il at hs
    dsimp only at hs
    split at hs
    · next i a r =>
      split at hs
      · next q hq =>
        obtain ⟨kd, fs⟩ := q
        split at hs
        · next h6 =>
          obtain ⟨h6, h7⟩ := h6
          dsimp only at h6 h7
          cases hs
          have he := sm_w_at (G := G) (E := E) hn hq
          rcases (by simpa using h6 : kd = 101 ∨ kd = 102) with rfl | rfl
          · rw [sm_e_b] at he
            exact va_bald hx hb hK hP a 1 he rfl h7 hdg (K H locs hP hD hS hn)
          · rw [sm_e_z] at he
            exact va_zald hx hb hK hP a 2 he rfl h7 hdg (K H locs hP hD hS hn)
        · cases hs
      · cases hs
    · next i j r =>
      split at hs
      · next h6 => exact absurd h6.1 (by decide)
      · cases hs
    · cases hs
  case laload =>
    obtain rfl := hlen.resolve_left (by intro q; cases q)
    unfold sm_hp sm_jl at hs
    dsimp only at hs
    split at hs
    · next i a r =>
      split at hs
      · next q hq =>
        obtain ⟨kd, fs⟩ := q
        split at hs
        · next h6 =>
          obtain ⟨h6, h7⟩ := h6
          dsimp only at h6 h7
          subst h6
          cases hs
          have he := sm_w_at (G := G) (E := E) hn hq
          rw [sm_e_l] at he
          exact va_lald hx hb hK hP a 3 he rfl h7 hdg (K H locs hP hD hS hn)
        · cases hs
      · cases hs
    · cases hs
  case aaload =>
    obtain rfl := hlen.resolve_left (by intro q; cases q)
    unfold sm_hp sm_al at hs
    dsimp only at hs
    split at hs
    · next i a r =>
      split at hs
      · next q hq =>
        obtain ⟨kd, fs⟩ := q
        split at hs
        · next h6 =>
          obtain ⟨h6, h7⟩ := h6
          dsimp only at h6 h7
          subst h6
          split at hs
          · next z hz =>
            cases hs
            have he := sm_w_at (G := G) (E := E) hn hq
            rw [sm_e_a] at he
            refine sm_ald hx hb hK hP he h7 hdg ?_
            rw [hz]
            exact K H locs hP hD hS hn
          · cases hs
        · cases hs
      · cases hs
    · cases hs
  case iastore =>
    obtain rfl := hlen.resolve_left (by intro q; cases q)
    unfold sm_hp sm_is at hs
    dsimp only at hs
    split at hs
    · next x i a r =>
      split at hs
      · next q hq =>
        obtain ⟨kd, fs⟩ := q
        split at hs
        · next h6 =>
          obtain ⟨h6, h7⟩ := h6
          dsimp only at h6 h7
          obtain rfl : kd = 100 := by simpa using h6
          cases hs
          have he := sm_w_at (G := G) (E := E) hn hq
          rw [sm_e_i] at he
          have hlt : i.toNatClampNeg < fs.length := Nat.not_le.mp fun q => h7 (Or.inr q)
          have e1 : (sm_w G E ad h).set a (ad.getD a 0, .inl (G 0, fs.length, .inl (upd (fun j => sm_ival (fs.getD j .null)) i.toNatClampNeg x))) = sm_w G E ad (h.set a (100, fs.set i.toNatClampNeg (.int x))) := by
            rw [← sm_w_set, sm_e_i, sm_upd _ _ _ hlt, List.length_set]
          refine va_iast hx hb hK hP hD hS a 0 he rfl h7 hdg (fun H1 l1 z1 z2 z3 => ?_)
          rw [e1] at z1 z2
          exact K H1 l1 z1 z2 z3 (by rw [List.length_set]; exact hn)
        · cases hs
      · cases hs
    · cases hs
  case bastore =>
    obtain rfl := hlen.resolve_left (by intro q; cases q)
    unfold sm_hp sm_is at hs
    dsimp only at hs
    split at hs
    · next x i a r =>
      split at hs
      · next q hq =>
        obtain ⟨kd, fs⟩ := q
        split at hs
        · next h6 =>
          obtain ⟨h6, h7⟩ := h6
          dsimp only at h6 h7
          cases hs
          have he := sm_w_at (G := G) (E := E) hn hq
          have hlt : i.toNatClampNeg < fs.length := Nat.not_le.mp fun q => h7 (Or.inr q)
          rcases (by simpa using h6 : kd = 101 ∨ kd = 102) with rfl | rfl
          · rw [sm_e_b] at he
            have e1 : (sm_w G E ad h).set a (ad.getD a 0, .inl (G 1, fs.length, .inl (upd (fun j => sm_ival (fs.getD j .null)) i.toNatClampNeg (vp_nar .byte x)))) = sm_w G E ad (h.set a (101, fs.set i.toNatClampNeg (.int (vp_nar .byte x)))) := by
              rw [← sm_w_set, sm_e_b, sm_upd _ _ _ hlt, List.length_set]
            refine va_bast hx hb hK hP hD hS a 1 he rfl h7 hdg (fun H1 l1 z1 z2 z3 => ?_)
            rw [e1] at z1 z2
            exact K H1 l1 z1 z2 z3 (by rw [List.length_set]; exact hn)
          · rw [sm_e_z] at he
            have e1 : (sm_w G E ad h).set a (ad.getD a 0, .inl (G 2, fs.length, .inl (upd (fun j => sm_ival (fs.getD j .null)) i.toNatClampNeg (vp_nar .boolean x)))) = sm_w G E ad (h.set a (102, fs.set i.toNatClampNeg (.int (vp_nar .boolean x)))) := by
              rw [← sm_w_set, sm_e_z, sm_upd _ _ _ hlt, List.length_set]
            refine va_zast hx hb hK hP hD hS a 2 he rfl h7 hdg (fun H1 l1 z1 z2 z3 => ?_)
            rw [e1] at z1 z2
            exact K H1 l1 z1 z2 z3 (by rw [List.length_set]; exact hn)
        · cases hs
      · cases hs
    · cases hs
  case lastore =>
    obtain rfl := hlen.resolve_left (by intro q; cases q)
    unfold sm_hp sm_js at hs
    dsimp only at hs
    split at hs
    · next x i a r =>
      split at hs
      · next q hq =>
        obtain ⟨kd, fs⟩ := q
        split at hs
        · next h6 =>
          obtain ⟨h6, h7⟩ := h6
          dsimp only at h6 h7
          subst h6
          cases hs
          have he := sm_w_at (G := G) (E := E) hn hq
          rw [sm_e_l] at he
          have hlt : i.toNatClampNeg < fs.length := Nat.not_le.mp fun q => h7 (Or.inr q)
          have e1 : (sm_w G E ad h).set a (ad.getD a 0, .inl (G 3, fs.length, .inr (.inl (vp_updL (fun j => sm_lval (fs.getD j .null)) i.toNatClampNeg x)))) = sm_w G E ad (h.set a (103, fs.set i.toNatClampNeg (.long x))) := by
            rw [← sm_w_set, sm_e_l, sm_updL _ _ _ hlt, List.length_set]
          refine va_last hx hb hK hP hD hS a 3 he rfl h7 hdg (fun H1 l1 z1 z2 z3 => ?_)
          rw [e1] at z1 z2
          exact K H1 l1 z1 z2 z3 (by rw [List.length_set]; exact hn)
        · cases hs
      · cases hs
    · cases hs
  case arraylength =>
    obtain rfl := hlen.resolve_left (by intro q; cases q)
    unfold sm_hp sm_ln at hs
    dsimp only at hs
    split at hs
    · next a r =>
      split at hs
      · next q hq =>
        obtain ⟨kd, fs⟩ := q
        split at hs
        · next h6 =>
          dsimp only at h6
          cases hs
          have he := sm_w_at (G := G) (E := E) hn hq
          rcases (by omega : kd = 100 ∨ kd = 101 ∨ kd = 102 ∨ kd = 103 ∨ kd = 104) with rfl | rfl | rfl | rfl | rfl
          · rw [sm_e_i] at he
            exact va_alen hx hb hK hP a 0 he (ty := .int) rfl rfl hdg (K H locs hP hD hS hn)
          · rw [sm_e_b] at he
            exact va_alen hx hb hK hP a 1 he (ty := .byte) rfl rfl hdg (K H locs hP hD hS hn)
          · rw [sm_e_z] at he
            exact va_alen hx hb hK hP a 2 he (ty := .boolean) rfl rfl hdg (K H locs hP hD hS hn)
          · rw [sm_e_l] at he
            exact va_alen hx hb hK hP a 3 he (ty := .long) rfl rfl hdg (K H locs hP hD hS hn)
          · rw [sm_e_a] at he
            exact va_alen hx hb hK hP a 4 he (ty := .array .int) rfl rfl hdg (K H locs hP hD hS hn)
        · cases hs
      · cases hs
    · next j r =>
      split at hs
      · next h0 =>
        cases hs
        exact sm_tln hx hb hR hS h0 hdg (K H locs hP hD hS hn)
      · cases hs
    · cases hs
  case ldc idx =>
    obtain rfl := hlen.resolve_left (by intro q; cases q)
    unfold sm_hp sm_ko at hs
    dsimp only at hs
    obtain ⟨g1, g2, g3⟩ := hln
    split at hs
    · next x =>
      cases hs
      exact lv_ldc hx hb hown (hts _ (hTs _ (g1 x rfl))) hdg (K H locs hP hD hS hn)
    · next x =>
      cases hs
      obtain ⟨q1, q2, q3⟩ := g2 x rfl
      subst q2; subst q3
      obtain ⟨tx, hq⟩ := hT q1
      subst q1
      exact va_ldcS hx hb hown hq hdg (K H locs hP hD hS hn)
    · next x => exact absurd rfl (g3 x)
    · cases hs
  case ldc_w idx =>
    obtain rfl := hlen.resolve_left (by intro q; cases q)
    unfold sm_hp sm_ko at hs
    dsimp only at hs
    obtain ⟨g1, g2, g3⟩ := hln
    split at hs
    · next x =>
      cases hs
      exact lv_ldcw hx hb hown (hts _ (hTs _ (g1 x rfl))) hdg (K H locs hP hD hS hn)
    · next x => exact absurd rfl (g2 x)
    · next x => exact absurd rfl (g3 x)
    · cases hs
  case getstatic idx =>
    obtain rfl := hlen.resolve_left (by intro q; cases q)
    unfold sm_hp sm_ko at hs
    dsimp only at hs
    obtain ⟨g1, g2, g3⟩ := hln
    split at hs
    · next x => exact absurd rfl (g2 x)
    · next x =>
      cases hs
      obtain ⟨q1, q2, q3⟩ := g1 x rfl
      subst q1; subst q2; subst q3
      exact va_getsN hx hb hZ hS hown (sm_nest_f (r := RX7) (n := "RANKS") (d := "[I") (host := RX7) hN (by decide +kernel)) (fun _ z => z) hdg (K H locs hP hD hS hn)
    · next x => exact absurd rfl (g3 x)
    · cases hs
  case ldc2_w idx =>
    obtain rfl := hlen.resolve_left (by intro q; cases q)
    unfold sm_hp sm_ko at hs
    dsimp only at hs
    obtain ⟨g1, g2, g3⟩ := hln
    split at hs
    · next x => exact absurd rfl (g2 x)
    · next x => exact absurd rfl (g3 x)
    · next x =>
      cases hs
      exact lv_ldc2 hx hb hown (hts _ (hTs _ (g1 x rfl))) hdg (K H locs hP hD hS hn)
    · cases hs
  all_goals (exact absurd hs (by intro q; cases q))
end SMI
