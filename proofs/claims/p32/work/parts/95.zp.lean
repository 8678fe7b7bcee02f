/-! What bounds say of a path is so. -/
section ZP
variable {L : wL} {G : zE → Prop} {GR : List zCe} {ηs : zE} {E : ab_E} {al : zAl} {n : Nat} {m : zMm} {F : zFc} {m0 : zMm} {dr : List zCe} {ρ : List Int} {η : zE}
theorem zJ_E {E' : ab_E} (h : zJ L G ηs ρ η E al n m F m0 dr) (h' : ab_ok ρ E') : zJ L G ηs ρ η E' al n m F m0 dr := ⟨h', h.2⟩
theorem zJ_rd {r j : Nat} {a : zA} (h : zJ L G ηs ρ η E al n m F m0 dr) (ha : zAk ρ (η r j) a) : zJ L G ηs (ρ ++ [η r j]) η (zpE E n a) (zpA al n a) (n + 1) ((r, j, n, 0) :: m) F (bif zin2 dr r j then m0 else (r, j, n, 0) :: m0) dr := by
  obtain ⟨h1, h2, h3, h4, h5, h6, h7, h8⟩ := zp_ok h ha
  have hn := h.2.1
  have e : (ρ ++ [η r j]).getD n 0 = η r j := by rw [hn, ab_getD_new]
  have hl : n < (ρ ++ [η r j]).length := by rw [List.length_append, hn]; exact Nat.lt_succ_self _
  refine ⟨h1, h2, h3, fun x hx => ?_, h5, h6, fun x hx => ?_, h8⟩
  · rcases List.mem_cons.mp hx with rfl | hx
    · exact ⟨hl, by dsimp only; rw [e, Int.add_zero]⟩
    · exact h4 x hx
  · cases hd : zin2 dr r j with
    | true =>
      rw [hd] at hx
      exact h7 x hx
    | false =>
      rw [hd] at hx
      rcases List.mem_cons.mp hx with rfl | hx
      · refine ⟨hl, ?_⟩
        dsimp only
        rw [e, Int.add_zero, h8 r j hd]
      · exact h7 x hx
theorem zJ_wr {r : Nat} {q : Nat × Int} {z : Int × Int} {w : Nat × Nat} {p : Nat × Int} (hG : zGk G GR) (h : zJ L G ηs ρ η E al n m F m0 dr) (hw : zbe E p = some w) (hz : ab_rg E q = some z) (hk : wk L GR r w.1 w.2 z = true) (f : Nat × Nat → Bool) (hf : ∀ x, f x = true → ¬ (x.1 = r ∧ x.2 = (ρ.getD p.1 0 + p.2).toNat)) (d : zCe) (hd : d.1 = r ∧ (d.2 = 0 ∨ d.2 = (ρ.getD p.1 0 + p.2).toNat + 1)) (dr' : List zCe) (hdr : ∀ x y, zin2 dr' x y = false → zin2 (d :: dr) x y = false) (m1 : zMm) (hm1 : ∀ e ∈ m1, e.1 = r ∧ e.2.1 = (ρ.getD p.1 0 + p.2).toNat ∧ e.2.2 = q) : zJ L G ηs ρ (zup η r (ρ.getD p.1 0 + p.2).toNat (ρ.getD q.1 0 + q.2)) E al n (m1 ++ m.filter (fun e => f (e.1, e.2.1))) (F.filter (fun e => f (e.1, e.2.1))) m0 dr' := by
  obtain ⟨h1, h2, h3, h4, h5, h6, h7, h8⟩ := h
  have a := zbe_ok h1 hw
  have b := ab_rg_ok h1 hz
  have old : ∀ x y, f (x, y) = true → zup η r (ρ.getD p.1 0 + p.2).toNat (ρ.getD q.1 0 + q.2) x y = η x y := fun x y g => by
    unfold zup
    rw [if_neg (hf _ g)]
  refine ⟨h1, h2, h3, fun e he => ?_, wk_ok hG h5 hk a.1 a.2 b.2.1 b.2.2, fun e he => ?_, h7, fun x y hx => ?_⟩
  · rcases List.mem_append.mp he with he | he
    · obtain ⟨e1, e2, e3⟩ := hm1 e he
      rw [e1, e2, e3]
      refine ⟨b.1, ?_⟩
      unfold zup
      rw [if_pos ⟨rfl, rfl⟩]
    · have g := List.mem_filter.mp he
      rw [old _ _ g.2]
      exact h4 e g.1
  · have g := List.mem_filter.mp he
    rw [old _ _ g.2]
    exact h6 e g.1
  · have g := zin2_cons (hdr x y hx)
    rw [← h8 x y g.1]
    unfold zup
    rw [if_neg (fun e => g.2 ⟨hd.1.trans e.1.symm, by rw [e.2]; exact hd.2⟩)]
theorem zJ_cl {y : Int} {η' : zE} {rb : Int × Int} {fs : zFc} {rl : zRl} {md : List zCe} {xs : List Int} (h : zJ L G ηs ρ η E al n m F m0 dr) (hq : sQ L G (rb, fs, rl) md xs η y η') : zJ L G ηs (ρ ++ [y]) η' (zpE E n (.inr rb)) (zpA al n (.inr rb)) (n + 1) (m.filter (fun q => !(zin2 md q.1 q.2.1))) (fs ++ F.filter (fun q => !(zin2 md q.1 q.2.1))) m0 (md ++ dr) := by
  obtain ⟨q1, q2, q3, q4, _⟩ := hq
  obtain ⟨h1, h2, h3, h4, h5, h6, h7, h8⟩ := zp_ok (a := .inr rb) h q2
  have old : ∀ r j, (!(zin2 md r j)) = true → η' r j = η r j := fun r j g => q4 r j (zin2_not g)
  refine ⟨h1, h2, h3, fun e he => ?_, q1, fun e he => ?_, h7, fun r j hr => ?_⟩
  · have g := List.mem_filter.mp he
    rw [old _ _ g.2]
    exact h4 e g.1
  · rcases List.mem_append.mp he with he | he
    · exact q3 e he
    · have g := List.mem_filter.mp he
      rw [old _ _ g.2]
      exact h6 e g.1
  · have hr : (md ++ dr).any _ = false := hr
    rw [List.any_append] at hr
    have g := Bool.or_eq_false_iff.mp hr
    rw [q4 r j g.1]
    exact h8 r j g.2
theorem zup_off {η : zE} {q r j y : Nat} {x : Int} (h : (!(Nat.beq q r)) = true) : zup η r j x q y = η q y := by
  unfold zup
  rw [if_neg (fun e => by rw [e.1, Nat.beq_refl] at h; cases h)]
theorem zi_ok {ro : Nat → List Int32} {C : zCt} {I : Nat → List Int → zE → Prop} {M : Nat → List Int → zE → Nat} {Q : Nat → Int → zE → Prop} {μ : Nat} {cs : List zCs} {iv : List zIv} {po : List zPo} {en : Bool} {xs0 : List Int} {mods : List zCe} {n0 : Nat} {e0 : zMe} {ys0 : List Int} {η0 : zE} (hG : zGk G GR) (hC1 : ∀ c e, cs.find? (fun e => Nat.beq e.1 c) = some e → ∀ xs η, sP L G e.2.1 xs η → (C c).1 xs η) (hC2 : ∀ c e, cs.find? (fun e => Nat.beq e.1 c) = some e → ∀ xs η y η', (C c).2 xs η y η' → sQ L G e.2.2.1 e.2.2.2 xs η y η') (hI : ∀ c e, iv.find? (fun e => Nat.beq e.1 c) = some e → ∀ ys η, sP L G e.2.1 ys η → zFm mods η0 η → I c ys η) (hM : ∀ c e, iv.find? (fun e => Nat.beq e.1 c) = some e → ∀ ys η, M c ys η = (sMv e.2.2 ys η).toNat) (hμ : μ = (sMv e0 ys0 ηs).toNat) (hQ : ∀ c o, po[c]? = some o → ∀ y η, sQ L G o mods xs0 η0 y η → Q c y η) (hxs : en = true → xs0 = ys0) (h0 : zFm mods η0 ηs) :
    ∀ (ts : List zK) (cr : zCr) (ms : zMs) (cm : zCm) (ρ : List Int) (η : zE) (E : ab_E) (al : zAl) (n : Nat) (m : zMm) (F : zFc) (m0 : zMm) (dr : List zCe), zJ L G ηs ρ η E al n m F m0 dr → zKr ρ cr → zKs ρ η ms → zKc ρ cm → n0 < ρ.length → (∀ a, a < n0 → ρ.getD (a + 1) 0 = ys0.getD a 0) → zi L GR cs iv po en mods n0 e0 ts cr ms cm E al n m F m0 dr = true → zden ro C I M Q μ ts ρ η
  | [], _, _, _, _, _, _, _, _, _, _, _, _, _, _, _, _, _, _, _ => trivial
  | (k, c, vs) :: r, cr, ms, cm, ρ, η, E, al, n, m, F, m0, dr, h, hcr, hms, hcm, hn0, hy, hq => by
    have nx0 : ∀ (cr : zCr) (ms : zMs) (cm : zCm) (x : Int) (η : zE) (E : ab_E) (al : zAl) (n : Nat) (m : zMm) (F : zFc) (m0 : zMm) (dr : List zCe), zJ L G ηs (ρ ++ [x]) η E al n m F m0 dr → zKr (ρ ++ [x]) cr → zKs (ρ ++ [x]) η ms → zKc (ρ ++ [x]) cm → zi L GR cs iv po en mods n0 e0 r cr ms cm E al n m F m0 dr = true → zden ro C I M Q μ r (ρ ++ [x]) η := fun cr ms cm x η E al n m F m0 dr h1 hr1 hs1 hc1 h2 => zi_ok hG hC1 hC2 hI hM hμ hQ hxs h0 r _ _ _ _ _ _ _ _ _ _ _ _ h1 hr1 hs1 hc1 (by rw [List.length_append]; omega) (fun a ha => by rw [ab_getD_app (by omega)]; exact hy a ha) h2
    have nx : ∀ (x : Int) (E : ab_E) (al : zAl) (n : Nat) (m : zMm) (F : zFc) (m0 : zMm) (dr : List zCe), zJ L G ηs (ρ ++ [x]) η E al n m F m0 dr → zi L GR cs iv po en mods n0 e0 r cr ms cm E al n m F m0 dr = true → zden ro C I M Q μ r (ρ ++ [x]) η := fun x E al n m F m0 dr h1 h2 => nx0 cr ms cm x η E al n m F m0 dr h1 (zKr_app hcr) (zKs_app hms) (zKc_app hcm) h2
    unfold zi at hq
    split at hq
    · intro x hx
      rw [hx, zt_ok h (za vs 0), zt_ok h (za vs 1)]
      exact nx _ _ _ _ _ _ _ _ (zp_ok h (zop_ok h.1)) hq
    · intro x hx
      rw [hx, zt_ok h (za vs 0), zt_ok h (za vs 1)]
      exact nx _ _ _ _ _ _ _ _ (zp_ok h (zop_ok h.1)) hq
    · intro x hx
      rw [hx, zt_ok h (za vs 0), zt_ok h (za vs 1)]
      exact nx _ _ _ _ _ _ _ _ (zp_ok h (zop_ok h.1)) hq
    · intro x hx
      rw [hx, zt_ok h (za vs 0), zt_ok h (za vs 1)]
      exact nx0 _ _ _ _ _ _ _ _ _ _ _ _ (zp_ok h (zop_ok h.1)) (zKr_app hcr) (zKs_app hms) (zcm1_ok h.1 hcm h.2.1) hq
    · intro x hx hok
      have g := (Bool.and_eq_true _ _).mp hq
      have g2 := g.2
      rw [zt_ok h (za vs 1)] at hx
      split at g2
      · next j hj =>
        have ej := zsu_ok h.1 hj
        rw [ej] at hx
        split at g2
        · next v hv =>
          have h1 := h.2.2.2.1 _ (zmf_mem hv)
          exact nx _ _ _ _ _ _ _ _ (zp_ok (a := .inl v) h ⟨h1.1, by rw [hx]; exact h1.2⟩) g2
        · rw [hx]
          exact nx _ _ _ _ _ _ _ _ (zJ_rd h (zlo1_ok h g.1 (by rw [← hx]; exact hok))) g2
      · split at g2
        · next v hv =>
          have h1 := zmsf_ok hms hv
          exact nx _ _ _ _ _ _ _ _ (zp_ok (a := .inl v) h ⟨h1.1, by rw [hx]; exact h1.2⟩) g2
        · rw [hx]
          exact nx0 _ _ _ _ _ _ _ _ _ _ _ _ (zp_ok h (zlo2_ok h g.1 (by rw [← hx]; exact hok))) (zKr_app hcr) (zms1_ok h.1 hms h.2.1) (zKc_app hcm) g2
    · intro η' hη
      rw [zt_ok h (za vs 1), zt_ok h (za vs 2)] at hη
      split at hq
      · next w z hw hz =>
        have g := (Bool.and_eq_true _ _).mp hq
        have g2 := g.2
        rw [hη]
        split at g2
        · next j hj =>
          have ej := zsu_ok h.1 hj
          refine zi_ok hG hC1 hC2 hI hM hμ hQ hxs h0 r _ _ _ _ _ _ _ _ _ _ _ _ (zJ_wr hG h hw hz g.1 (fun x => !(Nat.beq x.1 (za vs 0).1 && Nat.beq x.2 j)) (fun x hx e => ?_) ((za vs 0).1, j + 1) ⟨rfl, Or.inr (by rw [ej])⟩ _ (fun x y hb => ?_) [((za vs 0).1, j, zt al (za vs 2))] (fun e he => ?_)) hcr (zKs_fil (f := fun q => !(Nat.beq q (za vs 0).1)) hms (fun q _ hq => zup_off hq)) hcm hn0 hy g2
          · rw [ej] at e
            rw [e.1, e.2, Nat.beq_refl, Nat.beq_refl] at hx
            cases hx
          · cases hz2 : zin2 dr (za vs 0).1 j with
            | false => rw [hz2] at hb; exact hb
            | true =>
              rw [hz2] at hb
              have hb : zin2 dr x y = false := hb
              refine Bool.eq_false_iff.mpr (fun w => ?_)
              obtain ⟨q, m1, m2, m3⟩ := zin2_mem w
              rcases List.mem_cons.mp m1 with rfl | m1
              · dsimp only at m2 m3
                have ey : y = j := by omega
                rw [← m2, ey, hz2] at hb
                cases hb
              · rw [zin2_of m1 m2 m3] at hb
                cases hb
          · rcases List.mem_singleton.mp he with rfl
            exact ⟨rfl, ej.symm, rfl⟩
        · refine zi_ok hG hC1 hC2 hI hM hμ hQ hxs h0 r _ _ _ _ _ _ _ _ _ _ _ _ (zJ_wr hG h hw hz g.1 (fun x => !(Nat.beq x.1 (za vs 0).1)) (fun x hx e => ?_) ((za vs 0).1, 0) ⟨rfl, Or.inl rfl⟩ _ (fun x y hb => hb) [] (fun e he => by cases he)) hcr (zKs_fil (f := fun q => !(Nat.beq q (za vs 0).1)) hms (fun q _ hq => zup_off hq)) hcm hn0 hy g2
          rw [e.1, Nat.beq_refl] at hx
          cases hx
      · cases hq
    · intro hc
      rw [zt_ok h (za vs 0), zt_ok h (za vs 1)] at hc
      have hc0 := hc
      have hc := zcf_ok.mp hc
      rcases (Bool.or_eq_true _ _).mp hq with g | g
      · exact absurd hc (ab_ng_iff.mp (ab_dt_ok h.1 g))
      have hE := ab_at_ok h.1 hc
      rcases (Bool.or_eq_true _ _).mp g with g | g
      · rw [ab_no_ok hE] at g
        cases g
      rcases (Bool.or_eq_true _ _).mp g with g | g
      · rw [ab_no_ok hE] at g
        cases g
      exact zi_ok hG hC1 hC2 hI hM hμ hQ hxs h0 r _ _ _ _ _ _ _ _ _ _ _ _ (zJ_E h (zcr2_ok (zcm2_ok hE hcm hc) hcr hc0)) hcr hms hcm hn0 hy g
    · show zas ro c ρ vs
      have z00 := h.1.2.1
      split at hq
      · show 0 ≤ zn ρ (za vs 0) ∧ zn ρ (za vs 0) < zn ρ (za vs 1)
        have g := (Bool.and_eq_true _ _).mp hq
        have a := ab_le_ok h.1 g.1
        have b := ab_le_ok h.1 g.2
        rw [zt_ok h (za vs 0), zt_ok h (za vs 1)]
        unfold ab_up at b
        dsimp only at a b
        omega
      · show ¬ zn ρ (za vs 0) = 0
        have a := ab_dt_ok h.1 hq
        have a : ¬ _ = _ := a
        rw [zt_ok h (za vs 0)]
        dsimp only at a
        intro w
        exact a (by rw [w, z00]; rfl)
      · show 0 ≤ zn ρ (za vs 0) ∧ zn ρ (za vs 0) ≤ 1
        have g := (Bool.and_eq_true _ _).mp hq
        have a := ab_le_ok h.1 g.1
        have b := ab_le_ok h.1 g.2
        rw [zt_ok h (za vs 0)]
        dsimp only at a b
        omega
      · cases hq
    · intro y η' hp
      split at hq
      · next e he =>
        have h2 := hC2 c e he _ _ _ _ hp
        exact nx0 _ _ _ _ _ _ _ _ _ _ _ _ (zJ_cl h h2) (zrl1_ok h hcr h2.2.2.2.2) (zKs_app (zKs_fil (f := fun q => !(zinr e.2.2.2 q)) hms (fun q j hq => h2.2.2.2.1 q j (zinr_not hq)))) (zKc_app hcm) hq
      · cases hq
    · intro x hx
      exact nx _ _ _ _ _ _ _ _ (zp_ok h (by rw [hx]; exact z32_to _)) hq
    · split at hq
      · next e he =>
        obtain ⟨g1, g2, g3, g4⟩ := ab_and4 hq
        refine ⟨hI c e he _ _ ⟨h.2.2.2.2.1, zsb_ok h g1, zsf_ok h g2⟩ (zsd_ok h h0 g3), ?_⟩
        rw [hM c e he, hμ]
        exact zml_ok h hy g4
      · cases hq
    · show Q c (zn ρ (za vs 0)) η
      split at hq
      · next o z ho hz =>
        obtain ⟨g1, g2, g3, g4⟩ := ab_and4 hq
        obtain ⟨g4, g5⟩ := (Bool.and_eq_true _ _).mp g4
        have a := ab_rg_ok h.1 hz
        have g1 := ab_ile_iff.mp g1
        have g2 := ab_ile_iff.mp g2
        refine hQ c o ho _ _ ⟨h.2.2.2.2.1, ?_, zsf_ok h g3, zsd_ok h h0 g4, fun hne w hw => ?_⟩
        · rw [zt_ok h (za vs 0)]
          omega
        · rcases (Bool.or_eq_true _ _).mp g5 with g | g
          · have g := (Bool.and_eq_true _ _).mp g
            have u1 := ab_ile_iff.mp g.1
            have u2 := ab_ile_iff.mp g.2
            rw [zt_ok h (za vs 0)] at hne
            exact absurd (by omega) hne
          · have g := (Bool.and_eq_true _ _).mp (List.all_eq_true.mp g w hw)
            rw [hxs g.1]
            exact zrk_ok h hy g.2
      · cases hq
    · split at hq
      · next e he =>
        obtain ⟨g1, g2, g3⟩ := ab_and3 hq
        exact hI c e he _ _ ⟨h.2.2.2.2.1, zsb_ok h g1, zsf_ok h g2⟩ (zsd_ok h h0 g3)
      · cases hq
    · split at hq
      · next e he =>
        have g := (Bool.and_eq_true _ _).mp hq
        exact hC1 c e he _ _ ⟨h.2.2.2.2.1, zsb_ok h g.1, zsf_ok h g.2⟩
      · cases hq
    · cases hq
end ZP
