def zPqe_next0 : zPq := zPu_next
def zOqe_next0 : zPo := zOu_next
def zMqe_next0 : List zCe := zMu_next
def oPqe_next0 : List Int → zE → Prop := fun _ η => G0_q η
def pPqe_next0 : List Int → zE → Prop := fun xs η => oPqe_next0 xs η ∧ yp_wk η
def oQqe_next0 : List Int → zE → Int → zE → Prop := fun _ _ _ η' => G0_q η'
def fQqe_next0 : List Int → zE → Int → zE → Prop := fun xs η _ η' => η' = (yp_adv η)
def pQqe_next0 : List Int → zE → Int → zE → Prop := fun xs η y η' => oQqe_next0 xs η y η' ∧ fQqe_next0 xs η y η'
theorem zqe_next0 {ro : Nat → List Int32} : zMet pr_P pr_K pr_df ro (sm_X0 1 6) 2 45 tm_qe [(.inr (.inr (.inl (nat_lit 60))))] 0 [(nat_lit 60, nat_lit 3, nat_lit 1), (nat_lit 60, nat_lit 9, nat_lit 61), (nat_lit 60, nat_lit 10, nat_lit 62), (nat_lit 60, nat_lit 11, nat_lit 63), (nat_lit 60, nat_lit 2, nat_lit 32), (nat_lit 32, nat_lit 8, nat_lit 33), (nat_lit 32, nat_lit 9, nat_lit 34), (nat_lit 32, nat_lit 10, nat_lit 35), (nat_lit 32, nat_lit 11, nat_lit 36), (nat_lit 32, nat_lit 12, nat_lit 41), (nat_lit 32, nat_lit 13, nat_lit 46), (nat_lit 32, nat_lit 14, nat_lit 47), (nat_lit 36, nat_lit 0, nat_lit 37), (nat_lit 41, nat_lit 0, nat_lit 42), (nat_lit 36, nat_lit 1, nat_lit 38), (nat_lit 41, nat_lit 1, nat_lit 43), (nat_lit 36, nat_lit 2, nat_lit 39), (nat_lit 41, nat_lit 2, nat_lit 44), (nat_lit 36, nat_lit 3, nat_lit 40), (nat_lit 41, nat_lit 3, nat_lit 45), (nat_lit 47, nat_lit 2, nat_lit 48), (nat_lit 47, nat_lit 3, nat_lit 49), (nat_lit 47, nat_lit 4, nat_lit 50), (nat_lit 47, nat_lit 5, nat_lit 51), (nat_lit 47, nat_lit 6, nat_lit 52)] [] (fun xs η => sP wl_qe zTr zPqe_next0 xs η ∧ pPqe_next0 xs η) (fun xs η y η' => sQ wl_qe zTr zOqe_next0 zMqe_next0 xs η y η' ∧ pQqe_next0 xs η y η') :=
  zmet_w (L := wl_u) (P1 := pPu_next) (Q1 := pQu_next) zu_next (fun xs η _ _ => trivial) (fun xs η y η' p hh g q => by
    have h := hh.1
    have ex : η' = (yp_adv η) := q hh.2
    have w : G_r η' := by rw [ex]; exact gr_adv
    exact ⟨⟨gl_fr h g.2.2.2.1 w (by decide +kernel), (g.2.2.2.1 60 0 (by decide +kernel)).trans h.2⟩, ex⟩)
def zPqe_flaw0 : zPq := zPu_flaw
def zOqe_flaw0 : zPo := zOu_flaw
def zMqe_flaw0 : List zCe := zMu_flaw
def oPqe_flaw0 : List Int → zE → Prop := fun _ η => G0_q η
def pPqe_flaw0 : List Int → zE → Prop := fun xs η => oPqe_flaw0 xs η ∧ yp_wk η
def oQqe_flaw0 : List Int → zE → Int → zE → Prop := fun _ _ _ η' => Gl_q η'
def fQqe_flaw0 : List Int → zE → Int → zE → Prop := fun xs η _ η' => η' = yp_flw (xs.getD 0 0) (xs.getD 1 0) η
def pQqe_flaw0 : List Int → zE → Int → zE → Prop := fun xs η y η' => oQqe_flaw0 xs η y η' ∧ fQqe_flaw0 xs η y η'
theorem zqe_flaw0 {ro : Nat → List Int32} : zMet pr_P pr_K pr_df ro (sm_X0 1 6) 0 31 tm_qe [(.inr (.inr (.inl (nat_lit 60)))), (.inl (nat_lit 1, (.ofNat (nat_lit 0)))), (.inl (nat_lit 2, (.ofNat (nat_lit 0))))] 0 [(nat_lit 60, nat_lit 3, nat_lit 1), (nat_lit 60, nat_lit 9, nat_lit 61), (nat_lit 60, nat_lit 10, nat_lit 62), (nat_lit 60, nat_lit 11, nat_lit 63), (nat_lit 60, nat_lit 2, nat_lit 32), (nat_lit 32, nat_lit 8, nat_lit 33), (nat_lit 32, nat_lit 9, nat_lit 34), (nat_lit 32, nat_lit 10, nat_lit 35), (nat_lit 32, nat_lit 11, nat_lit 36), (nat_lit 32, nat_lit 12, nat_lit 41), (nat_lit 32, nat_lit 13, nat_lit 46), (nat_lit 32, nat_lit 14, nat_lit 47), (nat_lit 36, nat_lit 0, nat_lit 37), (nat_lit 41, nat_lit 0, nat_lit 42), (nat_lit 36, nat_lit 1, nat_lit 38), (nat_lit 41, nat_lit 1, nat_lit 43), (nat_lit 36, nat_lit 2, nat_lit 39), (nat_lit 41, nat_lit 2, nat_lit 44), (nat_lit 36, nat_lit 3, nat_lit 40), (nat_lit 41, nat_lit 3, nat_lit 45), (nat_lit 47, nat_lit 2, nat_lit 48), (nat_lit 47, nat_lit 3, nat_lit 49), (nat_lit 47, nat_lit 4, nat_lit 50), (nat_lit 47, nat_lit 5, nat_lit 51), (nat_lit 47, nat_lit 6, nat_lit 52)] [] (fun xs η => sP wl_qe zTr zPqe_flaw0 xs η ∧ pPqe_flaw0 xs η) (fun xs η y η' => sQ wl_qe zTr zOqe_flaw0 zMqe_flaw0 xs η y η' ∧ pQqe_flaw0 xs η y η') :=
  zmet_w (L := wl_u) (P1 := pPu_flaw) (Q1 := pQu_flaw) zu_flaw (fun xs η _ _ => trivial) (fun xs η y η' p hh g q => by
    have h := hh.1
    have ex : η' = yp_flw (xs.getD 0 0) (xs.getD 1 0) η := q
    have w : G_r η' := by rw [ex]; exact gr_flw h.1.1
    exact ⟨gl_fr h g.2.2.2.1 w (by decide +kernel), ex⟩)
def zPqe_readGroove0 : zPq := zPu_readGroove
def zOqe_readGroove0 : zPo := zOu_readGroove
def zMqe_readGroove0 : List zCe := zMu_readGroove
def oPqe_readGroove0 : List Int → zE → Prop := fun _ η => G0_q η
def pPqe_readGroove0 : List Int → zE → Prop := fun xs η => oPqe_readGroove0 xs η ∧ yp_wk η
def oQqe_readGroove0 : List Int → zE → Int → zE → Prop := fun _ _ _ η' => Gl_q η'
def fQqe_readGroove0 : List Int → zE → Int → zE → Prop := fun xs η _ η' => η' = (yp_grv η)
def pQqe_readGroove0 : List Int → zE → Int → zE → Prop := fun xs η y η' => oQqe_readGroove0 xs η y η' ∧ fQqe_readGroove0 xs η y η'
theorem zqe_readGroove0 {ro : Nat → List Int32} : zMet pr_P pr_K pr_df ro (sm_X0 1 6) 4 33 tm_qe [(.inr (.inr (.inl (nat_lit 60))))] 0 [(nat_lit 60, nat_lit 3, nat_lit 1), (nat_lit 60, nat_lit 9, nat_lit 61), (nat_lit 60, nat_lit 10, nat_lit 62), (nat_lit 60, nat_lit 11, nat_lit 63), (nat_lit 60, nat_lit 2, nat_lit 32), (nat_lit 32, nat_lit 8, nat_lit 33), (nat_lit 32, nat_lit 9, nat_lit 34), (nat_lit 32, nat_lit 10, nat_lit 35), (nat_lit 32, nat_lit 11, nat_lit 36), (nat_lit 32, nat_lit 12, nat_lit 41), (nat_lit 32, nat_lit 13, nat_lit 46), (nat_lit 32, nat_lit 14, nat_lit 47), (nat_lit 36, nat_lit 0, nat_lit 37), (nat_lit 41, nat_lit 0, nat_lit 42), (nat_lit 36, nat_lit 1, nat_lit 38), (nat_lit 41, nat_lit 1, nat_lit 43), (nat_lit 36, nat_lit 2, nat_lit 39), (nat_lit 41, nat_lit 2, nat_lit 44), (nat_lit 36, nat_lit 3, nat_lit 40), (nat_lit 41, nat_lit 3, nat_lit 45), (nat_lit 47, nat_lit 2, nat_lit 48), (nat_lit 47, nat_lit 3, nat_lit 49), (nat_lit 47, nat_lit 4, nat_lit 50), (nat_lit 47, nat_lit 5, nat_lit 51), (nat_lit 47, nat_lit 6, nat_lit 52)] [] (fun xs η => sP wl_qe zTr zPqe_readGroove0 xs η ∧ pPqe_readGroove0 xs η) (fun xs η y η' => sQ wl_qe zTr zOqe_readGroove0 zMqe_readGroove0 xs η y η' ∧ pQqe_readGroove0 xs η y η') :=
  zmet_w (L := wl_u) (P1 := pPu_readGroove) (Q1 := pQu_readGroove) zu_readGroove (fun xs η _ _ => trivial) (fun xs η y η' p hh g q => by
    have h := hh.1
    have ex : η' = (yp_grv η) := q hh.2
    have w : G_r η' := by rw [ex]; exact gr_grv h.1.1
    exact ⟨gl_fr h g.2.2.2.1 w (by decide +kernel), ex⟩)
def zPqe_readScratch0 : zPq := zPu_readScratch
def zOqe_readScratch0 : zPo := zOu_readScratch
def zMqe_readScratch0 : List zCe := zMu_readScratch
def oPqe_readScratch0 : List Int → zE → Prop := fun _ η => G0_q η
def pPqe_readScratch0 : List Int → zE → Prop := fun xs η => oPqe_readScratch0 xs η ∧ yp_wk η
def oQqe_readScratch0 : List Int → zE → Int → zE → Prop := fun _ _ _ η' => Gl_q η'
def fQqe_readScratch0 : List Int → zE → Int → zE → Prop := fun xs η _ η' => η' = (yp_scr η)
def pQqe_readScratch0 : List Int → zE → Int → zE → Prop := fun xs η y η' => oQqe_readScratch0 xs η y η' ∧ fQqe_readScratch0 xs η y η'
theorem zqe_readScratch0 {ro : Nat → List Int32} : zMet pr_P pr_K pr_df ro (sm_X0 1 6) 4 34 tm_qe [(.inr (.inr (.inl (nat_lit 60))))] 0 [(nat_lit 60, nat_lit 3, nat_lit 1), (nat_lit 60, nat_lit 9, nat_lit 61), (nat_lit 60, nat_lit 10, nat_lit 62), (nat_lit 60, nat_lit 11, nat_lit 63), (nat_lit 60, nat_lit 2, nat_lit 32), (nat_lit 32, nat_lit 8, nat_lit 33), (nat_lit 32, nat_lit 9, nat_lit 34), (nat_lit 32, nat_lit 10, nat_lit 35), (nat_lit 32, nat_lit 11, nat_lit 36), (nat_lit 32, nat_lit 12, nat_lit 41), (nat_lit 32, nat_lit 13, nat_lit 46), (nat_lit 32, nat_lit 14, nat_lit 47), (nat_lit 36, nat_lit 0, nat_lit 37), (nat_lit 41, nat_lit 0, nat_lit 42), (nat_lit 36, nat_lit 1, nat_lit 38), (nat_lit 41, nat_lit 1, nat_lit 43), (nat_lit 36, nat_lit 2, nat_lit 39), (nat_lit 41, nat_lit 2, nat_lit 44), (nat_lit 36, nat_lit 3, nat_lit 40), (nat_lit 41, nat_lit 3, nat_lit 45), (nat_lit 47, nat_lit 2, nat_lit 48), (nat_lit 47, nat_lit 3, nat_lit 49), (nat_lit 47, nat_lit 4, nat_lit 50), (nat_lit 47, nat_lit 5, nat_lit 51), (nat_lit 47, nat_lit 6, nat_lit 52)] [] (fun xs η => sP wl_qe zTr zPqe_readScratch0 xs η ∧ pPqe_readScratch0 xs η) (fun xs η y η' => sQ wl_qe zTr zOqe_readScratch0 zMqe_readScratch0 xs η y η' ∧ pQqe_readScratch0 xs η y η') :=
  zmet_w (L := wl_u) (P1 := pPu_readScratch) (Q1 := pQu_readScratch) zu_readScratch (fun xs η _ _ => trivial) (fun xs η y η' p hh g q => by
    have h := hh.1
    have ex : η' = (yp_scr η) := q hh.2
    have w : G_r η' := by rw [ex]; exact gr_scr h.1.1 (wf_ok (a := 2) (b := 2) (z := (0, 4)) p.1 (by decide +kernel) (Nat.le_refl _) (Nat.le_refl _)).1
    exact ⟨gl_fr h g.2.2.2.1 w (by decide +kernel), ex⟩)
def zPqe_readGuest0 : zPq := zPu_readGuest
def zOqe_readGuest0 : zPo := zOu_readGuest
def zMqe_readGuest0 : List zCe := zMu_readGuest
def oPqe_readGuest0 : List Int → zE → Prop := fun _ η => G0_q η
def pPqe_readGuest0 : List Int → zE → Prop := fun xs η => oPqe_readGuest0 xs η ∧ yp_wk η
def oQqe_readGuest0 : List Int → zE → Int → zE → Prop := fun _ _ _ η' => Gl_q η'
def fQqe_readGuest0 : List Int → zE → Int → zE → Prop := fun xs η _ η' => η' = (yp_gst η)
def pQqe_readGuest0 : List Int → zE → Int → zE → Prop := fun xs η y η' => oQqe_readGuest0 xs η y η' ∧ fQqe_readGuest0 xs η y η'
theorem zqe_readGuest0 {ro : Nat → List Int32} : zMet pr_P pr_K pr_df ro (sm_X0 1 6) 4 35 tm_qe [(.inr (.inr (.inl (nat_lit 60))))] 0 [(nat_lit 60, nat_lit 3, nat_lit 1), (nat_lit 60, nat_lit 9, nat_lit 61), (nat_lit 60, nat_lit 10, nat_lit 62), (nat_lit 60, nat_lit 11, nat_lit 63), (nat_lit 60, nat_lit 2, nat_lit 32), (nat_lit 32, nat_lit 8, nat_lit 33), (nat_lit 32, nat_lit 9, nat_lit 34), (nat_lit 32, nat_lit 10, nat_lit 35), (nat_lit 32, nat_lit 11, nat_lit 36), (nat_lit 32, nat_lit 12, nat_lit 41), (nat_lit 32, nat_lit 13, nat_lit 46), (nat_lit 32, nat_lit 14, nat_lit 47), (nat_lit 36, nat_lit 0, nat_lit 37), (nat_lit 41, nat_lit 0, nat_lit 42), (nat_lit 36, nat_lit 1, nat_lit 38), (nat_lit 41, nat_lit 1, nat_lit 43), (nat_lit 36, nat_lit 2, nat_lit 39), (nat_lit 41, nat_lit 2, nat_lit 44), (nat_lit 36, nat_lit 3, nat_lit 40), (nat_lit 41, nat_lit 3, nat_lit 45), (nat_lit 47, nat_lit 2, nat_lit 48), (nat_lit 47, nat_lit 3, nat_lit 49), (nat_lit 47, nat_lit 4, nat_lit 50), (nat_lit 47, nat_lit 5, nat_lit 51), (nat_lit 47, nat_lit 6, nat_lit 52)] [] (fun xs η => sP wl_qe zTr zPqe_readGuest0 xs η ∧ pPqe_readGuest0 xs η) (fun xs η y η' => sQ wl_qe zTr zOqe_readGuest0 zMqe_readGuest0 xs η y η' ∧ pQqe_readGuest0 xs η y η') :=
  zmet_w (L := wl_u) (P1 := pPu_readGuest) (Q1 := pQu_readGuest) zu_readGuest (fun xs η _ _ => trivial) (fun xs η y η' p hh g q => by
    have h := hh.1
    have ex : η' = (yp_gst η) := q hh.2
    have w : G_r η' := by rw [ex]; exact gr_gst h.1.1 (wf_ok (a := 3) (b := 3) (z := (0, 4)) p.1 (by decide +kernel) (Nat.le_refl _) (Nat.le_refl _)).1
    exact ⟨gl_fr h g.2.2.2.1 w (by decide +kernel), ex⟩)
def zPqe_readOnce0 : zPq := zPu_readOnce
def zOqe_readOnce0 : zPo := zOu_readOnce
def zMqe_readOnce0 : List zCe := zMu_readOnce
def oPqe_readOnce0 : List Int → zE → Prop := fun _ η => G0_q η
def pPqe_readOnce0 : List Int → zE → Prop := fun xs η => oPqe_readOnce0 xs η ∧ yp_wk η
def oQqe_readOnce0 : List Int → zE → Int → zE → Prop := fun _ _ _ η' => Gl_q η'
def fQqe_readOnce0 : List Int → zE → Int → zE → Prop := fun xs η _ η' => η' = (yp_onc (xs.getD 0 0) η)
def pQqe_readOnce0 : List Int → zE → Int → zE → Prop := fun xs η y η' => oQqe_readOnce0 xs η y η' ∧ fQqe_readOnce0 xs η y η'
theorem zqe_readOnce0 {ro : Nat → List Int32} : zMet pr_P pr_K pr_df ro (sm_X0 1 6) 4 36 tm_qe [(.inr (.inr (.inl (nat_lit 60)))), (.inl (nat_lit 1, (.ofNat (nat_lit 0))))] 0 [(nat_lit 60, nat_lit 3, nat_lit 1), (nat_lit 60, nat_lit 9, nat_lit 61), (nat_lit 60, nat_lit 10, nat_lit 62), (nat_lit 60, nat_lit 11, nat_lit 63), (nat_lit 60, nat_lit 2, nat_lit 32), (nat_lit 32, nat_lit 8, nat_lit 33), (nat_lit 32, nat_lit 9, nat_lit 34), (nat_lit 32, nat_lit 10, nat_lit 35), (nat_lit 32, nat_lit 11, nat_lit 36), (nat_lit 32, nat_lit 12, nat_lit 41), (nat_lit 32, nat_lit 13, nat_lit 46), (nat_lit 32, nat_lit 14, nat_lit 47), (nat_lit 36, nat_lit 0, nat_lit 37), (nat_lit 41, nat_lit 0, nat_lit 42), (nat_lit 36, nat_lit 1, nat_lit 38), (nat_lit 41, nat_lit 1, nat_lit 43), (nat_lit 36, nat_lit 2, nat_lit 39), (nat_lit 41, nat_lit 2, nat_lit 44), (nat_lit 36, nat_lit 3, nat_lit 40), (nat_lit 41, nat_lit 3, nat_lit 45), (nat_lit 47, nat_lit 2, nat_lit 48), (nat_lit 47, nat_lit 3, nat_lit 49), (nat_lit 47, nat_lit 4, nat_lit 50), (nat_lit 47, nat_lit 5, nat_lit 51), (nat_lit 47, nat_lit 6, nat_lit 52)] [] (fun xs η => sP wl_qe zTr zPqe_readOnce0 xs η ∧ pPqe_readOnce0 xs η) (fun xs η y η' => sQ wl_qe zTr zOqe_readOnce0 zMqe_readOnce0 xs η y η' ∧ pQqe_readOnce0 xs η y η') :=
  zmet_w (L := wl_u) (P1 := pPu_readOnce) (Q1 := pQu_readOnce) zu_readOnce (fun xs η _ _ => trivial) (fun xs η y η' p hh g q => by
    have h := hh.1
    have ex : η' = (yp_onc (xs.getD 0 0) η) := q hh.2
    have w : G_r η' := by rw [ex]; exact gr_onc h.1.1
    exact ⟨gl_fr h g.2.2.2.1 w (by decide +kernel), ex⟩)
def zPqe_readLaw : zPq := ([], [])
def zOqe_readLaw : zPo := (((.ofNat (nat_lit 0)), (.ofNat (nat_lit 0))), [], [])
def zMqe_readLaw : List zCe := [(nat_lit 60, nat_lit 7), (nat_lit 60, nat_lit 9), (nat_lit 60, nat_lit 6), (nat_lit 60, nat_lit 8), (nat_lit 60, nat_lit 1), (nat_lit 60, nat_lit 2), (nat_lit 60, nat_lit 13), (nat_lit 60, nat_lit 14), (nat_lit 63, nat_lit 0), (nat_lit 47, nat_lit 0), (nat_lit 48, nat_lit 0), (nat_lit 49, nat_lit 0), (nat_lit 50, nat_lit 0)]
def oPqe_readLaw : List Int → zE → Prop := fun _ η => G0_q η
def pPqe_readLaw : List Int → zE → Prop := fun xs η => oPqe_readLaw xs η ∧ yp_wk η
def oQqe_readLaw : List Int → zE → Int → zE → Prop := fun _ _ _ η' => Gl_q η'
def fQqe_readLaw : List Int → zE → Int → zE → Prop := fun xs η y η' => η' = (yp_law η)
def pQqe_readLaw : List Int → zE → Int → zE → Prop := fun xs η y η' => oQqe_readLaw xs η y η' ∧ fQqe_readLaw xs η y η'
def pCqe_readLaw : Nat → List Int → zE → Prop := fun c => match c with
  | 0 => pPqe_flaw0
  | 1 => pPqe_next0
  | 2 => pPqe_readOperand
  | 3 => pPqe_readSign
  | 4 => pPqe_unwind
  | _ => fun _ _ => True
def qCqe_readLaw : Nat → List Int → zE → Int → zE → Prop := fun c => match c with
  | 0 => pQqe_flaw0
  | 1 => pQqe_next0
  | 2 => pQqe_readOperand
  | 3 => pQqe_readSign
  | 4 => pQqe_unwind
  | _ => fun _ _ _ _ => True
def iCqe_readLaw : List Int → zE → Nat → List Int → zE → Prop := fun xs η0 c => match c with
  | 0 => fun ys η => (G_qe η) ∧ (yp_lJ η0 (ys.getD 0 0) (ys.getD 1 0) (ys.getD 2 0) η)
  | 1 => fun ys η => (G_qe η) ∧ (yp_lK η0 (ys.getD 0 0) η)
  | _ => fun _ _ => True
def zVqe_readLaw : List zIv := [(nat_lit 0, ([((.ofNat (nat_lit 0)), (.ofNat (nat_lit 2))), ((.ofNat (nat_lit 0)), (.ofNat (nat_lit 1))), ((.ofNat (nat_lit 0)), (.ofNat (nat_lit 701)))], []), ((.ofNat (nat_lit 800)), [((.negSucc (nat_lit 0)), nat_lit 0, nat_lit 2, nat_lit 0)])), (nat_lit 1, ([((.ofNat (nat_lit 0)), (.ofNat (nat_lit 2)))], []), ((.ofNat (nat_lit 1)), []))]
def zUqe_readLaw : List zCu := [(nat_lit 86, nat_lit 0, [(nat_lit 0, (.inr (.inr (.inl (nat_lit 60))))), (nat_lit 1, (.inl (nat_lit 1, (.ofNat (nat_lit 0))))), (nat_lit 2, (.inr (.inr (.inl (nat_lit 47))))), (nat_lit 3, (.inl (nat_lit 2, (.ofNat (nat_lit 0))))), (nat_lit 4, (.inl (nat_lit 3, (.ofNat (nat_lit 0)))))], []), (nat_lit 144, nat_lit 1, [(nat_lit 0, (.inr (.inr (.inl (nat_lit 60))))), (nat_lit 1, (.inl (nat_lit 1, (.ofNat (nat_lit 0))))), (nat_lit 2, (.inr (.inr (.inl (nat_lit 47)))))], [])]
def zDqe_readLaw : List (List zK) := []
def zEqe_readLaw : List (List zK) := [[(nat_lit 13, nat_lit 1, []), (nat_lit 6, nat_lit 5, [(nat_lit 3, (.ofNat (nat_lit 0))), (nat_lit 4, (.ofNat (nat_lit 0)))]), (nat_lit 4, nat_lit 0, [(nat_lit 49, (.ofNat (nat_lit 0))), (nat_lit 2, (.ofNat (nat_lit 0)))]), (nat_lit 4, nat_lit 0, [(nat_lit 50, (.ofNat (nat_lit 0))), (nat_lit 2, (.ofNat (nat_lit 0)))]), (nat_lit 4, nat_lit 0, [(nat_lit 60, (.ofNat (nat_lit 0))), (nat_lit 0, (.ofNat (nat_lit 8)))]), (nat_lit 6, nat_lit 0, [(nat_lit 1, (.ofNat (nat_lit 0))), (nat_lit 0, (.ofNat (nat_lit 19)))]), (nat_lit 4, nat_lit 0, [(nat_lit 60, (.ofNat (nat_lit 0))), (nat_lit 0, (.ofNat (nat_lit 6)))])],
  [(nat_lit 13, nat_lit 0, [(nat_lit 0, (.ofNat (nat_lit 3))), (nat_lit 5, (.ofNat (nat_lit 0)))]), (nat_lit 4, nat_lit 0, [(nat_lit 60, (.ofNat (nat_lit 0))), (nat_lit 0, (.ofNat (nat_lit 7)))]), (nat_lit 6, nat_lit 4, [(nat_lit 3, (.ofNat (nat_lit 0))), (nat_lit 4, (.ofNat (nat_lit 0)))]), (nat_lit 4, nat_lit 0, [(nat_lit 49, (.ofNat (nat_lit 0))), (nat_lit 2, (.ofNat (nat_lit 0)))]), (nat_lit 4, nat_lit 0, [(nat_lit 50, (.ofNat (nat_lit 0))), (nat_lit 2, (.ofNat (nat_lit 0)))]), (nat_lit 4, nat_lit 0, [(nat_lit 60, (.ofNat (nat_lit 0))), (nat_lit 0, (.ofNat (nat_lit 8)))]), (nat_lit 6, nat_lit 0, [(nat_lit 1, (.ofNat (nat_lit 0))), (nat_lit 0, (.ofNat (nat_lit 19)))]), (nat_lit 4, nat_lit 0, [(nat_lit 60, (.ofNat (nat_lit 0))), (nat_lit 0, (.ofNat (nat_lit 6)))])],
  [(nat_lit 11, nat_lit 0, [(nat_lit 0, (.ofNat (nat_lit 0)))]), (nat_lit 8, nat_lit 0, [(nat_lit 0, (.ofNat (nat_lit 3))), (nat_lit 5, (.ofNat (nat_lit 0)))]), (nat_lit 4, nat_lit 0, [(nat_lit 60, (.ofNat (nat_lit 0))), (nat_lit 0, (.ofNat (nat_lit 7)))]), (nat_lit 6, nat_lit 4, [(nat_lit 3, (.ofNat (nat_lit 0))), (nat_lit 4, (.ofNat (nat_lit 0)))]), (nat_lit 4, nat_lit 0, [(nat_lit 49, (.ofNat (nat_lit 0))), (nat_lit 2, (.ofNat (nat_lit 0)))]), (nat_lit 4, nat_lit 0, [(nat_lit 50, (.ofNat (nat_lit 0))), (nat_lit 2, (.ofNat (nat_lit 0)))]), (nat_lit 4, nat_lit 0, [(nat_lit 60, (.ofNat (nat_lit 0))), (nat_lit 0, (.ofNat (nat_lit 8)))]), (nat_lit 6, nat_lit 0, [(nat_lit 1, (.ofNat (nat_lit 0))), (nat_lit 0, (.ofNat (nat_lit 19)))]), (nat_lit 4, nat_lit 0, [(nat_lit 60, (.ofNat (nat_lit 0))), (nat_lit 0, (.ofNat (nat_lit 6)))])],
  [(nat_lit 13, nat_lit 0, [(nat_lit 0, (.ofNat (nat_lit 1))), (nat_lit 2, (.ofNat (nat_lit 0)))]), (nat_lit 4, nat_lit 0, [(nat_lit 60, (.ofNat (nat_lit 0))), (nat_lit 0, (.ofNat (nat_lit 7)))]), (nat_lit 6, nat_lit 1, [(nat_lit 1, (.ofNat (nat_lit 0))), (nat_lit 0, (.ofNat (nat_lit 19)))]), (nat_lit 4, nat_lit 0, [(nat_lit 60, (.ofNat (nat_lit 0))), (nat_lit 0, (.ofNat (nat_lit 6)))])],
  [(nat_lit 11, nat_lit 0, [(nat_lit 0, (.ofNat (nat_lit 0)))]), (nat_lit 8, nat_lit 0, [(nat_lit 0, (.ofNat (nat_lit 1))), (nat_lit 2, (.ofNat (nat_lit 0)))]), (nat_lit 4, nat_lit 0, [(nat_lit 60, (.ofNat (nat_lit 0))), (nat_lit 0, (.ofNat (nat_lit 7)))]), (nat_lit 6, nat_lit 1, [(nat_lit 1, (.ofNat (nat_lit 0))), (nat_lit 0, (.ofNat (nat_lit 19)))]), (nat_lit 4, nat_lit 0, [(nat_lit 60, (.ofNat (nat_lit 0))), (nat_lit 0, (.ofNat (nat_lit 6)))])]]
def zFqe_readLaw : List (List zK) := [[(nat_lit 7, nat_lit 0, [(nat_lit 2, (.ofNat (nat_lit 0))), (nat_lit 0, (.ofNat (nat_lit 3)))]), (nat_lit 4, nat_lit 0, [(nat_lit 60, (.ofNat (nat_lit 0))), (nat_lit 0, (.ofNat (nat_lit 8)))]), (nat_lit 6, nat_lit 0, [(nat_lit 1, (.ofNat (nat_lit 0))), (nat_lit 0, (.ofNat (nat_lit 19)))]), (nat_lit 4, nat_lit 0, [(nat_lit 60, (.ofNat (nat_lit 0))), (nat_lit 0, (.ofNat (nat_lit 6)))])],
  [(nat_lit 7, nat_lit 0, [(nat_lit 2, (.ofNat (nat_lit 0))), (nat_lit 0, (.ofNat (nat_lit 3)))]), (nat_lit 4, nat_lit 0, [(nat_lit 50, (.ofNat (nat_lit 0))), (nat_lit 2, (.ofNat (nat_lit 0)))]), (nat_lit 4, nat_lit 0, [(nat_lit 60, (.ofNat (nat_lit 0))), (nat_lit 0, (.ofNat (nat_lit 8)))]), (nat_lit 6, nat_lit 0, [(nat_lit 1, (.ofNat (nat_lit 0))), (nat_lit 0, (.ofNat (nat_lit 19)))]), (nat_lit 4, nat_lit 0, [(nat_lit 60, (.ofNat (nat_lit 0))), (nat_lit 0, (.ofNat (nat_lit 6)))])],
  [(nat_lit 7, nat_lit 0, [(nat_lit 2, (.ofNat (nat_lit 0))), (nat_lit 0, (.ofNat (nat_lit 3)))]), (nat_lit 4, nat_lit 0, [(nat_lit 47, (.ofNat (nat_lit 0))), (nat_lit 0, (.ofNat (nat_lit 1)))]), (nat_lit 8, nat_lit 1, []), (nat_lit 6, nat_lit 5, [(nat_lit 3, (.ofNat (nat_lit 0))), (nat_lit 4, (.ofNat (nat_lit 0)))]), (nat_lit 4, nat_lit 0, [(nat_lit 49, (.ofNat (nat_lit 0))), (nat_lit 2, (.ofNat (nat_lit 0)))]), (nat_lit 4, nat_lit 0, [(nat_lit 50, (.ofNat (nat_lit 0))), (nat_lit 2, (.ofNat (nat_lit 0)))]), (nat_lit 4, nat_lit 0, [(nat_lit 60, (.ofNat (nat_lit 0))), (nat_lit 0, (.ofNat (nat_lit 8)))]), (nat_lit 6, nat_lit 0, [(nat_lit 1, (.ofNat (nat_lit 0))), (nat_lit 0, (.ofNat (nat_lit 19)))]), (nat_lit 4, nat_lit 0, [(nat_lit 60, (.ofNat (nat_lit 0))), (nat_lit 0, (.ofNat (nat_lit 6)))])],
  [(nat_lit 12, nat_lit 0, [(nat_lit 2, (.ofNat (nat_lit 0))), (nat_lit 0, (.ofNat (nat_lit 1))), (nat_lit 0, (.ofNat (nat_lit 0)))]), (nat_lit 5, nat_lit 0, [(nat_lit 60, (.ofNat (nat_lit 0))), (nat_lit 0, (.ofNat (nat_lit 13))), (nat_lit 0, (.ofNat (nat_lit 0)))]), (nat_lit 5, nat_lit 0, [(nat_lit 60, (.ofNat (nat_lit 0))), (nat_lit 0, (.ofNat (nat_lit 12))), (nat_lit 0, (.ofNat (nat_lit 0)))]), (nat_lit 5, nat_lit 0, [(nat_lit 49, (.ofNat (nat_lit 0))), (nat_lit 2, (.ofNat (nat_lit 0))), (nat_lit 6, (.ofNat (nat_lit 0)))]), (nat_lit 4, nat_lit 0, [(nat_lit 47, (.ofNat (nat_lit 0))), (nat_lit 0, (.ofNat (nat_lit 1)))]), (nat_lit 8, nat_lit 1, []), (nat_lit 6, nat_lit 5, [(nat_lit 3, (.ofNat (nat_lit 0))), (nat_lit 4, (.ofNat (nat_lit 0)))]), (nat_lit 4, nat_lit 0, [(nat_lit 49, (.ofNat (nat_lit 0))), (nat_lit 2, (.ofNat (nat_lit 0)))]), (nat_lit 4, nat_lit 0, [(nat_lit 50, (.ofNat (nat_lit 0))), (nat_lit 2, (.ofNat (nat_lit 0)))]), (nat_lit 4, nat_lit 0, [(nat_lit 60, (.ofNat (nat_lit 0))), (nat_lit 0, (.ofNat (nat_lit 8)))]), (nat_lit 6, nat_lit 0, [(nat_lit 1, (.ofNat (nat_lit 0))), (nat_lit 0, (.ofNat (nat_lit 19)))]), (nat_lit 4, nat_lit 0, [(nat_lit 60, (.ofNat (nat_lit 0))), (nat_lit 0, (.ofNat (nat_lit 6)))])]]
def zDqe_readLaw_0 : List (List zK) := []
def zEqe_readLaw_0 : List (List zK) := [[(nat_lit 10, nat_lit 1, [(nat_lit 1, (.ofNat (nat_lit 0)))]), (nat_lit 6, nat_lit 4, [(nat_lit 3, (.ofNat (nat_lit 0))), (nat_lit 4, (.ofNat (nat_lit 0)))]), (nat_lit 4, nat_lit 0, [(nat_lit 60, (.ofNat (nat_lit 0))), (nat_lit 0, (.ofNat (nat_lit 4)))])],
  [(nat_lit 10, nat_lit 1, [(nat_lit 1, (.ofNat (nat_lit 0)))]), (nat_lit 6, nat_lit 1, [(nat_lit 5, (.ofNat (nat_lit 0))), (nat_lit 0, (.ofNat (nat_lit 0)))]), (nat_lit 4, nat_lit 0, [(nat_lit 60, (.ofNat (nat_lit 0))), (nat_lit 0, (.ofNat (nat_lit 0)))]), (nat_lit 6, nat_lit 5, [(nat_lit 3, (.ofNat (nat_lit 0))), (nat_lit 4, (.ofNat (nat_lit 0)))]), (nat_lit 4, nat_lit 0, [(nat_lit 60, (.ofNat (nat_lit 0))), (nat_lit 0, (.ofNat (nat_lit 4)))])],
  [(nat_lit 13, nat_lit 3, []), (nat_lit 6, nat_lit 1, [(nat_lit 6, (.ofNat (nat_lit 0))), (nat_lit 0, (.ofNat (nat_lit 15)))]), (nat_lit 4, nat_lit 0, [(nat_lit 60, (.ofNat (nat_lit 0))), (nat_lit 0, (.ofNat (nat_lit 6)))]), (nat_lit 6, nat_lit 0, [(nat_lit 2, (.ofNat (nat_lit 0))), (nat_lit 0, (.ofNat (nat_lit 0)))]), (nat_lit 6, nat_lit 0, [(nat_lit 5, (.ofNat (nat_lit 0))), (nat_lit 0, (.ofNat (nat_lit 0)))]), (nat_lit 4, nat_lit 0, [(nat_lit 60, (.ofNat (nat_lit 0))), (nat_lit 0, (.ofNat (nat_lit 0)))]), (nat_lit 6, nat_lit 5, [(nat_lit 3, (.ofNat (nat_lit 0))), (nat_lit 4, (.ofNat (nat_lit 0)))]), (nat_lit 4, nat_lit 0, [(nat_lit 60, (.ofNat (nat_lit 0))), (nat_lit 0, (.ofNat (nat_lit 4)))])],
  [(nat_lit 10, nat_lit 0, [(nat_lit 1, (.ofNat (nat_lit 0))), (nat_lit 7, (.ofNat (nat_lit 0))), (nat_lit 8, (.ofNat (nat_lit 0)))]), (nat_lit 0, nat_lit 1, [(nat_lit 3, (.ofNat (nat_lit 0))), (nat_lit 0, (.ofNat (nat_lit 1)))]), (nat_lit 8, nat_lit 3, []), (nat_lit 6, nat_lit 1, [(nat_lit 6, (.ofNat (nat_lit 0))), (nat_lit 0, (.ofNat (nat_lit 15)))]), (nat_lit 4, nat_lit 0, [(nat_lit 60, (.ofNat (nat_lit 0))), (nat_lit 0, (.ofNat (nat_lit 6)))]), (nat_lit 6, nat_lit 0, [(nat_lit 2, (.ofNat (nat_lit 0))), (nat_lit 0, (.ofNat (nat_lit 0)))]), (nat_lit 6, nat_lit 0, [(nat_lit 5, (.ofNat (nat_lit 0))), (nat_lit 0, (.ofNat (nat_lit 0)))]), (nat_lit 4, nat_lit 0, [(nat_lit 60, (.ofNat (nat_lit 0))), (nat_lit 0, (.ofNat (nat_lit 0)))]), (nat_lit 6, nat_lit 5, [(nat_lit 3, (.ofNat (nat_lit 0))), (nat_lit 4, (.ofNat (nat_lit 0)))]), (nat_lit 4, nat_lit 0, [(nat_lit 60, (.ofNat (nat_lit 0))), (nat_lit 0, (.ofNat (nat_lit 4)))])],
  [(nat_lit 13, nat_lit 3, []), (nat_lit 6, nat_lit 1, [(nat_lit 7, (.ofNat (nat_lit 0))), (nat_lit 0, (.ofNat (nat_lit 0)))]), (nat_lit 4, nat_lit 0, [(nat_lit 60, (.ofNat (nat_lit 0))), (nat_lit 0, (.ofNat (nat_lit 13)))]), (nat_lit 6, nat_lit 0, [(nat_lit 6, (.ofNat (nat_lit 0))), (nat_lit 0, (.ofNat (nat_lit 15)))]), (nat_lit 4, nat_lit 0, [(nat_lit 60, (.ofNat (nat_lit 0))), (nat_lit 0, (.ofNat (nat_lit 6)))]), (nat_lit 6, nat_lit 0, [(nat_lit 2, (.ofNat (nat_lit 0))), (nat_lit 0, (.ofNat (nat_lit 0)))]), (nat_lit 6, nat_lit 0, [(nat_lit 5, (.ofNat (nat_lit 0))), (nat_lit 0, (.ofNat (nat_lit 0)))]), (nat_lit 4, nat_lit 0, [(nat_lit 60, (.ofNat (nat_lit 0))), (nat_lit 0, (.ofNat (nat_lit 0)))]), (nat_lit 6, nat_lit 5, [(nat_lit 3, (.ofNat (nat_lit 0))), (nat_lit 4, (.ofNat (nat_lit 0)))]), (nat_lit 4, nat_lit 0, [(nat_lit 60, (.ofNat (nat_lit 0))), (nat_lit 0, (.ofNat (nat_lit 4)))])],
  [(nat_lit 10, nat_lit 0, [(nat_lit 1, (.ofNat (nat_lit 0))), (nat_lit 8, (.ofNat (nat_lit 0))), (nat_lit 9, (.ofNat (nat_lit 0)))]), (nat_lit 0, nat_lit 1, [(nat_lit 3, (.ofNat (nat_lit 0))), (nat_lit 0, (.ofNat (nat_lit 1)))]), (nat_lit 8, nat_lit 3, []), (nat_lit 6, nat_lit 1, [(nat_lit 7, (.ofNat (nat_lit 0))), (nat_lit 0, (.ofNat (nat_lit 0)))]), (nat_lit 4, nat_lit 0, [(nat_lit 60, (.ofNat (nat_lit 0))), (nat_lit 0, (.ofNat (nat_lit 13)))]), (nat_lit 6, nat_lit 0, [(nat_lit 6, (.ofNat (nat_lit 0))), (nat_lit 0, (.ofNat (nat_lit 15)))]), (nat_lit 4, nat_lit 0, [(nat_lit 60, (.ofNat (nat_lit 0))), (nat_lit 0, (.ofNat (nat_lit 6)))]), (nat_lit 6, nat_lit 0, [(nat_lit 2, (.ofNat (nat_lit 0))), (nat_lit 0, (.ofNat (nat_lit 0)))]), (nat_lit 6, nat_lit 0, [(nat_lit 5, (.ofNat (nat_lit 0))), (nat_lit 0, (.ofNat (nat_lit 0)))]), (nat_lit 4, nat_lit 0, [(nat_lit 60, (.ofNat (nat_lit 0))), (nat_lit 0, (.ofNat (nat_lit 0)))]), (nat_lit 6, nat_lit 5, [(nat_lit 3, (.ofNat (nat_lit 0))), (nat_lit 4, (.ofNat (nat_lit 0)))]), (nat_lit 4, nat_lit 0, [(nat_lit 60, (.ofNat (nat_lit 0))), (nat_lit 0, (.ofNat (nat_lit 4)))])],
  [(nat_lit 10, nat_lit 1, [(nat_lit 1, (.ofNat (nat_lit 0)))]), (nat_lit 6, nat_lit 0, [(nat_lit 7, (.ofNat (nat_lit 0))), (nat_lit 0, (.ofNat (nat_lit 0)))]), (nat_lit 4, nat_lit 0, [(nat_lit 60, (.ofNat (nat_lit 0))), (nat_lit 0, (.ofNat (nat_lit 13)))]), (nat_lit 6, nat_lit 0, [(nat_lit 6, (.ofNat (nat_lit 0))), (nat_lit 0, (.ofNat (nat_lit 15)))]), (nat_lit 4, nat_lit 0, [(nat_lit 60, (.ofNat (nat_lit 0))), (nat_lit 0, (.ofNat (nat_lit 6)))]), (nat_lit 6, nat_lit 0, [(nat_lit 2, (.ofNat (nat_lit 0))), (nat_lit 0, (.ofNat (nat_lit 0)))]), (nat_lit 6, nat_lit 0, [(nat_lit 5, (.ofNat (nat_lit 0))), (nat_lit 0, (.ofNat (nat_lit 0)))]), (nat_lit 4, nat_lit 0, [(nat_lit 60, (.ofNat (nat_lit 0))), (nat_lit 0, (.ofNat (nat_lit 0)))]), (nat_lit 6, nat_lit 5, [(nat_lit 3, (.ofNat (nat_lit 0))), (nat_lit 4, (.ofNat (nat_lit 0)))]), (nat_lit 4, nat_lit 0, [(nat_lit 60, (.ofNat (nat_lit 0))), (nat_lit 0, (.ofNat (nat_lit 4)))])],
  [(nat_lit 13, nat_lit 2, []), (nat_lit 6, nat_lit 1, [(nat_lit 2, (.ofNat (nat_lit 0))), (nat_lit 0, (.ofNat (nat_lit 0)))]), (nat_lit 6, nat_lit 0, [(nat_lit 5, (.ofNat (nat_lit 0))), (nat_lit 0, (.ofNat (nat_lit 0)))]), (nat_lit 4, nat_lit 0, [(nat_lit 60, (.ofNat (nat_lit 0))), (nat_lit 0, (.ofNat (nat_lit 0)))]), (nat_lit 6, nat_lit 5, [(nat_lit 3, (.ofNat (nat_lit 0))), (nat_lit 4, (.ofNat (nat_lit 0)))]), (nat_lit 4, nat_lit 0, [(nat_lit 60, (.ofNat (nat_lit 0))), (nat_lit 0, (.ofNat (nat_lit 4)))])],
  [(nat_lit 10, nat_lit 0, [(nat_lit 1, (.ofNat (nat_lit 0))), (nat_lit 6, (.ofNat (nat_lit 0))), (nat_lit 7, (.ofNat (nat_lit 0)))]), (nat_lit 0, nat_lit 1, [(nat_lit 3, (.ofNat (nat_lit 0))), (nat_lit 0, (.ofNat (nat_lit 1)))]), (nat_lit 8, nat_lit 2, []), (nat_lit 6, nat_lit 1, [(nat_lit 2, (.ofNat (nat_lit 0))), (nat_lit 0, (.ofNat (nat_lit 0)))]), (nat_lit 6, nat_lit 0, [(nat_lit 5, (.ofNat (nat_lit 0))), (nat_lit 0, (.ofNat (nat_lit 0)))]), (nat_lit 4, nat_lit 0, [(nat_lit 60, (.ofNat (nat_lit 0))), (nat_lit 0, (.ofNat (nat_lit 0)))]), (nat_lit 6, nat_lit 5, [(nat_lit 3, (.ofNat (nat_lit 0))), (nat_lit 4, (.ofNat (nat_lit 0)))]), (nat_lit 4, nat_lit 0, [(nat_lit 60, (.ofNat (nat_lit 0))), (nat_lit 0, (.ofNat (nat_lit 4)))])]]
def zFqe_readLaw_0 : List (List zK) := []
def zDqe_readLaw_1 : List (List zK) := [[(nat_lit 7, nat_lit 0, [(nat_lit 1, (.ofNat (nat_lit 0))), (nat_lit 0, (.ofNat (nat_lit 3)))]), (nat_lit 4, nat_lit 0, [(nat_lit 47, (.ofNat (nat_lit 0))), (nat_lit 0, (.ofNat (nat_lit 1)))]), (nat_lit 8, nat_lit 4, [(nat_lit 2, (.ofNat (nat_lit 0)))]), (nat_lit 9, nat_lit 0, [(nat_lit 0, (.ofNat (nat_lit 1))), (nat_lit 2, (.ofNat (nat_lit 0)))])]]
def zEqe_readLaw_1 : List (List zK) := [[(nat_lit 13, nat_lit 4, [(nat_lit 2, (.ofNat (nat_lit 0)))]), (nat_lit 9, nat_lit 0, [(nat_lit 0, (.ofNat (nat_lit 1))), (nat_lit 2, (.ofNat (nat_lit 0)))])],
  [(nat_lit 11, nat_lit 0, [(nat_lit 0, (.ofNat (nat_lit 0)))]), (nat_lit 5, nat_lit 0, [(nat_lit 50, (.ofNat (nat_lit 0))), (nat_lit 1, (.ofNat (nat_lit 0))), (nat_lit 4, (.ofNat (nat_lit 0)))]), (nat_lit 4, nat_lit 0, [(nat_lit 47, (.ofNat (nat_lit 0))), (nat_lit 0, (.ofNat (nat_lit 1)))]), (nat_lit 8, nat_lit 4, [(nat_lit 2, (.ofNat (nat_lit 0)))]), (nat_lit 9, nat_lit 0, [(nat_lit 0, (.ofNat (nat_lit 1))), (nat_lit 2, (.ofNat (nat_lit 0)))])]]
def zFqe_readLaw_1 : List (List zK) := [[(nat_lit 7, nat_lit 4, [(nat_lit 0, (.ofNat (nat_lit 1))), (nat_lit 2, (.ofNat (nat_lit 0)))])]]
set_option maxHeartbeats 8000000 in
theorem zqe_readLaw {ro : Nat → List Int32} (hro : ro 2 = [0, 1, 2, 3, 4, 4, 4, 4, 4, 4, 5, 5, 6, 6]) : zMet pr_P pr_K pr_df ro (sm_X0 1 6) 4 38 tm_qe [(.inr (.inr (.inl (nat_lit 60))))] 0 [(nat_lit 60, nat_lit 3, nat_lit 1), (nat_lit 60, nat_lit 9, nat_lit 61), (nat_lit 60, nat_lit 10, nat_lit 62), (nat_lit 60, nat_lit 11, nat_lit 63), (nat_lit 60, nat_lit 2, nat_lit 32), (nat_lit 32, nat_lit 8, nat_lit 33), (nat_lit 32, nat_lit 9, nat_lit 34), (nat_lit 32, nat_lit 10, nat_lit 35), (nat_lit 32, nat_lit 11, nat_lit 36), (nat_lit 32, nat_lit 12, nat_lit 41), (nat_lit 32, nat_lit 13, nat_lit 46), (nat_lit 32, nat_lit 14, nat_lit 47), (nat_lit 36, nat_lit 0, nat_lit 37), (nat_lit 41, nat_lit 0, nat_lit 42), (nat_lit 36, nat_lit 1, nat_lit 38), (nat_lit 41, nat_lit 1, nat_lit 43), (nat_lit 36, nat_lit 2, nat_lit 39), (nat_lit 41, nat_lit 2, nat_lit 44), (nat_lit 36, nat_lit 3, nat_lit 40), (nat_lit 41, nat_lit 3, nat_lit 45), (nat_lit 47, nat_lit 2, nat_lit 48), (nat_lit 47, nat_lit 3, nat_lit 49), (nat_lit 47, nat_lit 4, nat_lit 50), (nat_lit 47, nat_lit 5, nat_lit 51), (nat_lit 47, nat_lit 6, nat_lit 52)] [] (fun xs η => sP wl_qe zTr zPqe_readLaw xs η ∧ pPqe_readLaw xs η) (fun xs η y η' => sQ wl_qe zTr zOqe_readLaw zMqe_readLaw xs η y η' ∧ pQqe_readLaw xs η y η') :=
  zmet_alt (zmea_gen (mi := (nat_lit 0, nat_lit 1, nat_lit 3, nat_lit 5, nat_lit 0, tX3_readLaw)) (cd := [(nat_lit 31, nat_lit 0, nat_lit 0, [(.inr (.inr (.inl (nat_lit 60)))), (.inl (nat_lit 1, (.ofNat (nat_lit 0)))), (.inl (nat_lit 2, (.ofNat (nat_lit 0))))], nat_lit 0, [(nat_lit 60, nat_lit 3, nat_lit 1), (nat_lit 60, nat_lit 9, nat_lit 61), (nat_lit 60, nat_lit 10, nat_lit 62), (nat_lit 60, nat_lit 11, nat_lit 63), (nat_lit 60, nat_lit 2, nat_lit 32), (nat_lit 32, nat_lit 8, nat_lit 33), (nat_lit 32, nat_lit 9, nat_lit 34), (nat_lit 32, nat_lit 10, nat_lit 35), (nat_lit 32, nat_lit 11, nat_lit 36), (nat_lit 32, nat_lit 12, nat_lit 41), (nat_lit 32, nat_lit 13, nat_lit 46), (nat_lit 32, nat_lit 14, nat_lit 47), (nat_lit 36, nat_lit 0, nat_lit 37), (nat_lit 41, nat_lit 0, nat_lit 42), (nat_lit 36, nat_lit 1, nat_lit 38), (nat_lit 41, nat_lit 1, nat_lit 43), (nat_lit 36, nat_lit 2, nat_lit 39), (nat_lit 41, nat_lit 2, nat_lit 44), (nat_lit 36, nat_lit 3, nat_lit 40), (nat_lit 41, nat_lit 3, nat_lit 45), (nat_lit 47, nat_lit 2, nat_lit 48), (nat_lit 47, nat_lit 3, nat_lit 49), (nat_lit 47, nat_lit 4, nat_lit 50), (nat_lit 47, nat_lit 5, nat_lit 51), (nat_lit 47, nat_lit 6, nat_lit 52)], []), (nat_lit 45, nat_lit 1, nat_lit 2, [(.inr (.inr (.inl (nat_lit 60))))], nat_lit 0, [(nat_lit 60, nat_lit 3, nat_lit 1), (nat_lit 60, nat_lit 9, nat_lit 61), (nat_lit 60, nat_lit 10, nat_lit 62), (nat_lit 60, nat_lit 11, nat_lit 63), (nat_lit 60, nat_lit 2, nat_lit 32), (nat_lit 32, nat_lit 8, nat_lit 33), (nat_lit 32, nat_lit 9, nat_lit 34), (nat_lit 32, nat_lit 10, nat_lit 35), (nat_lit 32, nat_lit 11, nat_lit 36), (nat_lit 32, nat_lit 12, nat_lit 41), (nat_lit 32, nat_lit 13, nat_lit 46), (nat_lit 32, nat_lit 14, nat_lit 47), (nat_lit 36, nat_lit 0, nat_lit 37), (nat_lit 41, nat_lit 0, nat_lit 42), (nat_lit 36, nat_lit 1, nat_lit 38), (nat_lit 41, nat_lit 1, nat_lit 43), (nat_lit 36, nat_lit 2, nat_lit 39), (nat_lit 41, nat_lit 2, nat_lit 44), (nat_lit 36, nat_lit 3, nat_lit 40), (nat_lit 41, nat_lit 3, nat_lit 45), (nat_lit 47, nat_lit 2, nat_lit 48), (nat_lit 47, nat_lit 3, nat_lit 49), (nat_lit 47, nat_lit 4, nat_lit 50), (nat_lit 47, nat_lit 5, nat_lit 51), (nat_lit 47, nat_lit 6, nat_lit 52)], []), (nat_lit 39, nat_lit 2, nat_lit 3, [(.inr (.inr (.inl (nat_lit 60))))], nat_lit 2, [(nat_lit 60, nat_lit 3, nat_lit 1), (nat_lit 60, nat_lit 9, nat_lit 61), (nat_lit 60, nat_lit 10, nat_lit 62), (nat_lit 60, nat_lit 11, nat_lit 63), (nat_lit 60, nat_lit 2, nat_lit 32), (nat_lit 32, nat_lit 8, nat_lit 33), (nat_lit 32, nat_lit 9, nat_lit 34), (nat_lit 32, nat_lit 10, nat_lit 35), (nat_lit 32, nat_lit 11, nat_lit 36), (nat_lit 32, nat_lit 12, nat_lit 41), (nat_lit 32, nat_lit 13, nat_lit 46), (nat_lit 32, nat_lit 14, nat_lit 47), (nat_lit 36, nat_lit 0, nat_lit 37), (nat_lit 41, nat_lit 0, nat_lit 42), (nat_lit 36, nat_lit 1, nat_lit 38), (nat_lit 41, nat_lit 1, nat_lit 43), (nat_lit 36, nat_lit 2, nat_lit 39), (nat_lit 41, nat_lit 2, nat_lit 44), (nat_lit 36, nat_lit 3, nat_lit 40), (nat_lit 41, nat_lit 3, nat_lit 45), (nat_lit 47, nat_lit 2, nat_lit 48), (nat_lit 47, nat_lit 3, nat_lit 49), (nat_lit 47, nat_lit 4, nat_lit 50), (nat_lit 47, nat_lit 5, nat_lit 51), (nat_lit 47, nat_lit 6, nat_lit 52)], []), (nat_lit 40, nat_lit 3, nat_lit 3, [(.inr (.inr (.inl (nat_lit 60))))], nat_lit 2, [(nat_lit 60, nat_lit 3, nat_lit 1), (nat_lit 60, nat_lit 9, nat_lit 61), (nat_lit 60, nat_lit 10, nat_lit 62), (nat_lit 60, nat_lit 11, nat_lit 63), (nat_lit 60, nat_lit 2, nat_lit 32), (nat_lit 32, nat_lit 8, nat_lit 33), (nat_lit 32, nat_lit 9, nat_lit 34), (nat_lit 32, nat_lit 10, nat_lit 35), (nat_lit 32, nat_lit 11, nat_lit 36), (nat_lit 32, nat_lit 12, nat_lit 41), (nat_lit 32, nat_lit 13, nat_lit 46), (nat_lit 32, nat_lit 14, nat_lit 47), (nat_lit 36, nat_lit 0, nat_lit 37), (nat_lit 41, nat_lit 0, nat_lit 42), (nat_lit 36, nat_lit 1, nat_lit 38), (nat_lit 41, nat_lit 1, nat_lit 43), (nat_lit 36, nat_lit 2, nat_lit 39), (nat_lit 41, nat_lit 2, nat_lit 44), (nat_lit 36, nat_lit 3, nat_lit 40), (nat_lit 41, nat_lit 3, nat_lit 45), (nat_lit 47, nat_lit 2, nat_lit 48), (nat_lit 47, nat_lit 3, nat_lit 49), (nat_lit 47, nat_lit 4, nat_lit 50), (nat_lit 47, nat_lit 5, nat_lit 51), (nat_lit 47, nat_lit 6, nat_lit 52)], []), (nat_lit 42, nat_lit 4, nat_lit 1, [(.inr (.inr (.inl (nat_lit 60)))), (.inl (nat_lit 1, (.ofNat (nat_lit 0))))], nat_lit 0, [(nat_lit 60, nat_lit 3, nat_lit 1), (nat_lit 60, nat_lit 9, nat_lit 61), (nat_lit 60, nat_lit 10, nat_lit 62), (nat_lit 60, nat_lit 11, nat_lit 63), (nat_lit 60, nat_lit 2, nat_lit 32), (nat_lit 32, nat_lit 8, nat_lit 33), (nat_lit 32, nat_lit 9, nat_lit 34), (nat_lit 32, nat_lit 10, nat_lit 35), (nat_lit 32, nat_lit 11, nat_lit 36), (nat_lit 32, nat_lit 12, nat_lit 41), (nat_lit 32, nat_lit 13, nat_lit 46), (nat_lit 32, nat_lit 14, nat_lit 47), (nat_lit 36, nat_lit 0, nat_lit 37), (nat_lit 41, nat_lit 0, nat_lit 42), (nat_lit 36, nat_lit 1, nat_lit 38), (nat_lit 41, nat_lit 1, nat_lit 43), (nat_lit 36, nat_lit 2, nat_lit 39), (nat_lit 41, nat_lit 2, nat_lit 44), (nat_lit 36, nat_lit 3, nat_lit 40), (nat_lit 41, nat_lit 3, nat_lit 45), (nat_lit 47, nat_lit 2, nat_lit 48), (nat_lit 47, nat_lit 3, nat_lit 49), (nat_lit 47, nat_lit 4, nat_lit 50), (nat_lit 47, nat_lit 5, nat_lit 51), (nat_lit 47, nat_lit 6, nat_lit 52)], [])]) (cu := zUqe_readLaw) (cs := [(nat_lit 0, zPqe_flaw0, zOqe_flaw0, zMqe_flaw0), (nat_lit 1, zPqe_next0, zOqe_next0, zMqe_next0), (nat_lit 2, zPqe_readOperand, zOqe_readOperand, zMqe_readOperand), (nat_lit 3, zPqe_readSign, zOqe_readSign, zMqe_readSign), (nat_lit 4, zPqe_unwind, zOqe_unwind, zMqe_unwind)]) (iv := zVqe_readLaw) (po := [zOqe_readLaw]) (pr := zPqe_readLaw) (mods := zMqe_readLaw) (D7 := zDqe_readLaw) (D0 := zEqe_readLaw) (Dm := zFqe_readLaw) (f0 := 43) pCqe_readLaw qCqe_readLaw iCqe_readLaw pPqe_readLaw (fun xs η _ y η' => pQqe_readLaw xs η y η') zX_low pr_mtR rfl (List.forall_mem_cons.mpr ⟨zqe_flaw0, List.forall_mem_cons.mpr ⟨zqe_next0, List.forall_mem_cons.mpr ⟨zqe_readOperand hro, List.forall_mem_cons.mpr ⟨zqe_readSign hro, List.forall_mem_cons.mpr ⟨zqe_unwind hro, fun _ h => nomatch h⟩⟩⟩⟩⟩) (by decide +kernel) (by decide +kernel) (by decide +kernel)
    (by
      intro xs η hr hl hp hpp
      match xs, hl, hp, hpp with
      | [], _, hp, hpp =>
        refine List.forall_mem_cons.mpr ⟨?_, List.forall_mem_cons.mpr ⟨?_, List.forall_mem_cons.mpr ⟨?_, List.forall_mem_cons.mpr ⟨?_, List.forall_mem_cons.mpr ⟨?_, fun _ h => nomatch h⟩⟩⟩⟩⟩
        · show ∀ x1 : Int, x1 = η 60 (Int.toNat 6) → zok 0 x1 → (x1 = 19) → ∀ x2 : Int, x2 = η 60 (Int.toNat 8) → zok 0 x2 → ∀ x3 : Int, x3 = η 50 (Int.toNat x2) → zok 0 x3 → ∀ x4 : Int, x4 = η 49 (Int.toNat x2) → zok 0 x4 → (x3 ≤ x4) → ((gC2 wl_qe [(nat_lit 0, zPqe_flaw0, zOqe_flaw0, zMqe_flaw0), (nat_lit 1, zPqe_next0, zOqe_next0, zMqe_next0), (nat_lit 2, zPqe_readOperand, zOqe_readOperand, zMqe_readOperand), (nat_lit 3, zPqe_readSign, zOqe_readSign, zMqe_readSign), (nat_lit 4, zPqe_unwind, zOqe_unwind, zMqe_unwind)] pCqe_readLaw qCqe_readLaw) 1).1 [] η
          have wk0 : yp_wk η := hpp.2
          have hpp := hpp.1
          intro x1 e1 r1 c1 x2 e2 r2 x3 e3 r3 x4 e4 r4 c2
          refine yj_a ?_ ?_
          · exact hpp
          · exact wk0
        · show ∀ x1 : Int, x1 = η 60 (Int.toNat 6) → zok 0 x1 → (x1 = 19) → ∀ x2 : Int, x2 = η 60 (Int.toNat 8) → zok 0 x2 → ∀ x3 : Int, x3 = η 50 (Int.toNat x2) → zok 0 x3 → ∀ x4 : Int, x4 = η 49 (Int.toNat x2) → zok 0 x4 → (x4 < x3) → ∀ x5 : Int, x5 = η 60 (Int.toNat 7) → zok 0 x5 → ((gC2 wl_qe [(nat_lit 0, zPqe_flaw0, zOqe_flaw0, zMqe_flaw0), (nat_lit 1, zPqe_next0, zOqe_next0, zMqe_next0), (nat_lit 2, zPqe_readOperand, zOqe_readOperand, zMqe_readOperand), (nat_lit 3, zPqe_readSign, zOqe_readSign, zMqe_readSign), (nat_lit 4, zPqe_unwind, zOqe_unwind, zMqe_unwind)] pCqe_readLaw qCqe_readLaw) 0).1 [3, x5] η
          have wk0 : yp_wk η := hpp.2
          have hpp := hpp.1
          intro x1 e1 r1 c1 x2 e2 r2 x3 e3 r3 x4 e4 r4 c2 x5 e5 r5
          refine yj_a ?_ ?_
          · exact hpp
          · exact wk0
        · show ∀ x1 : Int, x1 = η 60 (Int.toNat 6) → zok 0 x1 → (x1 = 19) → ∀ x2 : Int, x2 = η 60 (Int.toNat 8) → zok 0 x2 → ∀ x3 : Int, x3 = η 50 (Int.toNat x2) → zok 0 x3 → ∀ x4 : Int, x4 = η 49 (Int.toNat x2) → zok 0 x4 → (x4 < x3) → ∀ x5 : Int, x5 = η 60 (Int.toNat 7) → zok 0 x5 → ∀ (x6 : Int) (η1 : zE), ((gC2 wl_qe [(nat_lit 0, zPqe_flaw0, zOqe_flaw0, zMqe_flaw0), (nat_lit 1, zPqe_next0, zOqe_next0, zMqe_next0), (nat_lit 2, zPqe_readOperand, zOqe_readOperand, zMqe_readOperand), (nat_lit 3, zPqe_readSign, zOqe_readSign, zMqe_readSign), (nat_lit 4, zPqe_unwind, zOqe_unwind, zMqe_unwind)] pCqe_readLaw qCqe_readLaw) 0).2 [3, x5] η x6 η1 → (fun (_ : Nat) (y : Int) (η' : zE) => pQqe_readLaw [] η y η') 0 0 η1
          have wk0 : yp_wk η := hpp.2
          have hpp := hpp.1
          intro x1 e1 r1 c1 x2 e2 r2 x3 e3 r3 x4 e4 r4 c2 x5 e5 r5 x6 η1 h6
          have y6 : fQqe_flaw0 [3, x5] η x6 η1 := h6.2.2
          have k6 : sQ wl_qe zTr zOqe_flaw0 zMqe_flaw0 [3, x5] η x6 η1 ∧ oQqe_flaw0 [3, x5] η x6 η1 := ⟨h6.1, h6.2.1⟩
          refine yj_a ?_ ?_
          · have y6 : fQqe_flaw0 [3, x5] η x6 η1 := h6.2.2
            have k6 : sQ wl_qe zTr zOqe_flaw0 zMqe_flaw0 [3, x5] η x6 η1 ∧ oQqe_flaw0 [3, x5] η x6 η1 := ⟨h6.1, h6.2.1⟩
            exact k6.2
          · have e1 : x1 = η 60 6 := e1
            clear r1
            have e2 : x2 = η 60 8 := e2
            clear r2
            have e3 : x3 = η 50 (Int.toNat x2) := e3
            clear r3
            have e4 : x4 = η 49 (Int.toNat x2) := e4
            clear r4
            have e5 : x5 = η 60 7 := e5
            clear r5
            have b6 : η1 = yp_flw 3 x5 η := y6
            clear k6 h6
            subst e1
            subst e2
            subst e3
            subst e4
            subst e5
            subst b6
            show _ = yp_law η
            unfold yp_law
            (repeat' split) <;> first | (exfalso; omega) | rfl
        · show ∀ x1 : Int, x1 = η 60 (Int.toNat 6) → zok 0 x1 → (¬ x1 = 19) → ∀ x2 : Int, x2 = η 60 (Int.toNat 7) → zok 0 x2 → ((gC2 wl_qe [(nat_lit 0, zPqe_flaw0, zOqe_flaw0, zMqe_flaw0), (nat_lit 1, zPqe_next0, zOqe_next0, zMqe_next0), (nat_lit 2, zPqe_readOperand, zOqe_readOperand, zMqe_readOperand), (nat_lit 3, zPqe_readSign, zOqe_readSign, zMqe_readSign), (nat_lit 4, zPqe_unwind, zOqe_unwind, zMqe_unwind)] pCqe_readLaw qCqe_readLaw) 0).1 [1, x2] η
          have wk0 : yp_wk η := hpp.2
          have hpp := hpp.1
          intro x1 e1 r1 c1 x2 e2 r2
          refine yj_a ?_ ?_
          · exact hpp
          · exact wk0
        · show ∀ x1 : Int, x1 = η 60 (Int.toNat 6) → zok 0 x1 → (¬ x1 = 19) → ∀ x2 : Int, x2 = η 60 (Int.toNat 7) → zok 0 x2 → ∀ (x3 : Int) (η1 : zE), ((gC2 wl_qe [(nat_lit 0, zPqe_flaw0, zOqe_flaw0, zMqe_flaw0), (nat_lit 1, zPqe_next0, zOqe_next0, zMqe_next0), (nat_lit 2, zPqe_readOperand, zOqe_readOperand, zMqe_readOperand), (nat_lit 3, zPqe_readSign, zOqe_readSign, zMqe_readSign), (nat_lit 4, zPqe_unwind, zOqe_unwind, zMqe_unwind)] pCqe_readLaw qCqe_readLaw) 0).2 [1, x2] η x3 η1 → (fun (_ : Nat) (y : Int) (η' : zE) => pQqe_readLaw [] η y η') 0 0 η1
          have wk0 : yp_wk η := hpp.2
          have hpp := hpp.1
          intro x1 e1 r1 c1 x2 e2 r2 x3 η1 h3
          have y3 : fQqe_flaw0 [1, x2] η x3 η1 := h3.2.2
          have k3 : sQ wl_qe zTr zOqe_flaw0 zMqe_flaw0 [1, x2] η x3 η1 ∧ oQqe_flaw0 [1, x2] η x3 η1 := ⟨h3.1, h3.2.1⟩
          refine yj_a ?_ ?_
          · have y3 : fQqe_flaw0 [1, x2] η x3 η1 := h3.2.2
            have k3 : sQ wl_qe zTr zOqe_flaw0 zMqe_flaw0 [1, x2] η x3 η1 ∧ oQqe_flaw0 [1, x2] η x3 η1 := ⟨h3.1, h3.2.1⟩
            exact k3.2
          · have e1 : x1 = η 60 6 := e1
            clear r1
            have e2 : x2 = η 60 7 := e2
            clear r2
            have b3 : η1 = yp_flw 1 x2 η := y3
            clear k3 h3
            subst e1
            subst e2
            subst b3
            show _ = yp_law η
            unfold yp_law
            (repeat' split) <;> first | (exfalso; omega) | rfl
      )
    (by
      intro xs η hr hl hp hpp
      match xs, hl, hp, hpp with
      | [], _, hp, hpp =>
        refine List.forall_mem_cons.mpr ⟨?_, List.forall_mem_cons.mpr ⟨?_, List.forall_mem_cons.mpr ⟨?_, List.forall_mem_cons.mpr ⟨?_, fun _ h => nomatch h⟩⟩⟩⟩
        · show ∀ x1 : Int, x1 = η 60 (Int.toNat 6) → zok 0 x1 → (x1 = 19) → ∀ x2 : Int, x2 = η 60 (Int.toNat 8) → zok 0 x2 → (0 : Int) ≤ x2 ∧ (x2 : Int) < 3
          have wk0 : yp_wk η := hpp.2
          have hpp := hpp.1
          intro x1 e1 r1 c1 x2 e2 r2
          have kv := hpp.1.1.1 (e1.symm.trans c1)
          have e2 : x2 = η 60 8 := e2
          omega
        · show ∀ x1 : Int, x1 = η 60 (Int.toNat 6) → zok 0 x1 → (x1 = 19) → ∀ x2 : Int, x2 = η 60 (Int.toNat 8) → zok 0 x2 → ∀ x3 : Int, x3 = η 50 (Int.toNat x2) → zok 0 x3 → (0 : Int) ≤ x2 ∧ (x2 : Int) < 3
          have wk0 : yp_wk η := hpp.2
          have hpp := hpp.1
          intro x1 e1 r1 c1 x2 e2 r2 x3 e3 r3
          have kv := hpp.1.1.1 (e1.symm.trans c1)
          have e2 : x2 = η 60 8 := e2
          omega
        · show ∀ x1 : Int, x1 = η 60 (Int.toNat 6) → zok 0 x1 → (x1 = 19) → ∀ x2 : Int, x2 = η 60 (Int.toNat 8) → zok 0 x2 → ∀ x3 : Int, x3 = η 50 (Int.toNat x2) → zok 0 x3 → ∀ x4 : Int, x4 = η 49 (Int.toNat x2) → zok 0 x4 → (x3 ≤ x4) → ∀ (x5 : Int) (η1 : zE), ((gC wl_qe [(nat_lit 0, zPqe_flaw0, zOqe_flaw0, zMqe_flaw0), (nat_lit 1, zPqe_next0, zOqe_next0, zMqe_next0), (nat_lit 2, zPqe_readOperand, zOqe_readOperand, zMqe_readOperand), (nat_lit 3, zPqe_readSign, zOqe_readSign, zMqe_readSign), (nat_lit 4, zPqe_unwind, zOqe_unwind, zMqe_unwind)] pCqe_readLaw qCqe_readLaw) 1).2 [] η x5 η1 → ∀ x6 : Int, x6 = η1 47 (Int.toNat 1) → zok 0 x6 → (0 : Int) ≤ x2 ∧ (x2 : Int) < 3
          have wk0 : yp_wk η := hpp.2
          have hpp := hpp.1
          intro x1 e1 r1 c1 x2 e2 r2 x3 e3 r3 x4 e4 r4 c2 x5 η1 h5 x6 e6 r6
          have y5 : fQqe_next0 [] η x5 η1 := h5.2.2
          have k5 : sQ wl_qe zTr zOqe_next0 zMqe_next0 [] η x5 η1 ∧ oQqe_next0 [] η x5 η1 := ⟨h5.1, h5.2.1⟩
          have kv := hpp.1.1.1 (e1.symm.trans c1)
          have e2 : x2 = η 60 8 := e2
          omega
        · show ∀ x1 : Int, x1 = η 60 (Int.toNat 6) → zok 0 x1 → (x1 = 19) → ∀ x2 : Int, x2 = η 60 (Int.toNat 8) → zok 0 x2 → ∀ x3 : Int, x3 = η 50 (Int.toNat x2) → zok 0 x3 → ∀ x4 : Int, x4 = η 49 (Int.toNat x2) → zok 0 x4 → (x3 ≤ x4) → ∀ (x5 : Int) (η1 : zE), ((gC wl_qe [(nat_lit 0, zPqe_flaw0, zOqe_flaw0, zMqe_flaw0), (nat_lit 1, zPqe_next0, zOqe_next0, zMqe_next0), (nat_lit 2, zPqe_readOperand, zOqe_readOperand, zMqe_readOperand), (nat_lit 3, zPqe_readSign, zOqe_readSign, zMqe_readSign), (nat_lit 4, zPqe_unwind, zOqe_unwind, zMqe_unwind)] pCqe_readLaw qCqe_readLaw) 1).2 [] η x5 η1 → ∀ x6 : Int, x6 = η1 47 (Int.toNat 1) → zok 0 x6 → ∀ η2 : zE, η2 = zup η1 49 (Int.toNat x2) x6 → ∀ η3 : zE, η3 = zup η2 60 (Int.toNat 12) 0 → ∀ η4 : zE, η4 = zup η3 60 (Int.toNat 13) 0 → (fun c ys η1 => zsI wl_qe zTr zVqe_readLaw zMqe_readLaw η c ys η1 ∧ iCqe_readLaw [] η c ys η1) 0 [x2, 1, 0] η4
          have wk0 : yp_wk η := hpp.2
          have hpp := hpp.1
          intro x1 e1 r1 c1 x2 e2 r2 x3 e3 r3 x4 e4 r4 c2 x5 η1 h5 x6 e6 r6 η2 eη2 η3 eη3 η4 eη4
          have y5 : fQqe_next0 [] η x5 η1 := h5.2.2
          have k5 : sQ wl_qe zTr zOqe_next0 zMqe_next0 [] η x5 η1 ∧ oQqe_next0 [] η x5 η1 := ⟨h5.1, h5.2.1⟩
          refine yj_b ?_ ?_
          · have y5 : fQqe_next0 [] η x5 η1 := h5.2.2
            have k5 : sQ wl_qe zTr zOqe_next0 zMqe_next0 [] η x5 η1 ∧ oQqe_next0 [] η x5 η1 := ⟨h5.1, h5.2.1⟩
            have kv := hpp.1.1.1 (e1.symm.trans c1)
            have e2 : x2 = η 60 8 := e2
            have e6 : x6 = η1 47 1 := e6
            have b6 : (0 : Int) ≤ η1 47 1 ∧ η1 47 1 ≤ 64 := wf_ok (a := 1) (b := 1) (z := (0, 64)) k5.1.1 (by decide +kernel) (Nat.le_refl _) (Nat.le_refl _)
            have b0 : (0 : Int) ≤ η1 47 0 ∧ η1 47 0 ≤ 64 := wf_ok (a := 0) (b := 0) (z := (0, 64)) k5.1.1 (by decide +kernel) (Nat.le_refl _) (Nat.le_refl _)
            have w2 : wB wl_qe zTr η2 := by rw [eη2]; exact wk_ok (a := 0) (b := 2) (z := (0, 64)) zTr_k (GR := []) k5.1.1 (by decide +kernel) (by omega) (by omega) (show (0 : Int) ≤ x6 by omega) (show x6 ≤ 64 by omega)
            have w3 : wB wl_qe zTr η3 := by rw [eη3]; exact wk_ok (a := 12) (b := 12) (z := (0, 0)) zTr_k (GR := []) w2 (by decide +kernel) (by decide) (by decide) (by decide) (by decide)
            have w4 : wB wl_qe zTr η4 := by rw [eη4]; exact wk_ok (a := 13) (b := 13) (z := (0, 0)) zTr_k (GR := []) w3 (by decide +kernel) (by decide) (by decide) (by decide) (by decide)
            have g4 : G_q η4 := by rw [eη4, eη3, eη2]; exact start_q k5.2.1 b0.1
            have z4 : zFm zMqe_readLaw η η4 := by
              rw [eη4, eη3, eη2]
              exact zFm_up (zFm_up (zFm_up (zFm_tr zFm_rf k5.1.2.2.2.1 (by decide +kernel)) (zin2_of (q := (49, 0)) (by decide) rfl (Or.inl rfl))) rfl) rfl
            exact ⟨⟨⟨w4, ⟨⟨show (0 : Int) ≤ x2 by omega, show x2 ≤ 2 by omega⟩, ⟨by decide, by decide⟩, ⟨by decide, by decide⟩, trivial⟩, fun f hf => nomatch hf⟩, z4⟩, g4⟩
          · have e1 : x1 = η 60 6 := e1
            clear r1
            have e2 : x2 = η 60 8 := e2
            clear r2
            have e3 : x3 = η 50 (Int.toNat x2) := e3
            clear r3
            have e4 : x4 = η 49 (Int.toNat x2) := e4
            clear r4
            have b5 : η1 = (yp_adv η) := y5
            clear k5 h5
            have e6 : x6 = η1 47 1 := e6
            clear r6
            have eη2 : η2 = zup η1 49 (Int.toNat x2) x6 := eη2
            have eη3 : η3 = zup η2 60 12 0 := eη3
            have eη4 : η4 = zup η3 60 13 0 := eη4
            subst e1
            subst e2
            subst e3
            subst e4
            subst b5
            subst e6
            subst eη2
            subst eη3
            subst eη4
            show yp_lJ η (η 60 8) 1 0 _
            refine ⟨rfl, by omega, by omega, rfl, Int.le_refl _, ?_⟩
            rw [Int.sub_zero, show (η 60 4 + 1).toNat = (η 60 4).toNat + 1 by have b4 : (0 : Int) ≤ η 60 4 ∧ η 60 4 ≤ 700 := wf_ok (a := 4) (b := 4) (z := (0, 700)) hp.1 (by decide +kernel) (Nat.le_refl _) (Nat.le_refl _); omega]
            rfl
      )
    (List.forall_mem_cons.mpr ⟨⟨zDqe_readLaw_0, zEqe_readLaw_0, zFqe_readLaw_0, 26, by decide +kernel, (by
      intro xs η0 hlx hp hpp ys η hr hl hI hig
      match ys, hl, hI, hig with
      | [x1, x2, x3], _, hI, hig =>
        refine ⟨?_, ?_⟩
        · refine List.forall_mem_cons.mpr ⟨?_, List.forall_mem_cons.mpr ⟨?_, List.forall_mem_cons.mpr ⟨?_, List.forall_mem_cons.mpr ⟨?_, List.forall_mem_cons.mpr ⟨?_, List.forall_mem_cons.mpr ⟨?_, List.forall_mem_cons.mpr ⟨?_, List.forall_mem_cons.mpr ⟨?_, List.forall_mem_cons.mpr ⟨?_, fun _ h => nomatch h⟩⟩⟩⟩⟩⟩⟩⟩⟩
          · show ∀ x4 : Int, x4 = η 60 (Int.toNat 4) → zok 0 x4 → (x4 < x3) → (iCqe_readLaw xs η0) 1 [x1] η ∧ (fun (_ : Nat) (_ : List Int) (_ : zE) => (0 : Nat)) 1 [x1] η < 1
            have wk0 : yp_wk η := wk_of hpp.2 (fun j => hI.2 62 j (zinr_not (by decide +kernel)))
            have hpp := hpp.1
            have fig := hig.2
            have hig := hig.1
            intro x4 e4 r4 c1
            refine yj_c ?_ ?_
            · exact ⟨hig, Nat.zero_lt_one⟩
            · have fig : yp_lJ η0 x1 x2 x3 η := fig
              have e4 : x4 = η 60 4 := e4
              exact lwl_e fig (Or.inl (by omega))
          · show ∀ x4 : Int, x4 = η 60 (Int.toNat 4) → zok 0 x4 → (x3 ≤ x4) → ∀ x5 : Int, x5 = η 60 (Int.toNat 0) → zok 0 x5 → (¬ x5 = 0) → (iCqe_readLaw xs η0) 1 [x1] η ∧ (fun (_ : Nat) (_ : List Int) (_ : zE) => (0 : Nat)) 1 [x1] η < 1
            have wk0 : yp_wk η := wk_of hpp.2 (fun j => hI.2 62 j (zinr_not (by decide +kernel)))
            have hpp := hpp.1
            have fig := hig.2
            have hig := hig.1
            intro x4 e4 r4 c1 x5 e5 r5 c2
            refine yj_c ?_ ?_
            · exact ⟨hig, Nat.zero_lt_one⟩
            · have fig : yp_lJ η0 x1 x2 x3 η := fig
              have e4 : x4 = η 60 4 := e4
              have e5 : x5 = η 60 0 := e5
              exact lwl_e fig (Or.inr (Or.inl (by omega)))
          · show ∀ x4 : Int, x4 = η 60 (Int.toNat 4) → zok 0 x4 → (x3 ≤ x4) → ∀ x5 : Int, x5 = η 60 (Int.toNat 0) → zok 0 x5 → (x5 = 0) → (x2 = 0) → ∀ x6 : Int, x6 = η 60 (Int.toNat 6) → zok 0 x6 → (¬ x6 = 15) → ((gC2 wl_qe [(nat_lit 0, zPqe_flaw0, zOqe_flaw0, zMqe_flaw0), (nat_lit 1, zPqe_next0, zOqe_next0, zMqe_next0), (nat_lit 2, zPqe_readOperand, zOqe_readOperand, zMqe_readOperand), (nat_lit 3, zPqe_readSign, zOqe_readSign, zMqe_readSign), (nat_lit 4, zPqe_unwind, zOqe_unwind, zMqe_unwind)] pCqe_readLaw qCqe_readLaw) 3).1 [] η
            have wk0 : yp_wk η := wk_of hpp.2 (fun j => hI.2 62 j (zinr_not (by decide +kernel)))
            have hpp := hpp.1
            have fig := hig.2
            have hig := hig.1
            intro x4 e4 r4 c1 x5 e5 r5 c2 c3 x6 e6 r6 c4
            refine yj_a ?_ ?_
            · exact ⟨hig, e5.symm.trans c2⟩
            · exact wk0
          · show ∀ x4 : Int, x4 = η 60 (Int.toNat 4) → zok 0 x4 → (x3 ≤ x4) → ∀ x5 : Int, x5 = η 60 (Int.toNat 0) → zok 0 x5 → (x5 = 0) → (x2 = 0) → ∀ x6 : Int, x6 = η 60 (Int.toNat 6) → zok 0 x6 → (¬ x6 = 15) → ∀ (x7 : Int) (η1 : zE), ((gC2 wl_qe [(nat_lit 0, zPqe_flaw0, zOqe_flaw0, zMqe_flaw0), (nat_lit 1, zPqe_next0, zOqe_next0, zMqe_next0), (nat_lit 2, zPqe_readOperand, zOqe_readOperand, zMqe_readOperand), (nat_lit 3, zPqe_readSign, zOqe_readSign, zMqe_readSign), (nat_lit 4, zPqe_unwind, zOqe_unwind, zMqe_unwind)] pCqe_readLaw qCqe_readLaw) 3).2 [] η x7 η1 → ∀ x8 : Int, x8 = zd 0 1 x3 1 → (iCqe_readLaw xs η0) 0 [x1, x7, x8] η1 ∧ (fun (_ : Nat) (_ : List Int) (_ : zE) => (0 : Nat)) 0 [x1, x7, x8] η1 < 1
            have wk0 : yp_wk η := wk_of hpp.2 (fun j => hI.2 62 j (zinr_not (by decide +kernel)))
            have hpp := hpp.1
            have fig := hig.2
            have hig := hig.1
            intro x4 e4 r4 c1 x5 e5 r5 c2 c3 x6 e6 r6 c4 x7 η1 h7 x8 e8
            have y7 : fQqe_readSign [] η x7 η1 := h7.2.2
            have k7 : sQ wl_qe zTr zOqe_readSign zMqe_readSign [] η x7 η1 ∧ oQqe_readSign [] η x7 η1 := ⟨h7.1, h7.2.1⟩
            refine yj_c ?_ ?_
            · have y7 : fQqe_readSign [] η x7 η1 := h7.2.2
              have k7 : sQ wl_qe zTr zOqe_readSign zMqe_readSign [] η x7 η1 ∧ oQqe_readSign [] η x7 η1 := ⟨h7.1, h7.2.1⟩
              exact ⟨k7.2, Nat.zero_lt_one⟩
            · have fig : yp_lJ η0 x1 x2 x3 η := fig
              have e4 : x4 = η 60 4 := e4
              have e5 : x5 = η 60 0 := e5
              have e6 : x6 = η 60 6 := e6
              have bx3 : (0 : Int) ≤ x3 ∧ x3 ≤ 701 := hI.1.2.1.2.2.1
              obtain ⟨y, z⟩ : x7 = yp_sgw η ∧ η1 = yp_sgn η := y7
              rw [zd_a ⟨by omega, by omega⟩] at e8
              show yp_lJ η0 x1 x7 x8 η1
              rw [e8, y]
              exact lwl_s fig (by omega) (by omega) c3 (by omega) z (k7.1.2.2.2.1 60 4 (by decide +kernel))
          · show ∀ x4 : Int, x4 = η 60 (Int.toNat 4) → zok 0 x4 → (x3 ≤ x4) → ∀ x5 : Int, x5 = η 60 (Int.toNat 0) → zok 0 x5 → (x5 = 0) → (x2 = 0) → ∀ x6 : Int, x6 = η 60 (Int.toNat 6) → zok 0 x6 → (x6 = 15) → ∀ x7 : Int, x7 = η 60 (Int.toNat 13) → zok 0 x7 → (¬ x7 = 0) → ((gC2 wl_qe [(nat_lit 0, zPqe_flaw0, zOqe_flaw0, zMqe_flaw0), (nat_lit 1, zPqe_next0, zOqe_next0, zMqe_next0), (nat_lit 2, zPqe_readOperand, zOqe_readOperand, zMqe_readOperand), (nat_lit 3, zPqe_readSign, zOqe_readSign, zMqe_readSign), (nat_lit 4, zPqe_unwind, zOqe_unwind, zMqe_unwind)] pCqe_readLaw qCqe_readLaw) 3).1 [] η
            have wk0 : yp_wk η := wk_of hpp.2 (fun j => hI.2 62 j (zinr_not (by decide +kernel)))
            have hpp := hpp.1
            have fig := hig.2
            have hig := hig.1
            intro x4 e4 r4 c1 x5 e5 r5 c2 c3 x6 e6 r6 c4 x7 e7 r7 c5
            refine yj_a ?_ ?_
            · exact ⟨hig, e5.symm.trans c2⟩
            · exact wk0
          · show ∀ x4 : Int, x4 = η 60 (Int.toNat 4) → zok 0 x4 → (x3 ≤ x4) → ∀ x5 : Int, x5 = η 60 (Int.toNat 0) → zok 0 x5 → (x5 = 0) → (x2 = 0) → ∀ x6 : Int, x6 = η 60 (Int.toNat 6) → zok 0 x6 → (x6 = 15) → ∀ x7 : Int, x7 = η 60 (Int.toNat 13) → zok 0 x7 → (¬ x7 = 0) → ∀ (x8 : Int) (η1 : zE), ((gC2 wl_qe [(nat_lit 0, zPqe_flaw0, zOqe_flaw0, zMqe_flaw0), (nat_lit 1, zPqe_next0, zOqe_next0, zMqe_next0), (nat_lit 2, zPqe_readOperand, zOqe_readOperand, zMqe_readOperand), (nat_lit 3, zPqe_readSign, zOqe_readSign, zMqe_readSign), (nat_lit 4, zPqe_unwind, zOqe_unwind, zMqe_unwind)] pCqe_readLaw qCqe_readLaw) 3).2 [] η x8 η1 → ∀ x9 : Int, x9 = zd 0 1 x3 1 → (iCqe_readLaw xs η0) 0 [x1, x8, x9] η1 ∧ (fun (_ : Nat) (_ : List Int) (_ : zE) => (0 : Nat)) 0 [x1, x8, x9] η1 < 1
            have wk0 : yp_wk η := wk_of hpp.2 (fun j => hI.2 62 j (zinr_not (by decide +kernel)))
            have hpp := hpp.1
            have fig := hig.2
            have hig := hig.1
            intro x4 e4 r4 c1 x5 e5 r5 c2 c3 x6 e6 r6 c4 x7 e7 r7 c5 x8 η1 h8 x9 e9
            have y8 : fQqe_readSign [] η x8 η1 := h8.2.2
            have k8 : sQ wl_qe zTr zOqe_readSign zMqe_readSign [] η x8 η1 ∧ oQqe_readSign [] η x8 η1 := ⟨h8.1, h8.2.1⟩
            refine yj_c ?_ ?_
            · have y8 : fQqe_readSign [] η x8 η1 := h8.2.2
              have k8 : sQ wl_qe zTr zOqe_readSign zMqe_readSign [] η x8 η1 ∧ oQqe_readSign [] η x8 η1 := ⟨h8.1, h8.2.1⟩
              exact ⟨k8.2, Nat.zero_lt_one⟩
            · have fig : yp_lJ η0 x1 x2 x3 η := fig
              have e4 : x4 = η 60 4 := e4
              have e5 : x5 = η 60 0 := e5
              have e6 : x6 = η 60 6 := e6
              have e7 : x7 = η 60 13 := e7
              have bx3 : (0 : Int) ≤ x3 ∧ x3 ≤ 701 := hI.1.2.1.2.2.1
              obtain ⟨y, z⟩ : x8 = yp_sgw η ∧ η1 = yp_sgn η := y8
              rw [zd_a ⟨by omega, by omega⟩] at e9
              show yp_lJ η0 x1 x8 x9 η1
              rw [e9, y]
              exact lwl_s fig (by omega) (by omega) c3 (by omega) z (k8.1.2.2.2.1 60 4 (by decide +kernel))
          · show ∀ x4 : Int, x4 = η 60 (Int.toNat 4) → zok 0 x4 → (x3 ≤ x4) → ∀ x5 : Int, x5 = η 60 (Int.toNat 0) → zok 0 x5 → (x5 = 0) → (x2 = 0) → ∀ x6 : Int, x6 = η 60 (Int.toNat 6) → zok 0 x6 → (x6 = 15) → ∀ x7 : Int, x7 = η 60 (Int.toNat 13) → zok 0 x7 → (x7 = 0) → (iCqe_readLaw xs η0) 1 [x1] η ∧ (fun (_ : Nat) (_ : List Int) (_ : zE) => (0 : Nat)) 1 [x1] η < 1
            have wk0 : yp_wk η := wk_of hpp.2 (fun j => hI.2 62 j (zinr_not (by decide +kernel)))
            have hpp := hpp.1
            have fig := hig.2
            have hig := hig.1
            intro x4 e4 r4 c1 x5 e5 r5 c2 c3 x6 e6 r6 c4 x7 e7 r7 c5
            refine yj_c ?_ ?_
            · exact ⟨hig, Nat.zero_lt_one⟩
            · have fig : yp_lJ η0 x1 x2 x3 η := fig
              have e4 : x4 = η 60 4 := e4
              have e5 : x5 = η 60 0 := e5
              have e6 : x6 = η 60 6 := e6
              have e7 : x7 = η 60 13 := e7
              exact lwl_e fig (Or.inr (Or.inr ⟨by omega, by omega, by omega⟩))
          · show ∀ x4 : Int, x4 = η 60 (Int.toNat 4) → zok 0 x4 → (x3 ≤ x4) → ∀ x5 : Int, x5 = η 60 (Int.toNat 0) → zok 0 x5 → (x5 = 0) → (¬ x2 = 0) → ((gC2 wl_qe [(nat_lit 0, zPqe_flaw0, zOqe_flaw0, zMqe_flaw0), (nat_lit 1, zPqe_next0, zOqe_next0, zMqe_next0), (nat_lit 2, zPqe_readOperand, zOqe_readOperand, zMqe_readOperand), (nat_lit 3, zPqe_readSign, zOqe_readSign, zMqe_readSign), (nat_lit 4, zPqe_unwind, zOqe_unwind, zMqe_unwind)] pCqe_readLaw qCqe_readLaw) 2).1 [] η
            have wk0 : yp_wk η := wk_of hpp.2 (fun j => hI.2 62 j (zinr_not (by decide +kernel)))
            have hpp := hpp.1
            have fig := hig.2
            have hig := hig.1
            intro x4 e4 r4 c1 x5 e5 r5 c2 c3
            refine yj_a ?_ ?_
            · exact hig
            · exact wk0
          · show ∀ x4 : Int, x4 = η 60 (Int.toNat 4) → zok 0 x4 → (x3 ≤ x4) → ∀ x5 : Int, x5 = η 60 (Int.toNat 0) → zok 0 x5 → (x5 = 0) → (¬ x2 = 0) → ∀ (x6 : Int) (η1 : zE), ((gC2 wl_qe [(nat_lit 0, zPqe_flaw0, zOqe_flaw0, zMqe_flaw0), (nat_lit 1, zPqe_next0, zOqe_next0, zMqe_next0), (nat_lit 2, zPqe_readOperand, zOqe_readOperand, zMqe_readOperand), (nat_lit 3, zPqe_readSign, zOqe_readSign, zMqe_readSign), (nat_lit 4, zPqe_unwind, zOqe_unwind, zMqe_unwind)] pCqe_readLaw qCqe_readLaw) 2).2 [] η x6 η1 → ∀ x7 : Int, x7 = zd 0 1 x3 1 → (iCqe_readLaw xs η0) 0 [x1, x6, x7] η1 ∧ (fun (_ : Nat) (_ : List Int) (_ : zE) => (0 : Nat)) 0 [x1, x6, x7] η1 < 1
            have wk0 : yp_wk η := wk_of hpp.2 (fun j => hI.2 62 j (zinr_not (by decide +kernel)))
            have hpp := hpp.1
            have fig := hig.2
            have hig := hig.1
            intro x4 e4 r4 c1 x5 e5 r5 c2 c3 x6 η1 h6 x7 e7
            have y6 : fQqe_readOperand [] η x6 η1 := h6.2.2
            have k6 : sQ wl_qe zTr zOqe_readOperand zMqe_readOperand [] η x6 η1 ∧ oQqe_readOperand [] η x6 η1 := ⟨h6.1, h6.2.1⟩
            refine yj_c ?_ ?_
            · have y6 : fQqe_readOperand [] η x6 η1 := h6.2.2
              have k6 : sQ wl_qe zTr zOqe_readOperand zMqe_readOperand [] η x6 η1 ∧ oQqe_readOperand [] η x6 η1 := ⟨h6.1, h6.2.1⟩
              exact ⟨k6.2, Nat.zero_lt_one⟩
            · have fig : yp_lJ η0 x1 x2 x3 η := fig
              have e4 : x4 = η 60 4 := e4
              have e5 : x5 = η 60 0 := e5
              have bx3 : (0 : Int) ≤ x3 ∧ x3 ≤ 701 := hI.1.2.1.2.2.1
              obtain ⟨y, z⟩ : x6 = yp_opw η ∧ η1 = yp_opd η := y6
              rw [zd_a ⟨by omega, by omega⟩] at e7
              show yp_lJ η0 x1 x6 x7 η1
              rw [e7, y]
              exact lwl_o fig (by omega) (by omega) c3 z (k6.1.2.2.2.1 60 4 (by decide +kernel))
        · exact fun _ h => nomatch h
      )⟩, (List.forall_mem_cons.mpr ⟨⟨zDqe_readLaw_1, zEqe_readLaw_1, zFqe_readLaw_1, 16, by decide +kernel, (by
      intro xs η0 hlx hp hpp ys η hr hl hI hig
      match ys, hl, hI, hig with
      | [x1], _, hI, hig =>
        refine ⟨?_, ?_⟩
        · refine List.forall_mem_cons.mpr ⟨?_, List.forall_mem_cons.mpr ⟨?_, fun _ h => nomatch h⟩⟩
          · show ∀ x2 : Int, x2 = ((ro 2).getD (Int.toNat 1) 0).toInt → ((gC2 wl_qe [(nat_lit 0, zPqe_flaw0, zOqe_flaw0, zMqe_flaw0), (nat_lit 1, zPqe_next0, zOqe_next0, zMqe_next0), (nat_lit 2, zPqe_readOperand, zOqe_readOperand, zMqe_readOperand), (nat_lit 3, zPqe_readSign, zOqe_readSign, zMqe_readSign), (nat_lit 4, zPqe_unwind, zOqe_unwind, zMqe_unwind)] pCqe_readLaw qCqe_readLaw) 4).1 [x2] η
            have wk0 : yp_wk η := wk_of hpp.2 (fun j => hI.2 62 j (zinr_not (by decide +kernel)))
            have hpp := hpp.1
            have fig := hig.2
            have hig := hig.1
            intro x2 e2
            refine yj_a ?_ ?_
            · have hx2 : x2 = 1 := by rw [e2, hro]; rfl
              exact ⟨hig, show 1 ≤ x2 by omega⟩
            · exact wk0
          · show ∀ x2 : Int, x2 = ((ro 2).getD (Int.toNat 1) 0).toInt → ∀ (x3 : Int) (η1 : zE), ((gC2 wl_qe [(nat_lit 0, zPqe_flaw0, zOqe_flaw0, zMqe_flaw0), (nat_lit 1, zPqe_next0, zOqe_next0, zMqe_next0), (nat_lit 2, zPqe_readOperand, zOqe_readOperand, zMqe_readOperand), (nat_lit 3, zPqe_readSign, zOqe_readSign, zMqe_readSign), (nat_lit 4, zPqe_unwind, zOqe_unwind, zMqe_unwind)] pCqe_readLaw qCqe_readLaw) 4).2 [x2] η x3 η1 → ∀ x4 : Int, x4 = η1 47 (Int.toNat 1) → zok 0 x4 → ∀ η2 : zE, η2 = zup η1 50 (Int.toNat x1) x4 → (fun (_ : Nat) (y : Int) (η' : zE) => pQqe_readLaw xs η0 y η') 0 0 η2
            have wk0 : yp_wk η := wk_of hpp.2 (fun j => hI.2 62 j (zinr_not (by decide +kernel)))
            have hpp := hpp.1
            have fig := hig.2
            have hig := hig.1
            intro x2 e2 x3 η1 h3 x4 e4 r4 η2 eη2
            have y3 : fQqe_unwind [x2] η x3 η1 := h3.2.2
            have k3 : sQ wl_qe zTr zOqe_unwind zMqe_unwind [x2] η x3 η1 ∧ oQqe_unwind [x2] η x3 η1 := ⟨h3.1, h3.2.1⟩
            refine yj_a ?_ ?_
            · have y3 : fQqe_unwind [x2] η x3 η1 := h3.2.2
              have k3 : sQ wl_qe zTr zOqe_unwind zMqe_unwind [x2] η x3 η1 ∧ oQqe_unwind [x2] η x3 η1 := ⟨h3.1, h3.2.1⟩
              have e4 : x4 = η1 47 1 := e4
              show Gl_q η2
              rw [eη2, e4]
              exact to_q k3.2.1
            · have fig : yp_lK η0 x1 η := fig
              have z3 : η1 = yp_unw x2 η := y3
              have e2 : x2 = 1 := by rw [e2, hro]; rfl
              have e4 : x4 = η1 47 1 := e4
              show η2 = yp_law η0
              rw [← law_e fig, eη2, e4, z3, e2]
              rfl
        · refine List.forall_mem_cons.mpr ⟨?_, fun _ h => nomatch h⟩
          · show (0 : Int) ≤ 1 ∧ 1 < ((ro 2).length : Int)
            have wk0 : yp_wk η := wk_of hpp.2 (fun j => hI.2 62 j (zinr_not (by decide +kernel)))
            have hpp := hpp.1
            have fig := hig.2
            have hig := hig.1
            rw [hro]
            exact ⟨by decide, by decide⟩
      )⟩, (fun _ h => nomatch h)⟩)⟩))
def zPqe_flawL : zPq := zPu_flaw
def zOqe_flawL : zPo := zOu_flaw
def zMqe_flawL : List zCe := zMu_flaw
def oPqe_flawL : List Int → zE → Prop := fun _ η => Gl_q η
def pPqe_flawL : List Int → zE → Prop := fun xs η => oPqe_flawL xs η ∧ yp_wk η
def oQqe_flawL : List Int → zE → Int → zE → Prop := fun _ _ _ η' => Gl_q η'
def fQqe_flawL : List Int → zE → Int → zE → Prop := fun xs η _ η' => η' = yp_flw (xs.getD 0 0) (xs.getD 1 0) η
def pQqe_flawL : List Int → zE → Int → zE → Prop := fun xs η y η' => oQqe_flawL xs η y η' ∧ fQqe_flawL xs η y η'
theorem zqe_flawL {ro : Nat → List Int32} : zMet pr_P pr_K pr_df ro (sm_X0 1 6) 0 31 tm_qe [(.inr (.inr (.inl (nat_lit 60)))), (.inl (nat_lit 1, (.ofNat (nat_lit 0)))), (.inl (nat_lit 2, (.ofNat (nat_lit 0))))] 0 [(nat_lit 60, nat_lit 3, nat_lit 1), (nat_lit 60, nat_lit 9, nat_lit 61), (nat_lit 60, nat_lit 10, nat_lit 62), (nat_lit 60, nat_lit 11, nat_lit 63), (nat_lit 60, nat_lit 2, nat_lit 32), (nat_lit 32, nat_lit 8, nat_lit 33), (nat_lit 32, nat_lit 9, nat_lit 34), (nat_lit 32, nat_lit 10, nat_lit 35), (nat_lit 32, nat_lit 11, nat_lit 36), (nat_lit 32, nat_lit 12, nat_lit 41), (nat_lit 32, nat_lit 13, nat_lit 46), (nat_lit 32, nat_lit 14, nat_lit 47), (nat_lit 36, nat_lit 0, nat_lit 37), (nat_lit 41, nat_lit 0, nat_lit 42), (nat_lit 36, nat_lit 1, nat_lit 38), (nat_lit 41, nat_lit 1, nat_lit 43), (nat_lit 36, nat_lit 2, nat_lit 39), (nat_lit 41, nat_lit 2, nat_lit 44), (nat_lit 36, nat_lit 3, nat_lit 40), (nat_lit 41, nat_lit 3, nat_lit 45), (nat_lit 47, nat_lit 2, nat_lit 48), (nat_lit 47, nat_lit 3, nat_lit 49), (nat_lit 47, nat_lit 4, nat_lit 50), (nat_lit 47, nat_lit 5, nat_lit 51), (nat_lit 47, nat_lit 6, nat_lit 52)] [] (fun xs η => sP wl_qe zTr zPqe_flawL xs η ∧ pPqe_flawL xs η) (fun xs η y η' => sQ wl_qe zTr zOqe_flawL zMqe_flawL xs η y η' ∧ pQqe_flawL xs η y η') :=
  zmet_w (L := wl_u) (P1 := pPu_flaw) (Q1 := pQu_flaw) zu_flaw (fun xs η _ _ => trivial) (fun xs η y η' p hh g q => by
    have h := hh.1
    have ex : η' = yp_flw (xs.getD 0 0) (xs.getD 1 0) η := q
    have w : G_r η' := by rw [ex]; exact gr_flw h.1
    exact ⟨gl_f h g.2.2.2.1 w (fun e => by have q : (1 : Int) ≤ η' 60 0 ∧ η' 60 0 ≤ 3 := g.2.2.1 _ (List.mem_of_getElem? (i := 0) rfl); omega) (by decide +kernel), ex⟩)
def zPqe_nextL : zPq := zPu_next
def zOqe_nextL : zPo := zOu_next
def zMqe_nextL : List zCe := zMu_next
def oPqe_nextL : List Int → zE → Prop := fun _ η => Gl_q η
def pPqe_nextL : List Int → zE → Prop := fun xs η => oPqe_nextL xs η ∧ yp_wk η
def oQqe_nextL : List Int → zE → Int → zE → Prop := fun _ _ _ η' => Gl_q η'
def fQqe_nextL : List Int → zE → Int → zE → Prop := fun xs η _ η' => η' = (yp_adv η)
def pQqe_nextL : List Int → zE → Int → zE → Prop := fun xs η y η' => oQqe_nextL xs η y η' ∧ fQqe_nextL xs η y η'
theorem zqe_nextL {ro : Nat → List Int32} : zMet pr_P pr_K pr_df ro (sm_X0 1 6) 2 45 tm_qe [(.inr (.inr (.inl (nat_lit 60))))] 0 [(nat_lit 60, nat_lit 3, nat_lit 1), (nat_lit 60, nat_lit 9, nat_lit 61), (nat_lit 60, nat_lit 10, nat_lit 62), (nat_lit 60, nat_lit 11, nat_lit 63), (nat_lit 60, nat_lit 2, nat_lit 32), (nat_lit 32, nat_lit 8, nat_lit 33), (nat_lit 32, nat_lit 9, nat_lit 34), (nat_lit 32, nat_lit 10, nat_lit 35), (nat_lit 32, nat_lit 11, nat_lit 36), (nat_lit 32, nat_lit 12, nat_lit 41), (nat_lit 32, nat_lit 13, nat_lit 46), (nat_lit 32, nat_lit 14, nat_lit 47), (nat_lit 36, nat_lit 0, nat_lit 37), (nat_lit 41, nat_lit 0, nat_lit 42), (nat_lit 36, nat_lit 1, nat_lit 38), (nat_lit 41, nat_lit 1, nat_lit 43), (nat_lit 36, nat_lit 2, nat_lit 39), (nat_lit 41, nat_lit 2, nat_lit 44), (nat_lit 36, nat_lit 3, nat_lit 40), (nat_lit 41, nat_lit 3, nat_lit 45), (nat_lit 47, nat_lit 2, nat_lit 48), (nat_lit 47, nat_lit 3, nat_lit 49), (nat_lit 47, nat_lit 4, nat_lit 50), (nat_lit 47, nat_lit 5, nat_lit 51), (nat_lit 47, nat_lit 6, nat_lit 52)] [] (fun xs η => sP wl_qe zTr zPqe_nextL xs η ∧ pPqe_nextL xs η) (fun xs η y η' => sQ wl_qe zTr zOqe_nextL zMqe_nextL xs η y η' ∧ pQqe_nextL xs η y η') :=
  zmet_w (L := wl_u) (P1 := pPu_next) (Q1 := pQu_next) zu_next (fun xs η _ _ => trivial) (fun xs η y η' p hh g q => by
    have h := hh.1
    have ex : η' = (yp_adv η) := q hh.2
    have w : G_r η' := by rw [ex]; exact gr_adv
    exact ⟨gl_s h g.2.2.2.1 w (by decide +kernel), ex⟩)
def zPqe_wipe : zPq := zPu_wipeB
def zOqe_wipe : zPo := zOu_wipeB
def zMqe_wipe : List zCe := zMu_wipeB
def oPqe_wipe : List Int → zE → Prop := fun _ η => G_r η
def pPqe_wipe : List Int → zE → Prop := fun xs η => oPqe_wipe xs η ∧ yp_wk η
def oQqe_wipe : List Int → zE → Int → zE → Prop := fun _ _ _ η' => G_r η' ∧ η' 47 1 = 0 ∧ ∀ k, k < 3 → η' 50 k = 0
def fQqe_wipe : List Int → zE → Int → zE → Prop := fun xs η _ η' => η' = (yp_wip η)
def pQqe_wipe : List Int → zE → Int → zE → Prop := fun xs η y η' => oQqe_wipe xs η y η' ∧ fQqe_wipe xs η y η'
theorem zqe_wipe {ro : Nat → List Int32} : zMet pr_P pr_K pr_df ro (sm_X0 1 6) 1 52 tm_qe [(.inr (.inr (.inl (nat_lit 32))))] 0 [(nat_lit 32, nat_lit 8, nat_lit 33), (nat_lit 32, nat_lit 9, nat_lit 34), (nat_lit 32, nat_lit 10, nat_lit 35), (nat_lit 32, nat_lit 11, nat_lit 36), (nat_lit 32, nat_lit 12, nat_lit 41), (nat_lit 32, nat_lit 13, nat_lit 46), (nat_lit 32, nat_lit 14, nat_lit 47), (nat_lit 47, nat_lit 2, nat_lit 48), (nat_lit 47, nat_lit 3, nat_lit 49), (nat_lit 47, nat_lit 4, nat_lit 50), (nat_lit 47, nat_lit 5, nat_lit 51), (nat_lit 47, nat_lit 6, nat_lit 52)] [] (fun xs η => sP wl_qe zTr zPqe_wipe xs η ∧ pPqe_wipe xs η) (fun xs η y η' => sQ wl_qe zTr zOqe_wipe zMqe_wipe xs η y η' ∧ pQqe_wipe xs η y η') :=
  zmet_w (L := wl_u) (P1 := pPu_wipeB) (Q1 := pQu_wipeB) zu_wipeB (fun xs η _ _ => trivial) (fun xs η y η' p hh g q => by
    have h := hh.1
    have ex : η' = (yp_wip η) := q
    have w : G_r η' := by rw [ex]; exact gr_wip h
    exact ⟨⟨w, by have q : (0 : Int) ≤ η' 47 1 ∧ η' 47 1 ≤ 0 := g.2.2.1 _ (List.mem_of_getElem? (i := 0) rfl); omega, fun k hk => by
    have q0 : (0 : Int) ≤ η' 50 0 ∧ η' 50 0 ≤ 0 := g.2.2.1 _ (List.mem_of_getElem? (i := 1) rfl)
    have q1 : (0 : Int) ≤ η' 50 1 ∧ η' 50 1 ≤ 0 := g.2.2.1 _ (List.mem_of_getElem? (i := 2) rfl)
    have q2 : (0 : Int) ≤ η' 50 2 ∧ η' 50 2 ≤ 0 := g.2.2.1 _ (List.mem_of_getElem? (i := 3) rfl)
    match k, hk with
    | 0, _ => omega
    | 1, _ => omega
    | 2, _ => omega⟩, ex⟩)
def zPqe_readLine : zPq := ([], [])
def zOqe_readLine : zPo := (((.ofNat (nat_lit 0)), (.ofNat (nat_lit 0))), [], [])
def zMqe_readLine : List zCe := [(nat_lit 32, nat_lit 2), (nat_lit 32, nat_lit 3), (nat_lit 32, nat_lit 4), (nat_lit 32, nat_lit 5), (nat_lit 32, nat_lit 6), (nat_lit 32, nat_lit 7), (nat_lit 32, nat_lit 8), (nat_lit 33, nat_lit 0), (nat_lit 34, nat_lit 0), (nat_lit 35, nat_lit 0), (nat_lit 37, nat_lit 0), (nat_lit 38, nat_lit 0), (nat_lit 39, nat_lit 0), (nat_lit 40, nat_lit 0), (nat_lit 42, nat_lit 0), (nat_lit 43, nat_lit 0), (nat_lit 44, nat_lit 0), (nat_lit 45, nat_lit 0), (nat_lit 46, nat_lit 0), (nat_lit 47, nat_lit 0), (nat_lit 48, nat_lit 0), (nat_lit 49, nat_lit 0), (nat_lit 50, nat_lit 0), (nat_lit 60, nat_lit 1), (nat_lit 60, nat_lit 2), (nat_lit 60, nat_lit 13), (nat_lit 60, nat_lit 14), (nat_lit 60, nat_lit 6), (nat_lit 60, nat_lit 7), (nat_lit 60, nat_lit 8), (nat_lit 60, nat_lit 9), (nat_lit 61, nat_lit 0), (nat_lit 63, nat_lit 0)]
def oPqe_readLine : List Int → zE → Prop := fun _ η => G0_q η
def pPqe_readLine : List Int → zE → Prop := fun xs η => oPqe_readLine xs η ∧ yp_wk η
def oQqe_readLine : List Int → zE → Int → zE → Prop := fun _ _ _ η' => Gl_q η'
def fQqe_readLine : List Int → zE → Int → zE → Prop := fun xs η y η' => η' = (yp_lin η)
def pQqe_readLine : List Int → zE → Int → zE → Prop := fun xs η y η' => oQqe_readLine xs η y η' ∧ fQqe_readLine xs η y η'
def pCqe_readLine : Nat → List Int → zE → Prop := fun c => match c with
  | 0 => pPqe_flaw0
  | 1 => pPqe_readGroove0
  | 2 => pPqe_readScratch0
  | 3 => pPqe_readGuest0
  | 4 => pPqe_next0
  | 5 => pPqe_readLaw
  | 6 => pPqe_readOnce0
  | _ => fun _ _ => True
def qCqe_readLine : Nat → List Int → zE → Int → zE → Prop := fun c => match c with
  | 0 => pQqe_flaw0
  | 1 => pQqe_readGroove0
  | 2 => pQqe_readScratch0
  | 3 => pQqe_readGuest0
  | 4 => pQqe_next0
  | 5 => pQqe_readLaw
  | 6 => pQqe_readOnce0
  | _ => fun _ _ _ _ => True
def iCqe_readLine : List Int → zE → Nat → List Int → zE → Prop := fun xs η0 c => match c with
  | _ => fun _ _ => True
def zVqe_readLine : List zIv := []
def zDqe_readLine : List (List zK) := []
def zEqe_readLine : List (List zK) := [[(nat_lit 13, nat_lit 6, [(nat_lit 4, (.ofNat (nat_lit 0)))]), (nat_lit 0, nat_lit 2, [(nat_lit 3, (.ofNat (nat_lit 0))), (nat_lit 0, (.ofNat (nat_lit 3)))]), (nat_lit 4, nat_lit 0, [(nat_lit 60, (.ofNat (nat_lit 0))), (nat_lit 0, (.ofNat (nat_lit 8)))]), (nat_lit 6, nat_lit 2, [(nat_lit 2, (.ofNat (nat_lit 0))), (nat_lit 0, (.ofNat (nat_lit 0)))]), (nat_lit 4, nat_lit 0, [(nat_lit 60, (.ofNat (nat_lit 0))), (nat_lit 0, (.ofNat (nat_lit 8)))]), (nat_lit 6, nat_lit 0, [(nat_lit 1, (.ofNat (nat_lit 0))), (nat_lit 0, (.ofNat (nat_lit 18)))]), (nat_lit 4, nat_lit 0, [(nat_lit 60, (.ofNat (nat_lit 0))), (nat_lit 0, (.ofNat (nat_lit 6)))])],
  [(nat_lit 11, nat_lit 0, [(nat_lit 0, (.ofNat (nat_lit 0)))]), (nat_lit 8, nat_lit 6, [(nat_lit 4, (.ofNat (nat_lit 0)))]), (nat_lit 0, nat_lit 2, [(nat_lit 3, (.ofNat (nat_lit 0))), (nat_lit 0, (.ofNat (nat_lit 3)))]), (nat_lit 4, nat_lit 0, [(nat_lit 60, (.ofNat (nat_lit 0))), (nat_lit 0, (.ofNat (nat_lit 8)))]), (nat_lit 6, nat_lit 2, [(nat_lit 2, (.ofNat (nat_lit 0))), (nat_lit 0, (.ofNat (nat_lit 0)))]), (nat_lit 4, nat_lit 0, [(nat_lit 60, (.ofNat (nat_lit 0))), (nat_lit 0, (.ofNat (nat_lit 8)))]), (nat_lit 6, nat_lit 0, [(nat_lit 1, (.ofNat (nat_lit 0))), (nat_lit 0, (.ofNat (nat_lit 18)))]), (nat_lit 4, nat_lit 0, [(nat_lit 60, (.ofNat (nat_lit 0))), (nat_lit 0, (.ofNat (nat_lit 6)))])],
  [(nat_lit 13, nat_lit 6, [(nat_lit 4, (.ofNat (nat_lit 0)))]), (nat_lit 0, nat_lit 2, [(nat_lit 3, (.ofNat (nat_lit 0))), (nat_lit 0, (.ofNat (nat_lit 3)))]), (nat_lit 4, nat_lit 0, [(nat_lit 60, (.ofNat (nat_lit 0))), (nat_lit 0, (.ofNat (nat_lit 8)))]), (nat_lit 6, nat_lit 4, [(nat_lit 2, (.ofNat (nat_lit 0))), (nat_lit 0, (.ofNat (nat_lit 6)))]), (nat_lit 4, nat_lit 0, [(nat_lit 60, (.ofNat (nat_lit 0))), (nat_lit 0, (.ofNat (nat_lit 8)))]), (nat_lit 6, nat_lit 0, [(nat_lit 1, (.ofNat (nat_lit 0))), (nat_lit 0, (.ofNat (nat_lit 18)))]), (nat_lit 4, nat_lit 0, [(nat_lit 60, (.ofNat (nat_lit 0))), (nat_lit 0, (.ofNat (nat_lit 6)))])],
  [(nat_lit 11, nat_lit 0, [(nat_lit 0, (.ofNat (nat_lit 0)))]), (nat_lit 8, nat_lit 6, [(nat_lit 4, (.ofNat (nat_lit 0)))]), (nat_lit 0, nat_lit 2, [(nat_lit 3, (.ofNat (nat_lit 0))), (nat_lit 0, (.ofNat (nat_lit 3)))]), (nat_lit 4, nat_lit 0, [(nat_lit 60, (.ofNat (nat_lit 0))), (nat_lit 0, (.ofNat (nat_lit 8)))]), (nat_lit 6, nat_lit 4, [(nat_lit 2, (.ofNat (nat_lit 0))), (nat_lit 0, (.ofNat (nat_lit 6)))]), (nat_lit 4, nat_lit 0, [(nat_lit 60, (.ofNat (nat_lit 0))), (nat_lit 0, (.ofNat (nat_lit 8)))]), (nat_lit 6, nat_lit 0, [(nat_lit 1, (.ofNat (nat_lit 0))), (nat_lit 0, (.ofNat (nat_lit 18)))]), (nat_lit 4, nat_lit 0, [(nat_lit 60, (.ofNat (nat_lit 0))), (nat_lit 0, (.ofNat (nat_lit 6)))])],
  [(nat_lit 13, nat_lit 1, []), (nat_lit 6, nat_lit 0, [(nat_lit 2, (.ofNat (nat_lit 0))), (nat_lit 0, (.ofNat (nat_lit 0)))]), (nat_lit 4, nat_lit 0, [(nat_lit 60, (.ofNat (nat_lit 0))), (nat_lit 0, (.ofNat (nat_lit 8)))]), (nat_lit 6, nat_lit 0, [(nat_lit 1, (.ofNat (nat_lit 0))), (nat_lit 0, (.ofNat (nat_lit 18)))]), (nat_lit 4, nat_lit 0, [(nat_lit 60, (.ofNat (nat_lit 0))), (nat_lit 0, (.ofNat (nat_lit 6)))])],
  [(nat_lit 11, nat_lit 0, [(nat_lit 0, (.ofNat (nat_lit 0)))]), (nat_lit 8, nat_lit 1, []), (nat_lit 6, nat_lit 0, [(nat_lit 2, (.ofNat (nat_lit 0))), (nat_lit 0, (.ofNat (nat_lit 0)))]), (nat_lit 4, nat_lit 0, [(nat_lit 60, (.ofNat (nat_lit 0))), (nat_lit 0, (.ofNat (nat_lit 8)))]), (nat_lit 6, nat_lit 0, [(nat_lit 1, (.ofNat (nat_lit 0))), (nat_lit 0, (.ofNat (nat_lit 18)))]), (nat_lit 4, nat_lit 0, [(nat_lit 60, (.ofNat (nat_lit 0))), (nat_lit 0, (.ofNat (nat_lit 6)))])],
  [(nat_lit 13, nat_lit 2, []), (nat_lit 6, nat_lit 0, [(nat_lit 2, (.ofNat (nat_lit 0))), (nat_lit 0, (.ofNat (nat_lit 1)))]), (nat_lit 4, nat_lit 0, [(nat_lit 60, (.ofNat (nat_lit 0))), (nat_lit 0, (.ofNat (nat_lit 8)))]), (nat_lit 6, nat_lit 0, [(nat_lit 1, (.ofNat (nat_lit 0))), (nat_lit 0, (.ofNat (nat_lit 18)))]), (nat_lit 4, nat_lit 0, [(nat_lit 60, (.ofNat (nat_lit 0))), (nat_lit 0, (.ofNat (nat_lit 6)))])],
  [(nat_lit 11, nat_lit 0, [(nat_lit 0, (.ofNat (nat_lit 0)))]), (nat_lit 8, nat_lit 2, []), (nat_lit 6, nat_lit 0, [(nat_lit 2, (.ofNat (nat_lit 0))), (nat_lit 0, (.ofNat (nat_lit 1)))]), (nat_lit 4, nat_lit 0, [(nat_lit 60, (.ofNat (nat_lit 0))), (nat_lit 0, (.ofNat (nat_lit 8)))]), (nat_lit 6, nat_lit 0, [(nat_lit 1, (.ofNat (nat_lit 0))), (nat_lit 0, (.ofNat (nat_lit 18)))]), (nat_lit 4, nat_lit 0, [(nat_lit 60, (.ofNat (nat_lit 0))), (nat_lit 0, (.ofNat (nat_lit 6)))])],
  [(nat_lit 13, nat_lit 3, []), (nat_lit 6, nat_lit 0, [(nat_lit 2, (.ofNat (nat_lit 0))), (nat_lit 0, (.ofNat (nat_lit 2)))]), (nat_lit 4, nat_lit 0, [(nat_lit 60, (.ofNat (nat_lit 0))), (nat_lit 0, (.ofNat (nat_lit 8)))]), (nat_lit 6, nat_lit 0, [(nat_lit 1, (.ofNat (nat_lit 0))), (nat_lit 0, (.ofNat (nat_lit 18)))]), (nat_lit 4, nat_lit 0, [(nat_lit 60, (.ofNat (nat_lit 0))), (nat_lit 0, (.ofNat (nat_lit 6)))])],
  [(nat_lit 11, nat_lit 0, [(nat_lit 0, (.ofNat (nat_lit 0)))]), (nat_lit 8, nat_lit 3, []), (nat_lit 6, nat_lit 0, [(nat_lit 2, (.ofNat (nat_lit 0))), (nat_lit 0, (.ofNat (nat_lit 2)))]), (nat_lit 4, nat_lit 0, [(nat_lit 60, (.ofNat (nat_lit 0))), (nat_lit 0, (.ofNat (nat_lit 8)))]), (nat_lit 6, nat_lit 0, [(nat_lit 1, (.ofNat (nat_lit 0))), (nat_lit 0, (.ofNat (nat_lit 18)))]), (nat_lit 4, nat_lit 0, [(nat_lit 60, (.ofNat (nat_lit 0))), (nat_lit 0, (.ofNat (nat_lit 6)))])],
  [(nat_lit 13, nat_lit 6, [(nat_lit 4, (.ofNat (nat_lit 0)))]), (nat_lit 0, nat_lit 2, [(nat_lit 3, (.ofNat (nat_lit 0))), (nat_lit 0, (.ofNat (nat_lit 3)))]), (nat_lit 4, nat_lit 0, [(nat_lit 60, (.ofNat (nat_lit 0))), (nat_lit 0, (.ofNat (nat_lit 8)))]), (nat_lit 6, nat_lit 0, [(nat_lit 2, (.ofNat (nat_lit 0))), (nat_lit 0, (.ofNat (nat_lit 3)))]), (nat_lit 4, nat_lit 0, [(nat_lit 60, (.ofNat (nat_lit 0))), (nat_lit 0, (.ofNat (nat_lit 8)))]), (nat_lit 6, nat_lit 0, [(nat_lit 1, (.ofNat (nat_lit 0))), (nat_lit 0, (.ofNat (nat_lit 18)))]), (nat_lit 4, nat_lit 0, [(nat_lit 60, (.ofNat (nat_lit 0))), (nat_lit 0, (.ofNat (nat_lit 6)))])],
  [(nat_lit 11, nat_lit 0, [(nat_lit 0, (.ofNat (nat_lit 0)))]), (nat_lit 8, nat_lit 6, [(nat_lit 4, (.ofNat (nat_lit 0)))]), (nat_lit 0, nat_lit 2, [(nat_lit 3, (.ofNat (nat_lit 0))), (nat_lit 0, (.ofNat (nat_lit 3)))]), (nat_lit 4, nat_lit 0, [(nat_lit 60, (.ofNat (nat_lit 0))), (nat_lit 0, (.ofNat (nat_lit 8)))]), (nat_lit 6, nat_lit 0, [(nat_lit 2, (.ofNat (nat_lit 0))), (nat_lit 0, (.ofNat (nat_lit 3)))]), (nat_lit 4, nat_lit 0, [(nat_lit 60, (.ofNat (nat_lit 0))), (nat_lit 0, (.ofNat (nat_lit 8)))]), (nat_lit 6, nat_lit 0, [(nat_lit 1, (.ofNat (nat_lit 0))), (nat_lit 0, (.ofNat (nat_lit 18)))]), (nat_lit 4, nat_lit 0, [(nat_lit 60, (.ofNat (nat_lit 0))), (nat_lit 0, (.ofNat (nat_lit 6)))])],
  [(nat_lit 13, nat_lit 6, [(nat_lit 4, (.ofNat (nat_lit 0)))]), (nat_lit 0, nat_lit 2, [(nat_lit 3, (.ofNat (nat_lit 0))), (nat_lit 0, (.ofNat (nat_lit 3)))]), (nat_lit 4, nat_lit 0, [(nat_lit 60, (.ofNat (nat_lit 0))), (nat_lit 0, (.ofNat (nat_lit 8)))]), (nat_lit 6, nat_lit 0, [(nat_lit 2, (.ofNat (nat_lit 0))), (nat_lit 0, (.ofNat (nat_lit 4)))]), (nat_lit 4, nat_lit 0, [(nat_lit 60, (.ofNat (nat_lit 0))), (nat_lit 0, (.ofNat (nat_lit 8)))]), (nat_lit 6, nat_lit 0, [(nat_lit 1, (.ofNat (nat_lit 0))), (nat_lit 0, (.ofNat (nat_lit 18)))]), (nat_lit 4, nat_lit 0, [(nat_lit 60, (.ofNat (nat_lit 0))), (nat_lit 0, (.ofNat (nat_lit 6)))])],
  [(nat_lit 11, nat_lit 0, [(nat_lit 0, (.ofNat (nat_lit 0)))]), (nat_lit 8, nat_lit 6, [(nat_lit 4, (.ofNat (nat_lit 0)))]), (nat_lit 0, nat_lit 2, [(nat_lit 3, (.ofNat (nat_lit 0))), (nat_lit 0, (.ofNat (nat_lit 3)))]), (nat_lit 4, nat_lit 0, [(nat_lit 60, (.ofNat (nat_lit 0))), (nat_lit 0, (.ofNat (nat_lit 8)))]), (nat_lit 6, nat_lit 0, [(nat_lit 2, (.ofNat (nat_lit 0))), (nat_lit 0, (.ofNat (nat_lit 4)))]), (nat_lit 4, nat_lit 0, [(nat_lit 60, (.ofNat (nat_lit 0))), (nat_lit 0, (.ofNat (nat_lit 8)))]), (nat_lit 6, nat_lit 0, [(nat_lit 1, (.ofNat (nat_lit 0))), (nat_lit 0, (.ofNat (nat_lit 18)))]), (nat_lit 4, nat_lit 0, [(nat_lit 60, (.ofNat (nat_lit 0))), (nat_lit 0, (.ofNat (nat_lit 6)))])],
  [(nat_lit 13, nat_lit 6, [(nat_lit 4, (.ofNat (nat_lit 0)))]), (nat_lit 0, nat_lit 2, [(nat_lit 3, (.ofNat (nat_lit 0))), (nat_lit 0, (.ofNat (nat_lit 3)))]), (nat_lit 4, nat_lit 0, [(nat_lit 60, (.ofNat (nat_lit 0))), (nat_lit 0, (.ofNat (nat_lit 8)))]), (nat_lit 6, nat_lit 0, [(nat_lit 2, (.ofNat (nat_lit 0))), (nat_lit 0, (.ofNat (nat_lit 5)))]), (nat_lit 4, nat_lit 0, [(nat_lit 60, (.ofNat (nat_lit 0))), (nat_lit 0, (.ofNat (nat_lit 8)))]), (nat_lit 6, nat_lit 0, [(nat_lit 1, (.ofNat (nat_lit 0))), (nat_lit 0, (.ofNat (nat_lit 18)))]), (nat_lit 4, nat_lit 0, [(nat_lit 60, (.ofNat (nat_lit 0))), (nat_lit 0, (.ofNat (nat_lit 6)))])],
  [(nat_lit 11, nat_lit 0, [(nat_lit 0, (.ofNat (nat_lit 0)))]), (nat_lit 8, nat_lit 6, [(nat_lit 4, (.ofNat (nat_lit 0)))]), (nat_lit 0, nat_lit 2, [(nat_lit 3, (.ofNat (nat_lit 0))), (nat_lit 0, (.ofNat (nat_lit 3)))]), (nat_lit 4, nat_lit 0, [(nat_lit 60, (.ofNat (nat_lit 0))), (nat_lit 0, (.ofNat (nat_lit 8)))]), (nat_lit 6, nat_lit 0, [(nat_lit 2, (.ofNat (nat_lit 0))), (nat_lit 0, (.ofNat (nat_lit 5)))]), (nat_lit 4, nat_lit 0, [(nat_lit 60, (.ofNat (nat_lit 0))), (nat_lit 0, (.ofNat (nat_lit 8)))]), (nat_lit 6, nat_lit 0, [(nat_lit 1, (.ofNat (nat_lit 0))), (nat_lit 0, (.ofNat (nat_lit 18)))]), (nat_lit 4, nat_lit 0, [(nat_lit 60, (.ofNat (nat_lit 0))), (nat_lit 0, (.ofNat (nat_lit 6)))])],
  [(nat_lit 13, nat_lit 4, []), (nat_lit 6, nat_lit 0, [(nat_lit 2, (.ofNat (nat_lit 0))), (nat_lit 0, (.ofNat (nat_lit 6)))]), (nat_lit 4, nat_lit 0, [(nat_lit 60, (.ofNat (nat_lit 0))), (nat_lit 0, (.ofNat (nat_lit 8)))]), (nat_lit 6, nat_lit 0, [(nat_lit 1, (.ofNat (nat_lit 0))), (nat_lit 0, (.ofNat (nat_lit 18)))]), (nat_lit 4, nat_lit 0, [(nat_lit 60, (.ofNat (nat_lit 0))), (nat_lit 0, (.ofNat (nat_lit 6)))])],
  [(nat_lit 13, nat_lit 5, []), (nat_lit 8, nat_lit 4, []), (nat_lit 6, nat_lit 0, [(nat_lit 2, (.ofNat (nat_lit 0))), (nat_lit 0, (.ofNat (nat_lit 6)))]), (nat_lit 4, nat_lit 0, [(nat_lit 60, (.ofNat (nat_lit 0))), (nat_lit 0, (.ofNat (nat_lit 8)))]), (nat_lit 6, nat_lit 0, [(nat_lit 1, (.ofNat (nat_lit 0))), (nat_lit 0, (.ofNat (nat_lit 18)))]), (nat_lit 4, nat_lit 0, [(nat_lit 60, (.ofNat (nat_lit 0))), (nat_lit 0, (.ofNat (nat_lit 6)))])],
  [(nat_lit 11, nat_lit 0, [(nat_lit 0, (.ofNat (nat_lit 0)))]), (nat_lit 8, nat_lit 5, []), (nat_lit 8, nat_lit 4, []), (nat_lit 6, nat_lit 0, [(nat_lit 2, (.ofNat (nat_lit 0))), (nat_lit 0, (.ofNat (nat_lit 6)))]), (nat_lit 4, nat_lit 0, [(nat_lit 60, (.ofNat (nat_lit 0))), (nat_lit 0, (.ofNat (nat_lit 8)))]), (nat_lit 6, nat_lit 0, [(nat_lit 1, (.ofNat (nat_lit 0))), (nat_lit 0, (.ofNat (nat_lit 18)))]), (nat_lit 4, nat_lit 0, [(nat_lit 60, (.ofNat (nat_lit 0))), (nat_lit 0, (.ofNat (nat_lit 6)))])],
  [(nat_lit 13, nat_lit 0, [(nat_lit 0, (.ofNat (nat_lit 1))), (nat_lit 2, (.ofNat (nat_lit 0)))]), (nat_lit 4, nat_lit 0, [(nat_lit 60, (.ofNat (nat_lit 0))), (nat_lit 0, (.ofNat (nat_lit 7)))]), (nat_lit 6, nat_lit 1, [(nat_lit 1, (.ofNat (nat_lit 0))), (nat_lit 0, (.ofNat (nat_lit 18)))]), (nat_lit 4, nat_lit 0, [(nat_lit 60, (.ofNat (nat_lit 0))), (nat_lit 0, (.ofNat (nat_lit 6)))])],
  [(nat_lit 11, nat_lit 0, [(nat_lit 0, (.ofNat (nat_lit 0)))]), (nat_lit 8, nat_lit 0, [(nat_lit 0, (.ofNat (nat_lit 1))), (nat_lit 2, (.ofNat (nat_lit 0)))]), (nat_lit 4, nat_lit 0, [(nat_lit 60, (.ofNat (nat_lit 0))), (nat_lit 0, (.ofNat (nat_lit 7)))]), (nat_lit 6, nat_lit 1, [(nat_lit 1, (.ofNat (nat_lit 0))), (nat_lit 0, (.ofNat (nat_lit 18)))]), (nat_lit 4, nat_lit 0, [(nat_lit 60, (.ofNat (nat_lit 0))), (nat_lit 0, (.ofNat (nat_lit 6)))])]]
def zFqe_readLine : List (List zK) := []
set_option maxHeartbeats 8000000 in
theorem zqe_readLine {ro : Nat → List Int32} (hro : ro 2 = [0, 1, 2, 3, 4, 4, 4, 4, 4, 4, 5, 5, 6, 6]) : zMet pr_P pr_K pr_df ro (sm_X0 1 6) 5 32 tm_qe [(.inr (.inr (.inl (nat_lit 60))))] 0 [(nat_lit 60, nat_lit 3, nat_lit 1), (nat_lit 60, nat_lit 9, nat_lit 61), (nat_lit 60, nat_lit 10, nat_lit 62), (nat_lit 60, nat_lit 11, nat_lit 63), (nat_lit 60, nat_lit 2, nat_lit 32), (nat_lit 32, nat_lit 8, nat_lit 33), (nat_lit 32, nat_lit 9, nat_lit 34), (nat_lit 32, nat_lit 10, nat_lit 35), (nat_lit 32, nat_lit 11, nat_lit 36), (nat_lit 32, nat_lit 12, nat_lit 41), (nat_lit 32, nat_lit 13, nat_lit 46), (nat_lit 32, nat_lit 14, nat_lit 47), (nat_lit 36, nat_lit 0, nat_lit 37), (nat_lit 41, nat_lit 0, nat_lit 42), (nat_lit 36, nat_lit 1, nat_lit 38), (nat_lit 41, nat_lit 1, nat_lit 43), (nat_lit 36, nat_lit 2, nat_lit 39), (nat_lit 41, nat_lit 2, nat_lit 44), (nat_lit 36, nat_lit 3, nat_lit 40), (nat_lit 41, nat_lit 3, nat_lit 45), (nat_lit 47, nat_lit 2, nat_lit 48), (nat_lit 47, nat_lit 3, nat_lit 49), (nat_lit 47, nat_lit 4, nat_lit 50), (nat_lit 47, nat_lit 5, nat_lit 51), (nat_lit 47, nat_lit 6, nat_lit 52)] [] (fun xs η => sP wl_qe zTr zPqe_readLine xs η ∧ pPqe_readLine xs η) (fun xs η y η' => sQ wl_qe zTr zOqe_readLine zMqe_readLine xs η y η' ∧ pQqe_readLine xs η y η') :=
  zmet_alt (zmea_gen (mi := (nat_lit 0, nat_lit 1, nat_lit 3, nat_lit 1, nat_lit 0, tX3_readLine)) (cd := [(nat_lit 31, nat_lit 0, nat_lit 0, [(.inr (.inr (.inl (nat_lit 60)))), (.inl (nat_lit 1, (.ofNat (nat_lit 0)))), (.inl (nat_lit 2, (.ofNat (nat_lit 0))))], nat_lit 0, [(nat_lit 60, nat_lit 3, nat_lit 1), (nat_lit 60, nat_lit 9, nat_lit 61), (nat_lit 60, nat_lit 10, nat_lit 62), (nat_lit 60, nat_lit 11, nat_lit 63), (nat_lit 60, nat_lit 2, nat_lit 32), (nat_lit 32, nat_lit 8, nat_lit 33), (nat_lit 32, nat_lit 9, nat_lit 34), (nat_lit 32, nat_lit 10, nat_lit 35), (nat_lit 32, nat_lit 11, nat_lit 36), (nat_lit 32, nat_lit 12, nat_lit 41), (nat_lit 32, nat_lit 13, nat_lit 46), (nat_lit 32, nat_lit 14, nat_lit 47), (nat_lit 36, nat_lit 0, nat_lit 37), (nat_lit 41, nat_lit 0, nat_lit 42), (nat_lit 36, nat_lit 1, nat_lit 38), (nat_lit 41, nat_lit 1, nat_lit 43), (nat_lit 36, nat_lit 2, nat_lit 39), (nat_lit 41, nat_lit 2, nat_lit 44), (nat_lit 36, nat_lit 3, nat_lit 40), (nat_lit 41, nat_lit 3, nat_lit 45), (nat_lit 47, nat_lit 2, nat_lit 48), (nat_lit 47, nat_lit 3, nat_lit 49), (nat_lit 47, nat_lit 4, nat_lit 50), (nat_lit 47, nat_lit 5, nat_lit 51), (nat_lit 47, nat_lit 6, nat_lit 52)], []), (nat_lit 33, nat_lit 1, nat_lit 4, [(.inr (.inr (.inl (nat_lit 60))))], nat_lit 0, [(nat_lit 60, nat_lit 3, nat_lit 1), (nat_lit 60, nat_lit 9, nat_lit 61), (nat_lit 60, nat_lit 10, nat_lit 62), (nat_lit 60, nat_lit 11, nat_lit 63), (nat_lit 60, nat_lit 2, nat_lit 32), (nat_lit 32, nat_lit 8, nat_lit 33), (nat_lit 32, nat_lit 9, nat_lit 34), (nat_lit 32, nat_lit 10, nat_lit 35), (nat_lit 32, nat_lit 11, nat_lit 36), (nat_lit 32, nat_lit 12, nat_lit 41), (nat_lit 32, nat_lit 13, nat_lit 46), (nat_lit 32, nat_lit 14, nat_lit 47), (nat_lit 36, nat_lit 0, nat_lit 37), (nat_lit 41, nat_lit 0, nat_lit 42), (nat_lit 36, nat_lit 1, nat_lit 38), (nat_lit 41, nat_lit 1, nat_lit 43), (nat_lit 36, nat_lit 2, nat_lit 39), (nat_lit 41, nat_lit 2, nat_lit 44), (nat_lit 36, nat_lit 3, nat_lit 40), (nat_lit 41, nat_lit 3, nat_lit 45), (nat_lit 47, nat_lit 2, nat_lit 48), (nat_lit 47, nat_lit 3, nat_lit 49), (nat_lit 47, nat_lit 4, nat_lit 50), (nat_lit 47, nat_lit 5, nat_lit 51), (nat_lit 47, nat_lit 6, nat_lit 52)], []), (nat_lit 34, nat_lit 2, nat_lit 4, [(.inr (.inr (.inl (nat_lit 60))))], nat_lit 0, [(nat_lit 60, nat_lit 3, nat_lit 1), (nat_lit 60, nat_lit 9, nat_lit 61), (nat_lit 60, nat_lit 10, nat_lit 62), (nat_lit 60, nat_lit 11, nat_lit 63), (nat_lit 60, nat_lit 2, nat_lit 32), (nat_lit 32, nat_lit 8, nat_lit 33), (nat_lit 32, nat_lit 9, nat_lit 34), (nat_lit 32, nat_lit 10, nat_lit 35), (nat_lit 32, nat_lit 11, nat_lit 36), (nat_lit 32, nat_lit 12, nat_lit 41), (nat_lit 32, nat_lit 13, nat_lit 46), (nat_lit 32, nat_lit 14, nat_lit 47), (nat_lit 36, nat_lit 0, nat_lit 37), (nat_lit 41, nat_lit 0, nat_lit 42), (nat_lit 36, nat_lit 1, nat_lit 38), (nat_lit 41, nat_lit 1, nat_lit 43), (nat_lit 36, nat_lit 2, nat_lit 39), (nat_lit 41, nat_lit 2, nat_lit 44), (nat_lit 36, nat_lit 3, nat_lit 40), (nat_lit 41, nat_lit 3, nat_lit 45), (nat_lit 47, nat_lit 2, nat_lit 48), (nat_lit 47, nat_lit 3, nat_lit 49), (nat_lit 47, nat_lit 4, nat_lit 50), (nat_lit 47, nat_lit 5, nat_lit 51), (nat_lit 47, nat_lit 6, nat_lit 52)], []), (nat_lit 35, nat_lit 3, nat_lit 4, [(.inr (.inr (.inl (nat_lit 60))))], nat_lit 0, [(nat_lit 60, nat_lit 3, nat_lit 1), (nat_lit 60, nat_lit 9, nat_lit 61), (nat_lit 60, nat_lit 10, nat_lit 62), (nat_lit 60, nat_lit 11, nat_lit 63), (nat_lit 60, nat_lit 2, nat_lit 32), (nat_lit 32, nat_lit 8, nat_lit 33), (nat_lit 32, nat_lit 9, nat_lit 34), (nat_lit 32, nat_lit 10, nat_lit 35), (nat_lit 32, nat_lit 11, nat_lit 36), (nat_lit 32, nat_lit 12, nat_lit 41), (nat_lit 32, nat_lit 13, nat_lit 46), (nat_lit 32, nat_lit 14, nat_lit 47), (nat_lit 36, nat_lit 0, nat_lit 37), (nat_lit 41, nat_lit 0, nat_lit 42), (nat_lit 36, nat_lit 1, nat_lit 38), (nat_lit 41, nat_lit 1, nat_lit 43), (nat_lit 36, nat_lit 2, nat_lit 39), (nat_lit 41, nat_lit 2, nat_lit 44), (nat_lit 36, nat_lit 3, nat_lit 40), (nat_lit 41, nat_lit 3, nat_lit 45), (nat_lit 47, nat_lit 2, nat_lit 48), (nat_lit 47, nat_lit 3, nat_lit 49), (nat_lit 47, nat_lit 4, nat_lit 50), (nat_lit 47, nat_lit 5, nat_lit 51), (nat_lit 47, nat_lit 6, nat_lit 52)], []), (nat_lit 45, nat_lit 4, nat_lit 2, [(.inr (.inr (.inl (nat_lit 60))))], nat_lit 0, [(nat_lit 60, nat_lit 3, nat_lit 1), (nat_lit 60, nat_lit 9, nat_lit 61), (nat_lit 60, nat_lit 10, nat_lit 62), (nat_lit 60, nat_lit 11, nat_lit 63), (nat_lit 60, nat_lit 2, nat_lit 32), (nat_lit 32, nat_lit 8, nat_lit 33), (nat_lit 32, nat_lit 9, nat_lit 34), (nat_lit 32, nat_lit 10, nat_lit 35), (nat_lit 32, nat_lit 11, nat_lit 36), (nat_lit 32, nat_lit 12, nat_lit 41), (nat_lit 32, nat_lit 13, nat_lit 46), (nat_lit 32, nat_lit 14, nat_lit 47), (nat_lit 36, nat_lit 0, nat_lit 37), (nat_lit 41, nat_lit 0, nat_lit 42), (nat_lit 36, nat_lit 1, nat_lit 38), (nat_lit 41, nat_lit 1, nat_lit 43), (nat_lit 36, nat_lit 2, nat_lit 39), (nat_lit 41, nat_lit 2, nat_lit 44), (nat_lit 36, nat_lit 3, nat_lit 40), (nat_lit 41, nat_lit 3, nat_lit 45), (nat_lit 47, nat_lit 2, nat_lit 48), (nat_lit 47, nat_lit 3, nat_lit 49), (nat_lit 47, nat_lit 4, nat_lit 50), (nat_lit 47, nat_lit 5, nat_lit 51), (nat_lit 47, nat_lit 6, nat_lit 52)], []), (nat_lit 38, nat_lit 5, nat_lit 4, [(.inr (.inr (.inl (nat_lit 60))))], nat_lit 0, [(nat_lit 60, nat_lit 3, nat_lit 1), (nat_lit 60, nat_lit 9, nat_lit 61), (nat_lit 60, nat_lit 10, nat_lit 62), (nat_lit 60, nat_lit 11, nat_lit 63), (nat_lit 60, nat_lit 2, nat_lit 32), (nat_lit 32, nat_lit 8, nat_lit 33), (nat_lit 32, nat_lit 9, nat_lit 34), (nat_lit 32, nat_lit 10, nat_lit 35), (nat_lit 32, nat_lit 11, nat_lit 36), (nat_lit 32, nat_lit 12, nat_lit 41), (nat_lit 32, nat_lit 13, nat_lit 46), (nat_lit 32, nat_lit 14, nat_lit 47), (nat_lit 36, nat_lit 0, nat_lit 37), (nat_lit 41, nat_lit 0, nat_lit 42), (nat_lit 36, nat_lit 1, nat_lit 38), (nat_lit 41, nat_lit 1, nat_lit 43), (nat_lit 36, nat_lit 2, nat_lit 39), (nat_lit 41, nat_lit 2, nat_lit 44), (nat_lit 36, nat_lit 3, nat_lit 40), (nat_lit 41, nat_lit 3, nat_lit 45), (nat_lit 47, nat_lit 2, nat_lit 48), (nat_lit 47, nat_lit 3, nat_lit 49), (nat_lit 47, nat_lit 4, nat_lit 50), (nat_lit 47, nat_lit 5, nat_lit 51), (nat_lit 47, nat_lit 6, nat_lit 52)], []), (nat_lit 36, nat_lit 6, nat_lit 4, [(.inr (.inr (.inl (nat_lit 60)))), (.inl (nat_lit 1, (.ofNat (nat_lit 0))))], nat_lit 0, [(nat_lit 60, nat_lit 3, nat_lit 1), (nat_lit 60, nat_lit 9, nat_lit 61), (nat_lit 60, nat_lit 10, nat_lit 62), (nat_lit 60, nat_lit 11, nat_lit 63), (nat_lit 60, nat_lit 2, nat_lit 32), (nat_lit 32, nat_lit 8, nat_lit 33), (nat_lit 32, nat_lit 9, nat_lit 34), (nat_lit 32, nat_lit 10, nat_lit 35), (nat_lit 32, nat_lit 11, nat_lit 36), (nat_lit 32, nat_lit 12, nat_lit 41), (nat_lit 32, nat_lit 13, nat_lit 46), (nat_lit 32, nat_lit 14, nat_lit 47), (nat_lit 36, nat_lit 0, nat_lit 37), (nat_lit 41, nat_lit 0, nat_lit 42), (nat_lit 36, nat_lit 1, nat_lit 38), (nat_lit 41, nat_lit 1, nat_lit 43), (nat_lit 36, nat_lit 2, nat_lit 39), (nat_lit 41, nat_lit 2, nat_lit 44), (nat_lit 36, nat_lit 3, nat_lit 40), (nat_lit 41, nat_lit 3, nat_lit 45), (nat_lit 47, nat_lit 2, nat_lit 48), (nat_lit 47, nat_lit 3, nat_lit 49), (nat_lit 47, nat_lit 4, nat_lit 50), (nat_lit 47, nat_lit 5, nat_lit 51), (nat_lit 47, nat_lit 6, nat_lit 52)], [])]) (cu := []) (cs := [(nat_lit 0, zPqe_flaw0, zOqe_flaw0, zMqe_flaw0), (nat_lit 1, zPqe_readGroove0, zOqe_readGroove0, zMqe_readGroove0), (nat_lit 2, zPqe_readScratch0, zOqe_readScratch0, zMqe_readScratch0), (nat_lit 3, zPqe_readGuest0, zOqe_readGuest0, zMqe_readGuest0), (nat_lit 4, zPqe_next0, zOqe_next0, zMqe_next0), (nat_lit 5, zPqe_readLaw, zOqe_readLaw, zMqe_readLaw), (nat_lit 6, zPqe_readOnce0, zOqe_readOnce0, zMqe_readOnce0)]) (iv := zVqe_readLine) (po := [zOqe_readLine]) (pr := zPqe_readLine) (mods := zMqe_readLine) (D7 := zDqe_readLine) (D0 := zEqe_readLine) (Dm := zFqe_readLine) (f0 := 18) pCqe_readLine qCqe_readLine iCqe_readLine pPqe_readLine (fun xs η _ y η' => pQqe_readLine xs η y η') zX_low pr_mtR rfl (List.forall_mem_cons.mpr ⟨zqe_flaw0, List.forall_mem_cons.mpr ⟨zqe_readGroove0, List.forall_mem_cons.mpr ⟨zqe_readScratch0, List.forall_mem_cons.mpr ⟨zqe_readGuest0, List.forall_mem_cons.mpr ⟨zqe_next0, List.forall_mem_cons.mpr ⟨zqe_readLaw hro, List.forall_mem_cons.mpr ⟨zqe_readOnce0, fun _ h => nomatch h⟩⟩⟩⟩⟩⟩⟩) (by decide +kernel) (by decide +kernel) (by decide +kernel)
    (by
      intro xs η hr hl hp hpp
      match xs, hl, hp, hpp with
      | [], _, hp, hpp =>
        refine List.forall_mem_cons.mpr ⟨?_, List.forall_mem_cons.mpr ⟨?_, List.forall_mem_cons.mpr ⟨?_, List.forall_mem_cons.mpr ⟨?_, List.forall_mem_cons.mpr ⟨?_, List.forall_mem_cons.mpr ⟨?_, List.forall_mem_cons.mpr ⟨?_, List.forall_mem_cons.mpr ⟨?_, List.forall_mem_cons.mpr ⟨?_, List.forall_mem_cons.mpr ⟨?_, List.forall_mem_cons.mpr ⟨?_, List.forall_mem_cons.mpr ⟨?_, List.forall_mem_cons.mpr ⟨?_, List.forall_mem_cons.mpr ⟨?_, List.forall_mem_cons.mpr ⟨?_, List.forall_mem_cons.mpr ⟨?_, List.forall_mem_cons.mpr ⟨?_, List.forall_mem_cons.mpr ⟨?_, List.forall_mem_cons.mpr ⟨?_, List.forall_mem_cons.mpr ⟨?_, List.forall_mem_cons.mpr ⟨?_, fun _ h => nomatch h⟩⟩⟩⟩⟩⟩⟩⟩⟩⟩⟩⟩⟩⟩⟩⟩⟩⟩⟩⟩⟩
        · show ∀ x1 : Int, x1 = η 60 (Int.toNat 6) → zok 0 x1 → (x1 = 18) → ∀ x2 : Int, x2 = η 60 (Int.toNat 8) → zok 0 x2 → (x2 < 0) → ∀ x3 : Int, x3 = η 60 (Int.toNat 8) → zok 0 x3 → ∀ x4 : Int, x4 = zd 0 2 x3 3 → ((gC2 wl_qe [(nat_lit 0, zPqe_flaw0, zOqe_flaw0, zMqe_flaw0), (nat_lit 1, zPqe_readGroove0, zOqe_readGroove0, zMqe_readGroove0), (nat_lit 2, zPqe_readScratch0, zOqe_readScratch0, zMqe_readScratch0), (nat_lit 3, zPqe_readGuest0, zOqe_readGuest0, zMqe_readGuest0), (nat_lit 4, zPqe_next0, zOqe_next0, zMqe_next0), (nat_lit 5, zPqe_readLaw, zOqe_readLaw, zMqe_readLaw), (nat_lit 6, zPqe_readOnce0, zOqe_readOnce0, zMqe_readOnce0)] pCqe_readLine qCqe_readLine) 6).1 [x4] η
          have wk0 : yp_wk η := hpp.2
          have hpp := hpp.1
          intro x1 e1 r1 c1 x2 e2 r2 c2 x3 e3 r3 x4 e4
          refine yj_a ?_ ?_
          · first
            | exact hpp
            | exact hpp.1
          · exact wk0
        · show ∀ x1 : Int, x1 = η 60 (Int.toNat 6) → zok 0 x1 → (x1 = 18) → ∀ x2 : Int, x2 = η 60 (Int.toNat 8) → zok 0 x2 → (x2 < 0) → ∀ x3 : Int, x3 = η 60 (Int.toNat 8) → zok 0 x3 → ∀ x4 : Int, x4 = zd 0 2 x3 3 → ∀ (x5 : Int) (η1 : zE), ((gC2 wl_qe [(nat_lit 0, zPqe_flaw0, zOqe_flaw0, zMqe_flaw0), (nat_lit 1, zPqe_readGroove0, zOqe_readGroove0, zMqe_readGroove0), (nat_lit 2, zPqe_readScratch0, zOqe_readScratch0, zMqe_readScratch0), (nat_lit 3, zPqe_readGuest0, zOqe_readGuest0, zMqe_readGuest0), (nat_lit 4, zPqe_next0, zOqe_next0, zMqe_next0), (nat_lit 5, zPqe_readLaw, zOqe_readLaw, zMqe_readLaw), (nat_lit 6, zPqe_readOnce0, zOqe_readOnce0, zMqe_readOnce0)] pCqe_readLine qCqe_readLine) 6).2 [x4] η x5 η1 → (fun (_ : Nat) (y : Int) (η' : zE) => pQqe_readLine [] η y η') 0 0 η1
          have wk0 : yp_wk η := hpp.2
          have hpp := hpp.1
          intro x1 e1 r1 c1 x2 e2 r2 c2 x3 e3 r3 x4 e4 x5 η1 h5
          have y5 : fQqe_readOnce0 [x4] η x5 η1 := h5.2.2
          have k5 : sQ wl_qe zTr zOqe_readOnce0 zMqe_readOnce0 [x4] η x5 η1 ∧ oQqe_readOnce0 [x4] η x5 η1 := ⟨h5.1, h5.2.1⟩
          refine yj_a ?_ ?_
          · have y5 : fQqe_readOnce0 [x4] η x5 η1 := h5.2.2
            have k5 : sQ wl_qe zTr zOqe_readOnce0 zMqe_readOnce0 [x4] η x5 η1 ∧ oQqe_readOnce0 [x4] η x5 η1 := ⟨h5.1, h5.2.1⟩
            first
            | exact k5.2
            | exact k5.2.1
          · have e1 : x1 = η 60 6 := e1
            clear r1
            have e2 : x2 = η 60 8 := e2
            clear r2
            have e3 : x3 = η 60 8 := e3
            clear r3
            have b5 : η1 = (yp_onc x4 η) := y5
            clear k5 h5
            show η1 = (yp_lin η)
            subst e1
            subst e2
            subst e3
            subst e4
            subst b5
            unfold yp_lin
            (repeat' split) <;> first | (exfalso; omega) | rfl
        · show ∀ x1 : Int, x1 = η 60 (Int.toNat 6) → zok 0 x1 → (x1 = 18) → ∀ x2 : Int, x2 = η 60 (Int.toNat 8) → zok 0 x2 → (6 < x2) → ∀ x3 : Int, x3 = η 60 (Int.toNat 8) → zok 0 x3 → ∀ x4 : Int, x4 = zd 0 2 x3 3 → ((gC2 wl_qe [(nat_lit 0, zPqe_flaw0, zOqe_flaw0, zMqe_flaw0), (nat_lit 1, zPqe_readGroove0, zOqe_readGroove0, zMqe_readGroove0), (nat_lit 2, zPqe_readScratch0, zOqe_readScratch0, zMqe_readScratch0), (nat_lit 3, zPqe_readGuest0, zOqe_readGuest0, zMqe_readGuest0), (nat_lit 4, zPqe_next0, zOqe_next0, zMqe_next0), (nat_lit 5, zPqe_readLaw, zOqe_readLaw, zMqe_readLaw), (nat_lit 6, zPqe_readOnce0, zOqe_readOnce0, zMqe_readOnce0)] pCqe_readLine qCqe_readLine) 6).1 [x4] η
          have wk0 : yp_wk η := hpp.2
          have hpp := hpp.1
          intro x1 e1 r1 c1 x2 e2 r2 c2 x3 e3 r3 x4 e4
          refine yj_a ?_ ?_
          · first
            | exact hpp
            | exact hpp.1
          · exact wk0
        · show ∀ x1 : Int, x1 = η 60 (Int.toNat 6) → zok 0 x1 → (x1 = 18) → ∀ x2 : Int, x2 = η 60 (Int.toNat 8) → zok 0 x2 → (6 < x2) → ∀ x3 : Int, x3 = η 60 (Int.toNat 8) → zok 0 x3 → ∀ x4 : Int, x4 = zd 0 2 x3 3 → ∀ (x5 : Int) (η1 : zE), ((gC2 wl_qe [(nat_lit 0, zPqe_flaw0, zOqe_flaw0, zMqe_flaw0), (nat_lit 1, zPqe_readGroove0, zOqe_readGroove0, zMqe_readGroove0), (nat_lit 2, zPqe_readScratch0, zOqe_readScratch0, zMqe_readScratch0), (nat_lit 3, zPqe_readGuest0, zOqe_readGuest0, zMqe_readGuest0), (nat_lit 4, zPqe_next0, zOqe_next0, zMqe_next0), (nat_lit 5, zPqe_readLaw, zOqe_readLaw, zMqe_readLaw), (nat_lit 6, zPqe_readOnce0, zOqe_readOnce0, zMqe_readOnce0)] pCqe_readLine qCqe_readLine) 6).2 [x4] η x5 η1 → (fun (_ : Nat) (y : Int) (η' : zE) => pQqe_readLine [] η y η') 0 0 η1
          have wk0 : yp_wk η := hpp.2
          have hpp := hpp.1
          intro x1 e1 r1 c1 x2 e2 r2 c2 x3 e3 r3 x4 e4 x5 η1 h5
          have y5 : fQqe_readOnce0 [x4] η x5 η1 := h5.2.2
          have k5 : sQ wl_qe zTr zOqe_readOnce0 zMqe_readOnce0 [x4] η x5 η1 ∧ oQqe_readOnce0 [x4] η x5 η1 := ⟨h5.1, h5.2.1⟩
          refine yj_a ?_ ?_
          · have y5 : fQqe_readOnce0 [x4] η x5 η1 := h5.2.2
            have k5 : sQ wl_qe zTr zOqe_readOnce0 zMqe_readOnce0 [x4] η x5 η1 ∧ oQqe_readOnce0 [x4] η x5 η1 := ⟨h5.1, h5.2.1⟩
            first
            | exact k5.2
            | exact k5.2.1
          · have e1 : x1 = η 60 6 := e1
            clear r1
            have e2 : x2 = η 60 8 := e2
            clear r2
            have e3 : x3 = η 60 8 := e3
            clear r3
            have b5 : η1 = (yp_onc x4 η) := y5
            clear k5 h5
            show η1 = (yp_lin η)
            subst e1
            subst e2
            subst e3
            subst e4
            subst b5
            unfold yp_lin
            (repeat' split) <;> first | (exfalso; omega) | rfl
        · show ∀ x1 : Int, x1 = η 60 (Int.toNat 6) → zok 0 x1 → (x1 = 18) → ∀ x2 : Int, x2 = η 60 (Int.toNat 8) → zok 0 x2 → (x2 = 0) → ((gC2 wl_qe [(nat_lit 0, zPqe_flaw0, zOqe_flaw0, zMqe_flaw0), (nat_lit 1, zPqe_readGroove0, zOqe_readGroove0, zMqe_readGroove0), (nat_lit 2, zPqe_readScratch0, zOqe_readScratch0, zMqe_readScratch0), (nat_lit 3, zPqe_readGuest0, zOqe_readGuest0, zMqe_readGuest0), (nat_lit 4, zPqe_next0, zOqe_next0, zMqe_next0), (nat_lit 5, zPqe_readLaw, zOqe_readLaw, zMqe_readLaw), (nat_lit 6, zPqe_readOnce0, zOqe_readOnce0, zMqe_readOnce0)] pCqe_readLine qCqe_readLine) 1).1 [] η
          have wk0 : yp_wk η := hpp.2
          have hpp := hpp.1
          intro x1 e1 r1 c1 x2 e2 r2 c2
          refine yj_a ?_ ?_
          · first
            | exact hpp
            | exact hpp.1
          · exact wk0
        · show ∀ x1 : Int, x1 = η 60 (Int.toNat 6) → zok 0 x1 → (x1 = 18) → ∀ x2 : Int, x2 = η 60 (Int.toNat 8) → zok 0 x2 → (x2 = 0) → ∀ (x3 : Int) (η1 : zE), ((gC2 wl_qe [(nat_lit 0, zPqe_flaw0, zOqe_flaw0, zMqe_flaw0), (nat_lit 1, zPqe_readGroove0, zOqe_readGroove0, zMqe_readGroove0), (nat_lit 2, zPqe_readScratch0, zOqe_readScratch0, zMqe_readScratch0), (nat_lit 3, zPqe_readGuest0, zOqe_readGuest0, zMqe_readGuest0), (nat_lit 4, zPqe_next0, zOqe_next0, zMqe_next0), (nat_lit 5, zPqe_readLaw, zOqe_readLaw, zMqe_readLaw), (nat_lit 6, zPqe_readOnce0, zOqe_readOnce0, zMqe_readOnce0)] pCqe_readLine qCqe_readLine) 1).2 [] η x3 η1 → (fun (_ : Nat) (y : Int) (η' : zE) => pQqe_readLine [] η y η') 0 0 η1
          have wk0 : yp_wk η := hpp.2
          have hpp := hpp.1
          intro x1 e1 r1 c1 x2 e2 r2 c2 x3 η1 h3
          have y3 : fQqe_readGroove0 [] η x3 η1 := h3.2.2
          have k3 : sQ wl_qe zTr zOqe_readGroove0 zMqe_readGroove0 [] η x3 η1 ∧ oQqe_readGroove0 [] η x3 η1 := ⟨h3.1, h3.2.1⟩
          refine yj_a ?_ ?_
          · have y3 : fQqe_readGroove0 [] η x3 η1 := h3.2.2
            have k3 : sQ wl_qe zTr zOqe_readGroove0 zMqe_readGroove0 [] η x3 η1 ∧ oQqe_readGroove0 [] η x3 η1 := ⟨h3.1, h3.2.1⟩
            first
            | exact k3.2
            | exact k3.2.1
          · have e1 : x1 = η 60 6 := e1
            clear r1
            have e2 : x2 = η 60 8 := e2
            clear r2
            have b3 : η1 = (yp_grv η) := y3
            clear k3 h3
            show η1 = (yp_lin η)
            subst e1
            subst e2
            subst b3
            unfold yp_lin
            (repeat' split) <;> first | (exfalso; omega) | rfl
        · show ∀ x1 : Int, x1 = η 60 (Int.toNat 6) → zok 0 x1 → (x1 = 18) → ∀ x2 : Int, x2 = η 60 (Int.toNat 8) → zok 0 x2 → (x2 = 1) → ((gC2 wl_qe [(nat_lit 0, zPqe_flaw0, zOqe_flaw0, zMqe_flaw0), (nat_lit 1, zPqe_readGroove0, zOqe_readGroove0, zMqe_readGroove0), (nat_lit 2, zPqe_readScratch0, zOqe_readScratch0, zMqe_readScratch0), (nat_lit 3, zPqe_readGuest0, zOqe_readGuest0, zMqe_readGuest0), (nat_lit 4, zPqe_next0, zOqe_next0, zMqe_next0), (nat_lit 5, zPqe_readLaw, zOqe_readLaw, zMqe_readLaw), (nat_lit 6, zPqe_readOnce0, zOqe_readOnce0, zMqe_readOnce0)] pCqe_readLine qCqe_readLine) 2).1 [] η
          have wk0 : yp_wk η := hpp.2
          have hpp := hpp.1
          intro x1 e1 r1 c1 x2 e2 r2 c2
          refine yj_a ?_ ?_
          · first
            | exact hpp
            | exact hpp.1
          · exact wk0
        · show ∀ x1 : Int, x1 = η 60 (Int.toNat 6) → zok 0 x1 → (x1 = 18) → ∀ x2 : Int, x2 = η 60 (Int.toNat 8) → zok 0 x2 → (x2 = 1) → ∀ (x3 : Int) (η1 : zE), ((gC2 wl_qe [(nat_lit 0, zPqe_flaw0, zOqe_flaw0, zMqe_flaw0), (nat_lit 1, zPqe_readGroove0, zOqe_readGroove0, zMqe_readGroove0), (nat_lit 2, zPqe_readScratch0, zOqe_readScratch0, zMqe_readScratch0), (nat_lit 3, zPqe_readGuest0, zOqe_readGuest0, zMqe_readGuest0), (nat_lit 4, zPqe_next0, zOqe_next0, zMqe_next0), (nat_lit 5, zPqe_readLaw, zOqe_readLaw, zMqe_readLaw), (nat_lit 6, zPqe_readOnce0, zOqe_readOnce0, zMqe_readOnce0)] pCqe_readLine qCqe_readLine) 2).2 [] η x3 η1 → (fun (_ : Nat) (y : Int) (η' : zE) => pQqe_readLine [] η y η') 0 0 η1
          have wk0 : yp_wk η := hpp.2
          have hpp := hpp.1
          intro x1 e1 r1 c1 x2 e2 r2 c2 x3 η1 h3
          have y3 : fQqe_readScratch0 [] η x3 η1 := h3.2.2
          have k3 : sQ wl_qe zTr zOqe_readScratch0 zMqe_readScratch0 [] η x3 η1 ∧ oQqe_readScratch0 [] η x3 η1 := ⟨h3.1, h3.2.1⟩
          refine yj_a ?_ ?_
          · have y3 : fQqe_readScratch0 [] η x3 η1 := h3.2.2
            have k3 : sQ wl_qe zTr zOqe_readScratch0 zMqe_readScratch0 [] η x3 η1 ∧ oQqe_readScratch0 [] η x3 η1 := ⟨h3.1, h3.2.1⟩
            first
            | exact k3.2
            | exact k3.2.1
          · have e1 : x1 = η 60 6 := e1
            clear r1
            have e2 : x2 = η 60 8 := e2
            clear r2
            have b3 : η1 = (yp_scr η) := y3
            clear k3 h3
            show η1 = (yp_lin η)
            subst e1
            subst e2
            subst b3
            unfold yp_lin
            (repeat' split) <;> first | (exfalso; omega) | rfl
        · show ∀ x1 : Int, x1 = η 60 (Int.toNat 6) → zok 0 x1 → (x1 = 18) → ∀ x2 : Int, x2 = η 60 (Int.toNat 8) → zok 0 x2 → (x2 = 2) → ((gC2 wl_qe [(nat_lit 0, zPqe_flaw0, zOqe_flaw0, zMqe_flaw0), (nat_lit 1, zPqe_readGroove0, zOqe_readGroove0, zMqe_readGroove0), (nat_lit 2, zPqe_readScratch0, zOqe_readScratch0, zMqe_readScratch0), (nat_lit 3, zPqe_readGuest0, zOqe_readGuest0, zMqe_readGuest0), (nat_lit 4, zPqe_next0, zOqe_next0, zMqe_next0), (nat_lit 5, zPqe_readLaw, zOqe_readLaw, zMqe_readLaw), (nat_lit 6, zPqe_readOnce0, zOqe_readOnce0, zMqe_readOnce0)] pCqe_readLine qCqe_readLine) 3).1 [] η
          have wk0 : yp_wk η := hpp.2
          have hpp := hpp.1
          intro x1 e1 r1 c1 x2 e2 r2 c2
          refine yj_a ?_ ?_
          · first
            | exact hpp
            | exact hpp.1
          · exact wk0
        · show ∀ x1 : Int, x1 = η 60 (Int.toNat 6) → zok 0 x1 → (x1 = 18) → ∀ x2 : Int, x2 = η 60 (Int.toNat 8) → zok 0 x2 → (x2 = 2) → ∀ (x3 : Int) (η1 : zE), ((gC2 wl_qe [(nat_lit 0, zPqe_flaw0, zOqe_flaw0, zMqe_flaw0), (nat_lit 1, zPqe_readGroove0, zOqe_readGroove0, zMqe_readGroove0), (nat_lit 2, zPqe_readScratch0, zOqe_readScratch0, zMqe_readScratch0), (nat_lit 3, zPqe_readGuest0, zOqe_readGuest0, zMqe_readGuest0), (nat_lit 4, zPqe_next0, zOqe_next0, zMqe_next0), (nat_lit 5, zPqe_readLaw, zOqe_readLaw, zMqe_readLaw), (nat_lit 6, zPqe_readOnce0, zOqe_readOnce0, zMqe_readOnce0)] pCqe_readLine qCqe_readLine) 3).2 [] η x3 η1 → (fun (_ : Nat) (y : Int) (η' : zE) => pQqe_readLine [] η y η') 0 0 η1
          have wk0 : yp_wk η := hpp.2
          have hpp := hpp.1
          intro x1 e1 r1 c1 x2 e2 r2 c2 x3 η1 h3
          have y3 : fQqe_readGuest0 [] η x3 η1 := h3.2.2
          have k3 : sQ wl_qe zTr zOqe_readGuest0 zMqe_readGuest0 [] η x3 η1 ∧ oQqe_readGuest0 [] η x3 η1 := ⟨h3.1, h3.2.1⟩
          refine yj_a ?_ ?_
          · have y3 : fQqe_readGuest0 [] η x3 η1 := h3.2.2
            have k3 : sQ wl_qe zTr zOqe_readGuest0 zMqe_readGuest0 [] η x3 η1 ∧ oQqe_readGuest0 [] η x3 η1 := ⟨h3.1, h3.2.1⟩
            first
            | exact k3.2
            | exact k3.2.1
          · have e1 : x1 = η 60 6 := e1
            clear r1
            have e2 : x2 = η 60 8 := e2
            clear r2
            have b3 : η1 = (yp_gst η) := y3
            clear k3 h3
            show η1 = (yp_lin η)
            subst e1
            subst e2
            subst b3
            unfold yp_lin
            (repeat' split) <;> first | (exfalso; omega) | rfl
        · show ∀ x1 : Int, x1 = η 60 (Int.toNat 6) → zok 0 x1 → (x1 = 18) → ∀ x2 : Int, x2 = η 60 (Int.toNat 8) → zok 0 x2 → (x2 = 3) → ∀ x3 : Int, x3 = η 60 (Int.toNat 8) → zok 0 x3 → ∀ x4 : Int, x4 = zd 0 2 x3 3 → ((gC2 wl_qe [(nat_lit 0, zPqe_flaw0, zOqe_flaw0, zMqe_flaw0), (nat_lit 1, zPqe_readGroove0, zOqe_readGroove0, zMqe_readGroove0), (nat_lit 2, zPqe_readScratch0, zOqe_readScratch0, zMqe_readScratch0), (nat_lit 3, zPqe_readGuest0, zOqe_readGuest0, zMqe_readGuest0), (nat_lit 4, zPqe_next0, zOqe_next0, zMqe_next0), (nat_lit 5, zPqe_readLaw, zOqe_readLaw, zMqe_readLaw), (nat_lit 6, zPqe_readOnce0, zOqe_readOnce0, zMqe_readOnce0)] pCqe_readLine qCqe_readLine) 6).1 [x4] η
          have wk0 : yp_wk η := hpp.2
          have hpp := hpp.1
          intro x1 e1 r1 c1 x2 e2 r2 c2 x3 e3 r3 x4 e4
          refine yj_a ?_ ?_
          · first
            | exact hpp
            | exact hpp.1
          · exact wk0
        · show ∀ x1 : Int, x1 = η 60 (Int.toNat 6) → zok 0 x1 → (x1 = 18) → ∀ x2 : Int, x2 = η 60 (Int.toNat 8) → zok 0 x2 → (x2 = 3) → ∀ x3 : Int, x3 = η 60 (Int.toNat 8) → zok 0 x3 → ∀ x4 : Int, x4 = zd 0 2 x3 3 → ∀ (x5 : Int) (η1 : zE), ((gC2 wl_qe [(nat_lit 0, zPqe_flaw0, zOqe_flaw0, zMqe_flaw0), (nat_lit 1, zPqe_readGroove0, zOqe_readGroove0, zMqe_readGroove0), (nat_lit 2, zPqe_readScratch0, zOqe_readScratch0, zMqe_readScratch0), (nat_lit 3, zPqe_readGuest0, zOqe_readGuest0, zMqe_readGuest0), (nat_lit 4, zPqe_next0, zOqe_next0, zMqe_next0), (nat_lit 5, zPqe_readLaw, zOqe_readLaw, zMqe_readLaw), (nat_lit 6, zPqe_readOnce0, zOqe_readOnce0, zMqe_readOnce0)] pCqe_readLine qCqe_readLine) 6).2 [x4] η x5 η1 → (fun (_ : Nat) (y : Int) (η' : zE) => pQqe_readLine [] η y η') 0 0 η1
          have wk0 : yp_wk η := hpp.2
          have hpp := hpp.1
          intro x1 e1 r1 c1 x2 e2 r2 c2 x3 e3 r3 x4 e4 x5 η1 h5
          have y5 : fQqe_readOnce0 [x4] η x5 η1 := h5.2.2
          have k5 : sQ wl_qe zTr zOqe_readOnce0 zMqe_readOnce0 [x4] η x5 η1 ∧ oQqe_readOnce0 [x4] η x5 η1 := ⟨h5.1, h5.2.1⟩
          refine yj_a ?_ ?_
          · have y5 : fQqe_readOnce0 [x4] η x5 η1 := h5.2.2
            have k5 : sQ wl_qe zTr zOqe_readOnce0 zMqe_readOnce0 [x4] η x5 η1 ∧ oQqe_readOnce0 [x4] η x5 η1 := ⟨h5.1, h5.2.1⟩
            first
            | exact k5.2
            | exact k5.2.1
          · have e1 : x1 = η 60 6 := e1
            clear r1
            have e2 : x2 = η 60 8 := e2
            clear r2
            have e3 : x3 = η 60 8 := e3
            clear r3
            have b5 : η1 = (yp_onc x4 η) := y5
            clear k5 h5
            show η1 = (yp_lin η)
            subst e1
            subst e2
            subst e3
            subst e4
            subst b5
            unfold yp_lin
            (repeat' split) <;> first | (exfalso; omega) | rfl
        · show ∀ x1 : Int, x1 = η 60 (Int.toNat 6) → zok 0 x1 → (x1 = 18) → ∀ x2 : Int, x2 = η 60 (Int.toNat 8) → zok 0 x2 → (x2 = 4) → ∀ x3 : Int, x3 = η 60 (Int.toNat 8) → zok 0 x3 → ∀ x4 : Int, x4 = zd 0 2 x3 3 → ((gC2 wl_qe [(nat_lit 0, zPqe_flaw0, zOqe_flaw0, zMqe_flaw0), (nat_lit 1, zPqe_readGroove0, zOqe_readGroove0, zMqe_readGroove0), (nat_lit 2, zPqe_readScratch0, zOqe_readScratch0, zMqe_readScratch0), (nat_lit 3, zPqe_readGuest0, zOqe_readGuest0, zMqe_readGuest0), (nat_lit 4, zPqe_next0, zOqe_next0, zMqe_next0), (nat_lit 5, zPqe_readLaw, zOqe_readLaw, zMqe_readLaw), (nat_lit 6, zPqe_readOnce0, zOqe_readOnce0, zMqe_readOnce0)] pCqe_readLine qCqe_readLine) 6).1 [x4] η
          have wk0 : yp_wk η := hpp.2
          have hpp := hpp.1
          intro x1 e1 r1 c1 x2 e2 r2 c2 x3 e3 r3 x4 e4
          refine yj_a ?_ ?_
          · first
            | exact hpp
            | exact hpp.1
          · exact wk0
        · show ∀ x1 : Int, x1 = η 60 (Int.toNat 6) → zok 0 x1 → (x1 = 18) → ∀ x2 : Int, x2 = η 60 (Int.toNat 8) → zok 0 x2 → (x2 = 4) → ∀ x3 : Int, x3 = η 60 (Int.toNat 8) → zok 0 x3 → ∀ x4 : Int, x4 = zd 0 2 x3 3 → ∀ (x5 : Int) (η1 : zE), ((gC2 wl_qe [(nat_lit 0, zPqe_flaw0, zOqe_flaw0, zMqe_flaw0), (nat_lit 1, zPqe_readGroove0, zOqe_readGroove0, zMqe_readGroove0), (nat_lit 2, zPqe_readScratch0, zOqe_readScratch0, zMqe_readScratch0), (nat_lit 3, zPqe_readGuest0, zOqe_readGuest0, zMqe_readGuest0), (nat_lit 4, zPqe_next0, zOqe_next0, zMqe_next0), (nat_lit 5, zPqe_readLaw, zOqe_readLaw, zMqe_readLaw), (nat_lit 6, zPqe_readOnce0, zOqe_readOnce0, zMqe_readOnce0)] pCqe_readLine qCqe_readLine) 6).2 [x4] η x5 η1 → (fun (_ : Nat) (y : Int) (η' : zE) => pQqe_readLine [] η y η') 0 0 η1
          have wk0 : yp_wk η := hpp.2
          have hpp := hpp.1
          intro x1 e1 r1 c1 x2 e2 r2 c2 x3 e3 r3 x4 e4 x5 η1 h5
          have y5 : fQqe_readOnce0 [x4] η x5 η1 := h5.2.2
          have k5 : sQ wl_qe zTr zOqe_readOnce0 zMqe_readOnce0 [x4] η x5 η1 ∧ oQqe_readOnce0 [x4] η x5 η1 := ⟨h5.1, h5.2.1⟩
          refine yj_a ?_ ?_
          · have y5 : fQqe_readOnce0 [x4] η x5 η1 := h5.2.2
            have k5 : sQ wl_qe zTr zOqe_readOnce0 zMqe_readOnce0 [x4] η x5 η1 ∧ oQqe_readOnce0 [x4] η x5 η1 := ⟨h5.1, h5.2.1⟩
            first
            | exact k5.2
            | exact k5.2.1
          · have e1 : x1 = η 60 6 := e1
            clear r1
            have e2 : x2 = η 60 8 := e2
            clear r2
            have e3 : x3 = η 60 8 := e3
            clear r3
            have b5 : η1 = (yp_onc x4 η) := y5
            clear k5 h5
            show η1 = (yp_lin η)
            subst e1
            subst e2
            subst e3
            subst e4
            subst b5
            unfold yp_lin
            (repeat' split) <;> first | (exfalso; omega) | rfl
        · show ∀ x1 : Int, x1 = η 60 (Int.toNat 6) → zok 0 x1 → (x1 = 18) → ∀ x2 : Int, x2 = η 60 (Int.toNat 8) → zok 0 x2 → (x2 = 5) → ∀ x3 : Int, x3 = η 60 (Int.toNat 8) → zok 0 x3 → ∀ x4 : Int, x4 = zd 0 2 x3 3 → ((gC2 wl_qe [(nat_lit 0, zPqe_flaw0, zOqe_flaw0, zMqe_flaw0), (nat_lit 1, zPqe_readGroove0, zOqe_readGroove0, zMqe_readGroove0), (nat_lit 2, zPqe_readScratch0, zOqe_readScratch0, zMqe_readScratch0), (nat_lit 3, zPqe_readGuest0, zOqe_readGuest0, zMqe_readGuest0), (nat_lit 4, zPqe_next0, zOqe_next0, zMqe_next0), (nat_lit 5, zPqe_readLaw, zOqe_readLaw, zMqe_readLaw), (nat_lit 6, zPqe_readOnce0, zOqe_readOnce0, zMqe_readOnce0)] pCqe_readLine qCqe_readLine) 6).1 [x4] η
          have wk0 : yp_wk η := hpp.2
          have hpp := hpp.1
          intro x1 e1 r1 c1 x2 e2 r2 c2 x3 e3 r3 x4 e4
          refine yj_a ?_ ?_
          · first
            | exact hpp
            | exact hpp.1
          · exact wk0
        · show ∀ x1 : Int, x1 = η 60 (Int.toNat 6) → zok 0 x1 → (x1 = 18) → ∀ x2 : Int, x2 = η 60 (Int.toNat 8) → zok 0 x2 → (x2 = 5) → ∀ x3 : Int, x3 = η 60 (Int.toNat 8) → zok 0 x3 → ∀ x4 : Int, x4 = zd 0 2 x3 3 → ∀ (x5 : Int) (η1 : zE), ((gC2 wl_qe [(nat_lit 0, zPqe_flaw0, zOqe_flaw0, zMqe_flaw0), (nat_lit 1, zPqe_readGroove0, zOqe_readGroove0, zMqe_readGroove0), (nat_lit 2, zPqe_readScratch0, zOqe_readScratch0, zMqe_readScratch0), (nat_lit 3, zPqe_readGuest0, zOqe_readGuest0, zMqe_readGuest0), (nat_lit 4, zPqe_next0, zOqe_next0, zMqe_next0), (nat_lit 5, zPqe_readLaw, zOqe_readLaw, zMqe_readLaw), (nat_lit 6, zPqe_readOnce0, zOqe_readOnce0, zMqe_readOnce0)] pCqe_readLine qCqe_readLine) 6).2 [x4] η x5 η1 → (fun (_ : Nat) (y : Int) (η' : zE) => pQqe_readLine [] η y η') 0 0 η1
          have wk0 : yp_wk η := hpp.2
          have hpp := hpp.1
          intro x1 e1 r1 c1 x2 e2 r2 c2 x3 e3 r3 x4 e4 x5 η1 h5
          have y5 : fQqe_readOnce0 [x4] η x5 η1 := h5.2.2
          have k5 : sQ wl_qe zTr zOqe_readOnce0 zMqe_readOnce0 [x4] η x5 η1 ∧ oQqe_readOnce0 [x4] η x5 η1 := ⟨h5.1, h5.2.1⟩
          refine yj_a ?_ ?_
          · have y5 : fQqe_readOnce0 [x4] η x5 η1 := h5.2.2
            have k5 : sQ wl_qe zTr zOqe_readOnce0 zMqe_readOnce0 [x4] η x5 η1 ∧ oQqe_readOnce0 [x4] η x5 η1 := ⟨h5.1, h5.2.1⟩
            first
            | exact k5.2
            | exact k5.2.1
          · have e1 : x1 = η 60 6 := e1
            clear r1
            have e2 : x2 = η 60 8 := e2
            clear r2
            have e3 : x3 = η 60 8 := e3
            clear r3
            have b5 : η1 = (yp_onc x4 η) := y5
            clear k5 h5
            show η1 = (yp_lin η)
            subst e1
            subst e2
            subst e3
            subst e4
            subst b5
            unfold yp_lin
            (repeat' split) <;> first | (exfalso; omega) | rfl
        · show ∀ x1 : Int, x1 = η 60 (Int.toNat 6) → zok 0 x1 → (x1 = 18) → ∀ x2 : Int, x2 = η 60 (Int.toNat 8) → zok 0 x2 → (x2 = 6) → ((gC2 wl_qe [(nat_lit 0, zPqe_flaw0, zOqe_flaw0, zMqe_flaw0), (nat_lit 1, zPqe_readGroove0, zOqe_readGroove0, zMqe_readGroove0), (nat_lit 2, zPqe_readScratch0, zOqe_readScratch0, zMqe_readScratch0), (nat_lit 3, zPqe_readGuest0, zOqe_readGuest0, zMqe_readGuest0), (nat_lit 4, zPqe_next0, zOqe_next0, zMqe_next0), (nat_lit 5, zPqe_readLaw, zOqe_readLaw, zMqe_readLaw), (nat_lit 6, zPqe_readOnce0, zOqe_readOnce0, zMqe_readOnce0)] pCqe_readLine qCqe_readLine) 4).1 [] η
          have wk0 : yp_wk η := hpp.2
          have hpp := hpp.1
          intro x1 e1 r1 c1 x2 e2 r2 c2
          refine yj_a ?_ ?_
          · first
            | exact hpp
            | exact hpp.1
          · exact wk0
        · show ∀ x1 : Int, x1 = η 60 (Int.toNat 6) → zok 0 x1 → (x1 = 18) → ∀ x2 : Int, x2 = η 60 (Int.toNat 8) → zok 0 x2 → (x2 = 6) → ∀ (x3 : Int) (η1 : zE), ((gC2 wl_qe [(nat_lit 0, zPqe_flaw0, zOqe_flaw0, zMqe_flaw0), (nat_lit 1, zPqe_readGroove0, zOqe_readGroove0, zMqe_readGroove0), (nat_lit 2, zPqe_readScratch0, zOqe_readScratch0, zMqe_readScratch0), (nat_lit 3, zPqe_readGuest0, zOqe_readGuest0, zMqe_readGuest0), (nat_lit 4, zPqe_next0, zOqe_next0, zMqe_next0), (nat_lit 5, zPqe_readLaw, zOqe_readLaw, zMqe_readLaw), (nat_lit 6, zPqe_readOnce0, zOqe_readOnce0, zMqe_readOnce0)] pCqe_readLine qCqe_readLine) 4).2 [] η x3 η1 → ((gC2 wl_qe [(nat_lit 0, zPqe_flaw0, zOqe_flaw0, zMqe_flaw0), (nat_lit 1, zPqe_readGroove0, zOqe_readGroove0, zMqe_readGroove0), (nat_lit 2, zPqe_readScratch0, zOqe_readScratch0, zMqe_readScratch0), (nat_lit 3, zPqe_readGuest0, zOqe_readGuest0, zMqe_readGuest0), (nat_lit 4, zPqe_next0, zOqe_next0, zMqe_next0), (nat_lit 5, zPqe_readLaw, zOqe_readLaw, zMqe_readLaw), (nat_lit 6, zPqe_readOnce0, zOqe_readOnce0, zMqe_readOnce0)] pCqe_readLine qCqe_readLine) 5).1 [] η1
          have wk0 : yp_wk η := hpp.2
          have hpp := hpp.1
          intro x1 e1 r1 c1 x2 e2 r2 c2 x3 η1 h3
          have y3 : fQqe_next0 [] η x3 η1 := h3.2.2
          have k3 : sQ wl_qe zTr zOqe_next0 zMqe_next0 [] η x3 η1 ∧ oQqe_next0 [] η x3 η1 := ⟨h3.1, h3.2.1⟩
          refine yj_a ?_ ?_
          · have y3 : fQqe_next0 [] η x3 η1 := h3.2.2
            have k3 : sQ wl_qe zTr zOqe_next0 zMqe_next0 [] η x3 η1 ∧ oQqe_next0 [] η x3 η1 := ⟨h3.1, h3.2.1⟩
            first
            | exact k3.2
            | exact k3.2.1
          · have wk1 : yp_wk η1 := wk_of wk0 (fun j => k3.1.2.2.2.1 62 j (zinr_not (by decide +kernel)))
            exact wk1
        · show ∀ x1 : Int, x1 = η 60 (Int.toNat 6) → zok 0 x1 → (x1 = 18) → ∀ x2 : Int, x2 = η 60 (Int.toNat 8) → zok 0 x2 → (x2 = 6) → ∀ (x3 : Int) (η1 : zE), ((gC2 wl_qe [(nat_lit 0, zPqe_flaw0, zOqe_flaw0, zMqe_flaw0), (nat_lit 1, zPqe_readGroove0, zOqe_readGroove0, zMqe_readGroove0), (nat_lit 2, zPqe_readScratch0, zOqe_readScratch0, zMqe_readScratch0), (nat_lit 3, zPqe_readGuest0, zOqe_readGuest0, zMqe_readGuest0), (nat_lit 4, zPqe_next0, zOqe_next0, zMqe_next0), (nat_lit 5, zPqe_readLaw, zOqe_readLaw, zMqe_readLaw), (nat_lit 6, zPqe_readOnce0, zOqe_readOnce0, zMqe_readOnce0)] pCqe_readLine qCqe_readLine) 4).2 [] η x3 η1 → ∀ (x4 : Int) (η2 : zE), ((gC2 wl_qe [(nat_lit 0, zPqe_flaw0, zOqe_flaw0, zMqe_flaw0), (nat_lit 1, zPqe_readGroove0, zOqe_readGroove0, zMqe_readGroove0), (nat_lit 2, zPqe_readScratch0, zOqe_readScratch0, zMqe_readScratch0), (nat_lit 3, zPqe_readGuest0, zOqe_readGuest0, zMqe_readGuest0), (nat_lit 4, zPqe_next0, zOqe_next0, zMqe_next0), (nat_lit 5, zPqe_readLaw, zOqe_readLaw, zMqe_readLaw), (nat_lit 6, zPqe_readOnce0, zOqe_readOnce0, zMqe_readOnce0)] pCqe_readLine qCqe_readLine) 5).2 [] η1 x4 η2 → (fun (_ : Nat) (y : Int) (η' : zE) => pQqe_readLine [] η y η') 0 0 η2
          have wk0 : yp_wk η := hpp.2
          have hpp := hpp.1
          intro x1 e1 r1 c1 x2 e2 r2 c2 x3 η1 h3 x4 η2 h4
          have y3 : fQqe_next0 [] η x3 η1 := h3.2.2
          have k3 : sQ wl_qe zTr zOqe_next0 zMqe_next0 [] η x3 η1 ∧ oQqe_next0 [] η x3 η1 := ⟨h3.1, h3.2.1⟩
          have y4 : fQqe_readLaw [] η1 x4 η2 := h4.2.2
          have k4 : sQ wl_qe zTr zOqe_readLaw zMqe_readLaw [] η1 x4 η2 ∧ oQqe_readLaw [] η1 x4 η2 := ⟨h4.1, h4.2.1⟩
          refine yj_a ?_ ?_
          · have y3 : fQqe_next0 [] η x3 η1 := h3.2.2
            have k3 : sQ wl_qe zTr zOqe_next0 zMqe_next0 [] η x3 η1 ∧ oQqe_next0 [] η x3 η1 := ⟨h3.1, h3.2.1⟩
            have y4 : fQqe_readLaw [] η1 x4 η2 := h4.2.2
            have k4 : sQ wl_qe zTr zOqe_readLaw zMqe_readLaw [] η1 x4 η2 ∧ oQqe_readLaw [] η1 x4 η2 := ⟨h4.1, h4.2.1⟩
            first
            | exact k4.2
            | exact k4.2.1
          · have e1 : x1 = η 60 6 := e1
            clear r1
            have e2 : x2 = η 60 8 := e2
            clear r2
            have b3 : η1 = (yp_adv η) := y3
            clear k3 h3
            have b4 : η2 = (yp_law η1) := y4
            clear k4 h4
            show η2 = (yp_lin η)
            subst e1
            subst e2
            subst b3
            subst b4
            unfold yp_lin
            (repeat' split) <;> first | (exfalso; omega) | rfl
        · show ∀ x1 : Int, x1 = η 60 (Int.toNat 6) → zok 0 x1 → (¬ x1 = 18) → ∀ x2 : Int, x2 = η 60 (Int.toNat 7) → zok 0 x2 → ((gC2 wl_qe [(nat_lit 0, zPqe_flaw0, zOqe_flaw0, zMqe_flaw0), (nat_lit 1, zPqe_readGroove0, zOqe_readGroove0, zMqe_readGroove0), (nat_lit 2, zPqe_readScratch0, zOqe_readScratch0, zMqe_readScratch0), (nat_lit 3, zPqe_readGuest0, zOqe_readGuest0, zMqe_readGuest0), (nat_lit 4, zPqe_next0, zOqe_next0, zMqe_next0), (nat_lit 5, zPqe_readLaw, zOqe_readLaw, zMqe_readLaw), (nat_lit 6, zPqe_readOnce0, zOqe_readOnce0, zMqe_readOnce0)] pCqe_readLine qCqe_readLine) 0).1 [1, x2] η
          have wk0 : yp_wk η := hpp.2
          have hpp := hpp.1
          intro x1 e1 r1 c1 x2 e2 r2
          refine yj_a ?_ ?_
          · first
            | exact hpp
            | exact hpp.1
          · exact wk0
        · show ∀ x1 : Int, x1 = η 60 (Int.toNat 6) → zok 0 x1 → (¬ x1 = 18) → ∀ x2 : Int, x2 = η 60 (Int.toNat 7) → zok 0 x2 → ∀ (x3 : Int) (η1 : zE), ((gC2 wl_qe [(nat_lit 0, zPqe_flaw0, zOqe_flaw0, zMqe_flaw0), (nat_lit 1, zPqe_readGroove0, zOqe_readGroove0, zMqe_readGroove0), (nat_lit 2, zPqe_readScratch0, zOqe_readScratch0, zMqe_readScratch0), (nat_lit 3, zPqe_readGuest0, zOqe_readGuest0, zMqe_readGuest0), (nat_lit 4, zPqe_next0, zOqe_next0, zMqe_next0), (nat_lit 5, zPqe_readLaw, zOqe_readLaw, zMqe_readLaw), (nat_lit 6, zPqe_readOnce0, zOqe_readOnce0, zMqe_readOnce0)] pCqe_readLine qCqe_readLine) 0).2 [1, x2] η x3 η1 → (fun (_ : Nat) (y : Int) (η' : zE) => pQqe_readLine [] η y η') 0 0 η1
          have wk0 : yp_wk η := hpp.2
          have hpp := hpp.1
          intro x1 e1 r1 c1 x2 e2 r2 x3 η1 h3
          have y3 : fQqe_flaw0 [1, x2] η x3 η1 := h3.2.2
          have k3 : sQ wl_qe zTr zOqe_flaw0 zMqe_flaw0 [1, x2] η x3 η1 ∧ oQqe_flaw0 [1, x2] η x3 η1 := ⟨h3.1, h3.2.1⟩
          refine yj_a ?_ ?_
          · have y3 : fQqe_flaw0 [1, x2] η x3 η1 := h3.2.2
            have k3 : sQ wl_qe zTr zOqe_flaw0 zMqe_flaw0 [1, x2] η x3 η1 ∧ oQqe_flaw0 [1, x2] η x3 η1 := ⟨h3.1, h3.2.1⟩
            first
            | exact k3.2
            | exact k3.2.1
          · have e1 : x1 = η 60 6 := e1
            clear r1
            have e2 : x2 = η 60 7 := e2
            clear r2
            have b3 : η1 = yp_flw 1 x2 η := y3
            clear k3 h3
            show η1 = (yp_lin η)
            subst e1
            subst e2
            subst b3
            unfold yp_lin
            (repeat' split) <;> first | (exfalso; omega) | rfl
      )
    (fun _ _ _ _ _ _ _ h => nomatch h)
    (fun _ h => nomatch h))
